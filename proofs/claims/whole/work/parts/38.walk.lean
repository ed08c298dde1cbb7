/-! walked by program (wip/gen): X12_isOffer X12_isOneOf X12_canPly X12_heapCode X12_beside X12_hasPiece X12_isEmpty X12_actTo X12_piecesOf X12_names X12_bound -/
def L_X12_isOffer : List (Option (Instr × Nat)) := [some (.iload_n 1, 1), some (.iload_n 2, 1), some (.if_icmp .ge 36, 3), none, none, some (.iload_n 2, 1), some (.iload_n 3, 1), some (.if_icmp .ge 31, 3), none, none, some (.aload_n 0, 1), some (.iload_n 1, 1), some (.invokevirtual 413, 3), none, none, some (.ifCond .eq 23, 3), none, none, some (.aload_n 0, 1), some (.iload_n 2, 1), some (.invokevirtual 413, 3), none, none, some (.ifCond .eq 15, 3), none, none, some (.aload_n 0, 1), some (.iload_n 3, 1), some (.invokevirtual 413, 3), none, none, some (.ifCond .eq 7, 3), none, none, some (.iconst 1, 1), some (.goto 4, 3), none, none, some (.iconst 0, 1), some (.ireturn, 1)]
def Y_X12_isOffer : YM := (⟨RX12, "isOffer", "(III)Z"⟩, prog_14_method_65_code, L_X12_isOffer, 4, some .boolean)
def f_X12_isOffer (r0 : Option Nat) (i1 : Int32) (i2 : Int32) (i3 : Int32) (M : Mem) : Option (Int32 × Mem) :=
(if i2 ≤ i1 then
tv (0 : Int32) (some ((0 : Int32), M))
else
(if i3 ≤ i2 then
tv (0 : Int32) (some ((0 : Int32), M))
else
cR M r0 (1, 12) (cA (f_X12_isIn r0 i1 M) fun v1 M1 =>
(if v1 = 0 then
tv (0 : Int32) (some ((0 : Int32), M1))
else
cR M1 r0 (1, 12) (cA (f_X12_isIn r0 i2 M1) fun v2 M2 =>
(if v2 = 0 then
tv (0 : Int32) (some ((0 : Int32), M2))
else
cR M2 r0 (1, 12) (cA (f_X12_isIn r0 i3 M2) fun v3 M3 =>
(if v3 = 0 then
tv (0 : Int32) (some ((0 : Int32), M3))
else
tv (1 : Int32) (some ((1 : Int32), M3))))))))))
def L_X12_isOneOf : List (Option (Instr × Nat)) := [some (.iload_n 0, 1), some (.iload_n 1, 1), some (.if_icmp .eq 13, 3), none, none, some (.iload_n 0, 1), some (.iload_n 2, 1), some (.if_icmp .eq 8, 3), none, none, some (.iload_n 0, 1), some (.iload_n 3, 1), some (.if_icmp .ne 7, 3), none, none, some (.iconst 1, 1), some (.goto 4, 3), none, none, some (.iconst 0, 1), some (.ireturn, 1)]
def Y_X12_isOneOf : YM := (⟨RX12, "isOneOf", "(IIII)Z"⟩, prog_14_method_68_code, L_X12_isOneOf, 4, some .boolean)
def f_X12_isOneOf (i0 : Int32) (i1 : Int32) (i2 : Int32) (i3 : Int32) (M : Mem) : Option (Int32 × Mem) :=
(if i0 = i1 then
tv (1 : Int32) (some ((1 : Int32), M))
else
(if i0 = i2 then
tv (1 : Int32) (some ((1 : Int32), M))
else
(if i0 = i3 then
tv (1 : Int32) (some ((1 : Int32), M))
else
tv (0 : Int32) (some ((0 : Int32), M)))))
def L_X12_canPly : List (Option (Instr × Nat)) := [some (.aload_n 0, 1), some (.iload_n 1, 1), some (.iload_n 2, 1), some (.iload_n 3, 1), some (.invokevirtual 419, 3), none, none, some (.ifCond .eq 36, 3), none, none, some (.iload 4, 2), none, some (.iload_n 1, 1), some (.iload_n 2, 1), some (.iload_n 3, 1), some (.invokestatic 428, 3), none, none, some (.ifCond .eq 25, 3), none, none, some (.iload 5, 2), none, some (.iload_n 1, 1), some (.iload_n 2, 1), some (.iload_n 3, 1), some (.invokestatic 428, 3), none, none, some (.ifCond .eq 14, 3), none, none, some (.iload 4, 2), none, some (.iload 5, 2), none, some (.if_icmp .eq 7, 3), none, none, some (.iconst 1, 1), some (.goto 4, 3), none, none, some (.iconst 0, 1), some (.ireturn, 1)]
def Y_X12_canPly : YM := (⟨RX12, "canPly", "(IIIII)Z"⟩, prog_14_method_69_code, L_X12_canPly, 6, some .boolean)
def f_X12_canPly (r0 : Option Nat) (i1 : Int32) (i2 : Int32) (i3 : Int32) (i4 : Int32) (i5 : Int32) (M : Mem) : Option (Int32 × Mem) :=
cR M r0 (1, 12) (cA (f_X12_isOffer r0 i1 i2 i3 M) fun v1 M1 =>
(if v1 = 0 then
tv (0 : Int32) (some ((0 : Int32), M1))
else
cA (f_X12_isOneOf i4 i1 i2 i3 M1) fun v2 M2 =>
(if v2 = 0 then
tv (0 : Int32) (some ((0 : Int32), M2))
else
cA (f_X12_isOneOf i5 i1 i2 i3 M2) fun v3 M3 =>
(if v3 = 0 then
tv (0 : Int32) (some ((0 : Int32), M3))
else
(if i4 = i5 then
tv (0 : Int32) (some ((0 : Int32), M3))
else
tv (1 : Int32) (some ((1 : Int32), M3)))))))
def L_X12_heapCode : List (Option (Instr × Nat)) := [some (.iconst 0, 1), some (.istore_n 1, 1), some (.iconst 0, 1), some (.istore_n 2, 1), some (.iload_n 2, 1), some (.bipush 8, 2), none, some (.if_icmp .ge 20, 3), none, none, some (.iconst 4, 1), some (.iload_n 1, 1), some (.imul, 1), some (.aload_n 0, 1), some (.getfield 91, 3), none, none, some (.iload_n 2, 1), some (.iaload, 1), some (.iadd, 1), some (.istore_n 1, 1), some (.iinc 2 1, 3), none, none, some (.goto (-20), 3), none, none, some (.iload_n 1, 1), some (.ireturn, 1)]
def Y_X12_heapCode : YM := (⟨RX12, "heapCode", "()I"⟩, prog_14_method_81_code, L_X12_heapCode, 3, some .int)
def b_X12_heapCode_4 (q4 : Option Nat → Int32 → Int32 → Mem → Option (Int32 × Mem)) (r0 : Option Nat) (i1 : Int32) (i2 : Int32) (M : Mem) : Option (Int32 × Mem) :=
(if (8 : Int32) ≤ i2 then
some (i1, M)
else
gR M r0 12 44 fun v1 =>
aI M v1 2 i2 fun v2 =>
q4 r0 (((4 : Int32) * i1) + v2) (i2 + (1 : Int32)) M)
def f_X12_heapCode_4 (n : Nat) : Option Nat → Int32 → Int32 → Mem → Option (Int32 × Mem) := lpN (fun _ _ _ _ => none) (b_X12_heapCode_4 ) n
def f_X12_heapCode (r0 : Option Nat) (M : Mem) : Option (Int32 × Mem) :=
f_X12_heapCode_4 FU r0 (0 : Int32) (0 : Int32) M
def L_X12_beside : List (Option (Instr × Nat)) := [some (.iload_n 1, 1), some (.iconst (-1), 1), some (.if_icmp .ne 5, 3), none, none, some (.iconst (-1), 1), some (.ireturn, 1), some (.iload_n 1, 1), some (.aload_n 0, 1), some (.getfield 138, 3), none, none, some (.irem, 1), some (.iload_n 2, 1), some (.iconst 1, 1), some (.if_icmp .ne 7, 3), none, none, some (.iconst 1, 1), some (.goto 13, 3), none, none, some (.iload_n 2, 1), some (.iconst 3, 1), some (.if_icmp .ne 7, 3), none, none, some (.iconst (-1), 1), some (.goto 4, 3), none, none, some (.iconst 0, 1), some (.iadd, 1), some (.istore_n 3, 1), some (.iload_n 1, 1), some (.aload_n 0, 1), some (.getfield 138, 3), none, none, some (.idiv, 1), some (.iload_n 2, 1), some (.iconst 2, 1), some (.if_icmp .ne 7, 3), none, none, some (.iconst 1, 1), some (.goto 12, 3), none, none, some (.iload_n 2, 1), some (.ifCond .ne 7, 3), none, none, some (.iconst (-1), 1), some (.goto 4, 3), none, none, some (.iconst 0, 1), some (.iadd, 1), some (.istore 4, 2), none, some (.iload_n 3, 1), some (.iconst 0, 1), some (.aload_n 0, 1), some (.getfield 138, 3), none, none, some (.iconst 1, 1), some (.isub, 1), some (.invokestatic 151, 3), none, none, some (.ifCond .eq 30, 3), none, none, some (.iload 4, 2), none, some (.iconst 0, 1), some (.aload_n 0, 1), some (.getfield 141, 3), none, none, some (.iconst 1, 1), some (.isub, 1), some (.invokestatic 151, 3), none, none, some (.ifCond .eq 15, 3), none, none, some (.iload_n 3, 1), some (.aload_n 0, 1), some (.getfield 138, 3), none, none, some (.iload 4, 2), none, some (.imul, 1), some (.iadd, 1), some (.goto 4, 3), none, none, some (.iconst (-1), 1), some (.ireturn, 1)]
def Y_X12_beside : YM := (⟨RX12, "beside", "(II)I"⟩, prog_14_method_49_code, L_X12_beside, 5, some .int)
def f_X12_beside_58  (r0 : Option Nat) (i3 : Int32) (si0 : Int32) (si1 : Int32) (M : Mem) : Option (Int32 × Mem) :=
gI M r0 12 0 fun v1 =>
cA (f_X12_in i3 (0 : Int32) (v1 - (1 : Int32)) M) fun v2 M1 =>
(if v2 = 0 then
some ((-1 : Int32), M1)
else
gI M1 r0 12 1 fun v3 =>
cA (f_X12_in (si0 + si1) (0 : Int32) (v3 - (1 : Int32)) M1) fun v4 M2 =>
(if v4 = 0 then
some ((-1 : Int32), M2)
else
gI M2 r0 12 0 fun v5 =>
some ((i3 + (v5 * (si0 + si1))), M2)))
def f_X12_beside_32  (r0 : Option Nat) (i1 : Int32) (i2 : Int32) (si0 : Int32) (si1 : Int32) (M : Mem) : Option (Int32 × Mem) :=
gI M r0 12 0 fun v1 =>
nzI v1 (
(if i2 = (2 : Int32) then
f_X12_beside_58 r0 (si0 + si1) (i1 / v1) (1 : Int32) M
else
(if i2 = 0 then
f_X12_beside_58 r0 (si0 + si1) (i1 / v1) (-1 : Int32) M
else
f_X12_beside_58 r0 (si0 + si1) (i1 / v1) (0 : Int32) M)))
def f_X12_beside (r0 : Option Nat) (i1 : Int32) (i2 : Int32) (M : Mem) : Option (Int32 × Mem) :=
(if i1 = (-1 : Int32) then
some ((-1 : Int32), M)
else
gI M r0 12 0 fun v1 =>
nzI v1 (
(if i2 = (1 : Int32) then
f_X12_beside_32 r0 i1 i2 (i1 - i1 / v1 * v1) (1 : Int32) M
else
(if i2 = (3 : Int32) then
f_X12_beside_32 r0 i1 i2 (i1 - i1 / v1 * v1) (-1 : Int32) M
else
f_X12_beside_32 r0 i1 i2 (i1 - i1 / v1 * v1) (0 : Int32) M))))
def L_X12_hasPiece : List (Option (Instr × Nat)) := [some (.iload_n 1, 1), some (.iconst (-1), 1), some (.if_icmp .eq 16, 3), none, none, some (.aload_n 0, 1), some (.getfield 88, 3), none, none, some (.iload_n 1, 1), some (.iaload, 1), some (.ifCond .le 7, 3), none, none, some (.iconst 1, 1), some (.goto 4, 3), none, none, some (.iconst 0, 1), some (.ireturn, 1)]
def Y_X12_hasPiece : YM := (⟨RX12, "hasPiece", "(I)Z"⟩, prog_14_method_51_code, L_X12_hasPiece, 2, some .boolean)
def f_X12_hasPiece (r0 : Option Nat) (i1 : Int32) (M : Mem) : Option (Int32 × Mem) :=
(if i1 = (-1 : Int32) then
tv (0 : Int32) (some ((0 : Int32), M))
else
gR M r0 12 43 fun v1 =>
aI M v1 2 i1 fun v2 =>
(if v2 ≤ 0 then
tv (0 : Int32) (some ((0 : Int32), M))
else
tv (1 : Int32) (some ((1 : Int32), M))))
def L_X12_isEmpty : List (Option (Instr × Nat)) := [some (.iload_n 1, 1), some (.iconst (-1), 1), some (.if_icmp .eq 16, 3), none, none, some (.aload_n 0, 1), some (.getfield 88, 3), none, none, some (.iload_n 1, 1), some (.iaload, 1), some (.ifCond .ne 7, 3), none, none, some (.iconst 1, 1), some (.goto 4, 3), none, none, some (.iconst 0, 1), some (.ireturn, 1)]
def Y_X12_isEmpty : YM := (⟨RX12, "isEmpty", "(I)Z"⟩, prog_14_method_50_code, L_X12_isEmpty, 2, some .boolean)
def f_X12_isEmpty (r0 : Option Nat) (i1 : Int32) (M : Mem) : Option (Int32 × Mem) :=
(if i1 = (-1 : Int32) then
tv (0 : Int32) (some ((0 : Int32), M))
else
gR M r0 12 43 fun v1 =>
aI M v1 2 i1 fun v2 =>
(if v2 = 0 then
tv (1 : Int32) (some ((1 : Int32), M))
else
tv (0 : Int32) (some ((0 : Int32), M))))
def L_X12_actTo : List (Option (Instr × Nat)) := [some (.aload_n 0, 1), some (.getfield 45, 3), none, none, some (.iload_n 1, 1), some (.iaload, 1), some (.istore_n 3, 1), some (.aload_n 0, 1), some (.getfield 88, 3), none, none, some (.iload_n 2, 1), some (.iaload, 1), some (.iconst 1, 1), some (.aload_n 0, 1), some (.getfield 42, 3), none, none, some (.iload_n 1, 1), some (.iaload, 1), some (.iadd, 1), some (.iconst 4, 1), some (.aload_n 0, 1), some (.getfield 355, 3), none, none, some (.imul, 1), some (.iadd, 1), some (.if_icmp .eq 5, 3), none, none, some (.iconst (-1), 1), some (.ireturn, 1), some (.aload_n 0, 1), some (.iload_n 2, 1), some (.iload_n 3, 1), some (.invokevirtual 361, 3), none, none, some (.istore 4, 2), none, some (.aload_n 0, 1), some (.iload 4, 2), none, some (.iload_n 3, 1), some (.invokevirtual 361, 3), none, none, some (.istore 5, 2), none, some (.aload_n 0, 1), some (.getfield 39, 3), none, none, some (.iload_n 1, 1), some (.iaload, 1), some (.tableswitch 94 0 2 #[28, 44, 69], 28), none, none, none, none, none, none, none, none, none, none, none, none, none, none, none, none, none, none, none, none, none, none, none, none, none, none, none, some (.aload_n 0, 1), some (.iload 4, 2), none, some (.invokevirtual 364, 3), none, none, some (.ifCond .eq 8, 3), none, none, some (.iload 4, 2), none, some (.goto 4, 3), none, none, some (.iconst (-1), 1), some (.ireturn, 1), some (.aload_n 0, 1), some (.iload 4, 2), none, some (.invokevirtual 367, 3), none, none, some (.ifCond .eq 17, 3), none, none, some (.aload_n 0, 1), some (.iload 5, 2), none, some (.invokevirtual 364, 3), none, none, some (.ifCond .eq 8, 3), none, none, some (.iload 5, 2), none, some (.goto 4, 3), none, none, some (.iconst (-1), 1), some (.ireturn, 1), some (.aload_n 0, 1), some (.iload 4, 2), none, some (.invokevirtual 367, 3), none, none, some (.ifCond .eq 17, 3), none, none, some (.aload_n 0, 1), some (.iload 5, 2), none, some (.invokevirtual 364, 3), none, none, some (.ifCond .eq 8, 3), none, none, some (.iload 4, 2), none, some (.goto 4, 3), none, none, some (.iconst (-1), 1), some (.ireturn, 1), some (.iload_n 3, 1), some (.aload_n 0, 1), some (.getfield 42, 3), none, none, some (.iload_n 1, 1), some (.iaload, 1), some (.if_icmp .ne 7, 3), none, none, some (.iconst (-1), 1), some (.goto 4, 3), none, none, some (.iload_n 2, 1), some (.ireturn, 1)]
def Y_X12_actTo : YM := (⟨RX12, "actTo", "(II)I"⟩, prog_14_method_54_code, L_X12_actTo, 6, some .int)
def f_X12_actTo (r0 : Option Nat) (i1 : Int32) (i2 : Int32) (M : Mem) : Option (Int32 × Mem) :=
gR M r0 12 15 fun v1 =>
aI M v1 2 i1 fun v2 =>
gR M r0 12 43 fun v3 =>
aI M v3 2 i2 fun v4 =>
gR M r0 12 14 fun v5 =>
aI M v5 2 i1 fun v6 =>
gI M r0 12 45 fun v7 =>
(if v4 = (((1 : Int32) + v6) + ((4 : Int32) * v7)) then
cR M r0 (1, 12) (cA (f_X12_beside r0 i2 v2 M) fun v8 M1 =>
cR M1 r0 (1, 12) (cA (f_X12_beside r0 v8 v2 M1) fun v9 M2 =>
gR M2 r0 12 13 fun v10 =>
aI M2 v10 2 i1 fun v11 =>
(if v11 = (0 : Int32) then
cR M2 r0 (1, 12) (cA (f_X12_isEmpty r0 v8 M2) fun v18 M7 =>
(if v18 = 0 then
some ((-1 : Int32), M7)
else
some (v8, M7)))
else
(if v11 = (1 : Int32) then
cR M2 r0 (1, 12) (cA (f_X12_hasPiece r0 v8 M2) fun v16 M5 =>
(if v16 = 0 then
some ((-1 : Int32), M5)
else
cR M5 r0 (1, 12) (cA (f_X12_isEmpty r0 v9 M5) fun v17 M6 =>
(if v17 = 0 then
some ((-1 : Int32), M6)
else
some (v9, M6)))))
else
(if v11 = (2 : Int32) then
cR M2 r0 (1, 12) (cA (f_X12_hasPiece r0 v8 M2) fun v14 M3 =>
(if v14 = 0 then
some ((-1 : Int32), M3)
else
cR M3 r0 (1, 12) (cA (f_X12_isEmpty r0 v9 M3) fun v15 M4 =>
(if v15 = 0 then
some ((-1 : Int32), M4)
else
some (v8, M4)))))
else
gR M2 r0 12 14 fun v12 =>
aI M2 v12 2 i1 fun v13 =>
(if v2 = v13 then
some ((-1 : Int32), M2)
else
some (i2, M2)))))))
else
some ((-1 : Int32), M))
def L_X12_piecesOf : List (Option (Instr × Nat)) := [some (.iconst 0, 1), some (.istore_n 2, 1), some (.iconst 0, 1), some (.istore_n 3, 1), some (.iload_n 3, 1), some (.aload_n 0, 1), some (.getfield 144, 3), none, none, some (.if_icmp .ge 40, 3), none, none, some (.iload_n 2, 1), some (.aload_n 0, 1), some (.getfield 88, 3), none, none, some (.iload_n 3, 1), some (.iaload, 1), some (.ifCond .le 21, 3), none, none, some (.aload_n 0, 1), some (.getfield 88, 3), none, none, some (.iload_n 3, 1), some (.iaload, 1), some (.iconst 1, 1), some (.isub, 1), some (.iconst 4, 1), some (.idiv, 1), some (.iload_n 1, 1), some (.if_icmp .ne 7, 3), none, none, some (.iconst 1, 1), some (.goto 4, 3), none, none, some (.iconst 0, 1), some (.iadd, 1), some (.istore_n 2, 1), some (.iinc 3 1, 3), none, none, some (.goto (-42), 3), none, none, some (.iload_n 2, 1), some (.ireturn, 1)]
def Y_X12_piecesOf : YM := (⟨RX12, "piecesOf", "(I)I"⟩, prog_14_method_52_code, L_X12_piecesOf, 4, some .int)
def b_X12_piecesOf_4 (q4 : Option Nat → Int32 → Int32 → Int32 → Mem → Option (Int32 × Mem)) (r0 : Option Nat) (i1 : Int32) (i2 : Int32) (i3 : Int32) (M : Mem) : Option (Int32 × Mem) :=
gI M r0 12 2 fun v1 =>
(if v1 ≤ i3 then
some (i2, M)
else
gR M r0 12 43 fun v2 =>
aI M v2 2 i3 fun v3 =>
(if v3 ≤ 0 then
q4 r0 i1 (i2 + (0 : Int32)) (i3 + (1 : Int32)) M
else
gR M r0 12 43 fun v4 =>
aI M v4 2 i3 fun v5 =>
nzI (4 : Int32) (
(if ((v5 - (1 : Int32)) / (4 : Int32)) = i1 then
q4 r0 i1 (i2 + (1 : Int32)) (i3 + (1 : Int32)) M
else
q4 r0 i1 (i2 + (0 : Int32)) (i3 + (1 : Int32)) M))))
def f_X12_piecesOf_4 (n : Nat) : Option Nat → Int32 → Int32 → Int32 → Mem → Option (Int32 × Mem) := lpN (fun _ _ _ _ _ => none) (b_X12_piecesOf_4 ) n
def f_X12_piecesOf (r0 : Option Nat) (i1 : Int32) (M : Mem) : Option (Int32 × Mem) :=
f_X12_piecesOf_4 FU r0 i1 (0 : Int32) (0 : Int32) M
def L_X12_names : List (Option (Instr × Nat)) := [some (.aload_n 0, 1), some (.getfield 81, 3), none, none, some (.iconst 0, 1), some (.iload_n 1, 1), some (.iastore, 1), some (.aload_n 0, 1), some (.getfield 81, 3), none, none, some (.iconst 1, 1), some (.aload_n 0, 1), some (.getfield 91, 3), none, none, some (.iload_n 1, 1), some (.iaload, 1), some (.iastore, 1), some (.aload_n 0, 1), some (.getfield 81, 3), none, none, some (.iconst 2, 1), some (.iload_n 2, 1), some (.iastore, 1), some (.aload_n 0, 1), some (.getfield 81, 3), none, none, some (.iconst 3, 1), some (.iload_n 3, 1), some (.iastore, 1), some (.aload_n 0, 1), some (.getfield 81, 3), none, none, some (.iconst 4, 1), some (.aload_n 0, 1), some (.aload_n 0, 1), some (.getfield 355, 3), none, none, some (.invokevirtual 358, 3), none, none, some (.iastore, 1), some (.aload_n 0, 1), some (.getfield 81, 3), none, none, some (.iconst 5, 1), some (.aload_n 0, 1), some (.iconst 1, 1), some (.aload_n 0, 1), some (.getfield 355, 3), none, none, some (.isub, 1), some (.invokevirtual 358, 3), none, none, some (.iastore, 1), some (.aload_n 0, 1), some (.getfield 81, 3), none, none, some (.bipush 6, 2), none, some (.aload_n 0, 1), some (.getfield 355, 3), none, none, some (.iastore, 1), some (.return_, 1)]
def Y_X12_names : YM := (⟨RX12, "names", "(III)V"⟩, prog_14_method_53_code, L_X12_names, 4, none)
def f_X12_names (r0 : Option Nat) (i1 : Int32) (i2 : Int32) (i3 : Int32) (M : Mem) : Option (Unit × Mem) :=
gR M r0 12 41 fun v1 =>
wI M v1 2 (0 : Int32) i1 fun M1 =>
gR M1 r0 12 41 fun v2 =>
gR M1 r0 12 44 fun v3 =>
aI M1 v3 2 i1 fun v4 =>
wI M1 v2 2 (1 : Int32) v4 fun M2 =>
gR M2 r0 12 41 fun v5 =>
wI M2 v5 2 (2 : Int32) i2 fun M3 =>
gR M3 r0 12 41 fun v6 =>
wI M3 v6 2 (3 : Int32) i3 fun M4 =>
gR M4 r0 12 41 fun v7 =>
gI M4 r0 12 45 fun v8 =>
cR M4 r0 (1, 12) (cA (f_X12_piecesOf r0 v8 M4) fun v9 M5 =>
wI M5 v7 2 (4 : Int32) v9 fun M6 =>
gR M6 r0 12 41 fun v10 =>
gI M6 r0 12 45 fun v11 =>
cR M6 r0 (1, 12) (cA (f_X12_piecesOf r0 ((1 : Int32) - v11) M6) fun v12 M7 =>
wI M7 v10 2 (5 : Int32) v12 fun M8 =>
gR M8 r0 12 41 fun v13 =>
gI M8 r0 12 45 fun v14 =>
wI M8 v13 2 (6 : Int32) v14 fun M9 =>
some ((), M9)))
def L_X12_bound : List (Option (Instr × Nat)) := [some (.lload_n 0, 1), some (.ldc2_w 340, 3), none, none, some (.lcmp, 1), some (.ifCond .le 9, 3), none, none, some (.ldc2_w 340, 3), none, none, some (.goto 18, 3), none, none, some (.lload_n 0, 1), some (.ldc2_w 342, 3), none, none, some (.lcmp, 1), some (.ifCond .ge 9, 3), none, none, some (.ldc2_w 342, 3), none, none, some (.goto 4, 3), none, none, some (.lload_n 0, 1), some (.lreturn, 1)]
def Y_X12_bound : YM := (⟨RX12, "bound", "(J)J"⟩, prog_14_method_41_code, L_X12_bound, 2, some .long)
def f_X12_bound (l0 : Int64) (M : Mem) : Option (Int64 × Mem) :=
(if (lg_cmp l0 (1000000 : Int64)) ≤ 0 then
(if 0 ≤ (lg_cmp l0 (-1000000 : Int64)) then
some (l0, M)
else
some ((-1000000 : Int64), M))
else
some ((1000000 : Int64), M))
set_option maxRecDepth 30000 in
theorem ok_X12_isIn : okY Y_X12_isIn := ⟨(gw_in 1587 rfl rfl), (gw_in 14 (by decide +kernel) (by decide +kernel)), by decide +kernel, by decide +kernel⟩
theorem ml_12_413 : MLv RX12 413 Y_X12_isIn 1 := ⟨(gw_in 1584 (by decide +kernel) (by decide +kernel)), (gw_in 1586 (by decide +kernel) (by decide +kernel)), (gw_sel (n := 70) 88 (by decide +kernel) (by decide +kernel)), ok_X12_isIn, by decide +kernel⟩
set_option maxRecDepth 30000 in
theorem ok_X12_isOffer : okY Y_X12_isOffer := ⟨(gw_in 1583 rfl rfl), (gw_in 14 (by decide +kernel) (by decide +kernel)), by decide +kernel, by decide +kernel⟩
theorem ml_12_419 : MLv RX12 419 Y_X12_isOffer 3 := ⟨(gw_in 1580 (by decide +kernel) (by decide +kernel)), (gw_in 1582 (by decide +kernel) (by decide +kernel)), (gw_sel (n := 70) 87 (by decide +kernel) (by decide +kernel)), ok_X12_isOffer, by decide +kernel⟩
set_option maxRecDepth 30000 in
theorem ok_X12_isOneOf : okY Y_X12_isOneOf := ⟨(gw_in 1598 rfl rfl), (gw_in 14 (by decide +kernel) (by decide +kernel)), by decide +kernel, by decide +kernel⟩
theorem ml_12_428 : MLs RX12 428 Y_X12_isOneOf 4 := ⟨(gw_in 1596 (by decide +kernel) (by decide +kernel)), (gw_in 1597 (by decide +kernel) (by decide +kernel)), ok_X12_isOneOf, by decide +kernel⟩
theorem fl_12_91 : FLk RX12 91 12 44 true := ⟨_, rfl, by decide, (gw_in 1160 (by decide +kernel) (by decide +kernel)), rfl⟩
theorem fl_12_45 : FLk RX12 45 12 15 true := ⟨_, rfl, by decide, (gw_in 1131 (by decide +kernel) (by decide +kernel)), rfl⟩
theorem fl_12_42 : FLk RX12 42 12 14 true := ⟨_, rfl, by decide, (gw_in 1130 (by decide +kernel) (by decide +kernel)), rfl⟩
set_option maxRecDepth 30000 in
theorem ok_X12_beside : okY Y_X12_beside := ⟨(gw_in 1535 rfl rfl), (gw_in 14 (by decide +kernel) (by decide +kernel)), by decide +kernel, by decide +kernel⟩
theorem ml_12_361 : MLv RX12 361 Y_X12_beside 2 := ⟨(gw_in 1532 (by decide +kernel) (by decide +kernel)), (gw_in 1534 (by decide +kernel) (by decide +kernel)), (gw_sel (n := 70) 78 (by decide +kernel) (by decide +kernel)), ok_X12_beside, by decide +kernel⟩
theorem fl_12_39 : FLk RX12 39 12 13 true := ⟨_, rfl, by decide, (gw_in 1129 (by decide +kernel) (by decide +kernel)), rfl⟩
set_option maxRecDepth 30000 in
theorem ok_X12_hasPiece : okY Y_X12_hasPiece := ⟨(gw_in 1543 rfl rfl), (gw_in 14 (by decide +kernel) (by decide +kernel)), by decide +kernel, by decide +kernel⟩
theorem ml_12_367 : MLv RX12 367 Y_X12_hasPiece 1 := ⟨(gw_in 1540 (by decide +kernel) (by decide +kernel)), (gw_in 1542 (by decide +kernel) (by decide +kernel)), (gw_sel (n := 70) 80 (by decide +kernel) (by decide +kernel)), ok_X12_hasPiece, by decide +kernel⟩
set_option maxRecDepth 30000 in
theorem ok_X12_isEmpty : okY Y_X12_isEmpty := ⟨(gw_in 1539 rfl rfl), (gw_in 14 (by decide +kernel) (by decide +kernel)), by decide +kernel, by decide +kernel⟩
theorem ml_12_364 : MLv RX12 364 Y_X12_isEmpty 1 := ⟨(gw_in 1536 (by decide +kernel) (by decide +kernel)), (gw_in 1538 (by decide +kernel) (by decide +kernel)), (gw_sel (n := 70) 79 (by decide +kernel) (by decide +kernel)), ok_X12_isEmpty, by decide +kernel⟩
theorem fl_12_81 : FLk RX12 81 12 41 true := ⟨_, rfl, by decide, (gw_in 1157 (by decide +kernel) (by decide +kernel)), rfl⟩
set_option maxRecDepth 30000 in
theorem ok_X12_piecesOf : okY Y_X12_piecesOf := ⟨(gw_in 1551 rfl rfl), (gw_in 14 (by decide +kernel) (by decide +kernel)), by decide +kernel, by decide +kernel⟩
theorem ml_12_358 : MLv RX12 358 Y_X12_piecesOf 1 := ⟨(gw_in 1548 (by decide +kernel) (by decide +kernel)), (gw_in 1550 (by decide +kernel) (by decide +kernel)), (gw_sel (n := 70) 82 (by decide +kernel) (by decide +kernel)), ok_X12_piecesOf, by decide +kernel⟩
theorem kl_12_340 : Jvm.Cond.constantLong RX12 340 (1000000) ∈ gw := gw_in 1562 (by decide +kernel) (by decide +kernel)
theorem kl_12_342 : Jvm.Cond.constantLong RX12 342 (-1000000) ∈ gw := gw_in 1563 (by decide +kernel) (by decide +kernel)
set_option maxRecDepth 20000 in
theorem dk_X12_isOffer : ∀ pc i, L_X12_isOffer[pc]? = some (some i) → decode prog_14_method_65_code pc = .ok i := dk_of (by decide +kernel)
theorem s_X12_isOffer {d : Nat} {P : Int32 → Mem → Prop} {r0 : Option Nat} {i1 : Int32} {i2 : Int32} {i3 : Int32} {M : Mem} (h : FQ (f_X12_isOffer r0 i1 i2 i3 M) P) : Con Y_X12_isOffer (d + 3) 0 0 [va_rf r0, .int i1, .int i2, .int i3] M (QI P) := by
  refine Con.of [some (va_rf r0), some (.int i1), some (.int i2), some (.int i3)] (by decide +kernel) dk_X12_isOffer (by simp [Y_X12_isOffer, cat_rf, cat_i, cat_l]) (by simp [loE, Y_X12_isOffer, cat_rf, cat_i, cat_l, List.replicate]) ?_
  unfold f_X12_isOffer at h
  refine r_iload_n rfl rfl ?_
  refine r_iload_n rfl rfl ?_
  refine r_ic_ge 38 rfl (by decide) h (fun h => ?_) (fun h => ?_)
  · refine r_iconst (v := 0) rfl (by decide) ?_
    exact r_zret rfl rfl ⟨Nat.le_of_ble_eq_true rfl, Nat.le_of_ble_eq_true rfl⟩ h
  · refine r_iload_n rfl rfl ?_
    refine r_iload_n rfl rfl ?_
    refine r_ic_ge 38 rfl (by decide) h (fun h => ?_) (fun h => ?_)
    · refine r_iconst (v := 0) rfl (by decide) ?_
      exact r_zret rfl rfl ⟨Nat.le_of_ble_eq_true rfl, Nat.le_of_ble_eq_true rfl⟩ h
    · refine r_aload_n rfl rfl ?_
      refine r_iload_n rfl rfl ?_
      refine r_cv_i (vs := [.int i1]) rfl ml_12_413 rfl (rOk.of rfl) ⟨Nat.zero_le _, Nat.zero_le _⟩ rfl rfl rfl h s_X12_isIn (fun v1 M1 h => ?_)
      refine r_if_eq 38 rfl (by decide) h (fun h => ?_) (fun h => ?_)
      · refine r_iconst (v := 0) rfl (by decide) ?_
        exact r_zret rfl rfl ⟨Nat.le_of_ble_eq_true rfl, Nat.le_of_ble_eq_true rfl⟩ h
      · refine r_aload_n rfl rfl ?_
        refine r_iload_n rfl rfl ?_
        refine r_cv_i (vs := [.int i2]) rfl ml_12_413 rfl (rOk.of rfl) ⟨Nat.zero_le _, Nat.zero_le _⟩ rfl rfl rfl h s_X12_isIn (fun v2 M2 h => ?_)
        refine r_if_eq 38 rfl (by decide) h (fun h => ?_) (fun h => ?_)
        · refine r_iconst (v := 0) rfl (by decide) ?_
          exact r_zret rfl rfl ⟨Nat.le_of_ble_eq_true rfl, Nat.le_of_ble_eq_true rfl⟩ h
        · refine r_aload_n rfl rfl ?_
          refine r_iload_n rfl rfl ?_
          refine r_cv_i (vs := [.int i3]) rfl ml_12_413 rfl (rOk.of rfl) ⟨Nat.zero_le _, Nat.zero_le _⟩ rfl rfl rfl h s_X12_isIn (fun v3 M3 h => ?_)
          refine r_if_eq 38 rfl (by decide) h (fun h => ?_) (fun h => ?_)
          · refine r_iconst (v := 0) rfl (by decide) ?_
            exact r_zret rfl rfl ⟨Nat.le_of_ble_eq_true rfl, Nat.le_of_ble_eq_true rfl⟩ h
          · refine r_iconst (v := 1) rfl (by decide) ?_
            refine r_goto 39 rfl (by decide) ?_
            exact r_zret rfl rfl ⟨Nat.le_of_ble_eq_true rfl, Nat.le_of_ble_eq_true rfl⟩ h
set_option maxRecDepth 20000 in
theorem dk_X12_isOneOf : ∀ pc i, L_X12_isOneOf[pc]? = some (some i) → decode prog_14_method_68_code pc = .ok i := dk_of (by decide +kernel)
theorem s_X12_isOneOf {d : Nat} {P : Int32 → Mem → Prop} {i0 : Int32} {i1 : Int32} {i2 : Int32} {i3 : Int32} {M : Mem} (h : FQ (f_X12_isOneOf i0 i1 i2 i3 M) P) : Con Y_X12_isOneOf d 0 0 [.int i0, .int i1, .int i2, .int i3] M (QI P) := by
  refine Con.of [some (.int i0), some (.int i1), some (.int i2), some (.int i3)] (by decide +kernel) dk_X12_isOneOf (by simp [Y_X12_isOneOf, cat_rf, cat_i, cat_l]) (by simp [loE, Y_X12_isOneOf, cat_rf, cat_i, cat_l, List.replicate]) ?_
  unfold f_X12_isOneOf at h
  refine r_iload_n rfl rfl ?_
  refine r_iload_n rfl rfl ?_
  refine r_ic_eq 15 rfl (by decide) h (fun h => ?_) (fun h => ?_)
  · refine r_iconst (v := 1) rfl (by decide) ?_
    refine r_goto 20 rfl (by decide) ?_
    exact r_zret rfl rfl ⟨Nat.le_of_ble_eq_true rfl, Nat.le_of_ble_eq_true rfl⟩ h
  · refine r_iload_n rfl rfl ?_
    refine r_iload_n rfl rfl ?_
    refine r_ic_eq 15 rfl (by decide) h (fun h => ?_) (fun h => ?_)
    · refine r_iconst (v := 1) rfl (by decide) ?_
      refine r_goto 20 rfl (by decide) ?_
      exact r_zret rfl rfl ⟨Nat.le_of_ble_eq_true rfl, Nat.le_of_ble_eq_true rfl⟩ h
    · refine r_iload_n rfl rfl ?_
      refine r_iload_n rfl rfl ?_
      refine r_ic_ne 19 rfl (by decide) h (fun h => ?_) (fun h => ?_)
      · refine r_iconst (v := 1) rfl (by decide) ?_
        refine r_goto 20 rfl (by decide) ?_
        exact r_zret rfl rfl ⟨Nat.le_of_ble_eq_true rfl, Nat.le_of_ble_eq_true rfl⟩ h
      · refine r_iconst (v := 0) rfl (by decide) ?_
        exact r_zret rfl rfl ⟨Nat.le_of_ble_eq_true rfl, Nat.le_of_ble_eq_true rfl⟩ h
set_option maxRecDepth 20000 in
theorem dk_X12_canPly : ∀ pc i, L_X12_canPly[pc]? = some (some i) → decode prog_14_method_69_code pc = .ok i := dk_of (by decide +kernel)
theorem s_X12_canPly {d : Nat} {P : Int32 → Mem → Prop} {r0 : Option Nat} {i1 : Int32} {i2 : Int32} {i3 : Int32} {i4 : Int32} {i5 : Int32} {M : Mem} (h : FQ (f_X12_canPly r0 i1 i2 i3 i4 i5 M) P) : Con Y_X12_canPly (d + 4) 0 0 [va_rf r0, .int i1, .int i2, .int i3, .int i4, .int i5] M (QI P) := by
  refine Con.of [some (va_rf r0), some (.int i1), some (.int i2), some (.int i3), some (.int i4), some (.int i5)] (by decide +kernel) dk_X12_canPly (by simp [Y_X12_canPly, cat_rf, cat_i, cat_l]) (by simp [loE, Y_X12_canPly, cat_rf, cat_i, cat_l, List.replicate]) ?_
  unfold f_X12_canPly at h
  refine r_aload_n rfl rfl ?_
  refine r_iload_n rfl rfl ?_
  refine r_iload_n rfl rfl ?_
  refine r_iload_n rfl rfl ?_
  refine r_cv_i (vs := [.int i1, .int i2, .int i3]) rfl ml_12_419 rfl (rOk.of rfl) ⟨Nat.zero_le _, Nat.zero_le _⟩ rfl rfl rfl h s_X12_isOffer (fun v1 M1 h => ?_)
  refine r_if_eq 43 rfl (by decide) h (fun h => ?_) (fun h => ?_)
  · refine r_iconst (v := 0) rfl (by decide) ?_
    exact r_zret rfl rfl ⟨Nat.le_of_ble_eq_true rfl, Nat.le_of_ble_eq_true rfl⟩ h
  · refine r_iload rfl rfl ?_
    refine r_iload_n rfl rfl ?_
    refine r_iload_n rfl rfl ?_
    refine r_iload_n rfl rfl ?_
    refine r_cs_i (vs := [.int i4, .int i1, .int i2, .int i3]) rfl ml_12_428 (rOk.of rfl) ⟨Nat.zero_le _, Nat.zero_le _⟩ rfl rfl rfl h s_X12_isOneOf (fun v2 M2 h => ?_)
    refine r_if_eq 43 rfl (by decide) h (fun h => ?_) (fun h => ?_)
    · refine r_iconst (v := 0) rfl (by decide) ?_
      exact r_zret rfl rfl ⟨Nat.le_of_ble_eq_true rfl, Nat.le_of_ble_eq_true rfl⟩ h
    · refine r_iload rfl rfl ?_
      refine r_iload_n rfl rfl ?_
      refine r_iload_n rfl rfl ?_
      refine r_iload_n rfl rfl ?_
      refine r_cs_i (vs := [.int i5, .int i1, .int i2, .int i3]) rfl ml_12_428 (rOk.of rfl) ⟨Nat.zero_le _, Nat.zero_le _⟩ rfl rfl rfl h s_X12_isOneOf (fun v3 M3 h => ?_)
      refine r_if_eq 43 rfl (by decide) h (fun h => ?_) (fun h => ?_)
      · refine r_iconst (v := 0) rfl (by decide) ?_
        exact r_zret rfl rfl ⟨Nat.le_of_ble_eq_true rfl, Nat.le_of_ble_eq_true rfl⟩ h
      · refine r_iload rfl rfl ?_
        refine r_iload rfl rfl ?_
        refine r_ic_eq 43 rfl (by decide) h (fun h => ?_) (fun h => ?_)
        · refine r_iconst (v := 0) rfl (by decide) ?_
          exact r_zret rfl rfl ⟨Nat.le_of_ble_eq_true rfl, Nat.le_of_ble_eq_true rfl⟩ h
        · refine r_iconst (v := 1) rfl (by decide) ?_
          refine r_goto 44 rfl (by decide) ?_
          exact r_zret rfl rfl ⟨Nat.le_of_ble_eq_true rfl, Nat.le_of_ble_eq_true rfl⟩ h
set_option maxRecDepth 20000 in
theorem dk_X12_heapCode : ∀ pc i, L_X12_heapCode[pc]? = some (some i) → decode prog_14_method_81_code pc = .ok i := dk_of (by decide +kernel)
theorem sb_X12_heapCode_4 {d : Nat} {P : Int32 → Mem → Prop} {q4 : Option Nat → Int32 → Int32 → Mem → Option (Int32 × Mem)} (hq4 : ∀ (r0 : Option Nat) (i1 : Int32) (i2 : Int32) (M : Mem), FQ (q4 r0 i1 i2 M) P → wp Y_X12_heapCode (rmD d 0 0) (FM (QI P) 0 0) 0 0 4 [some (va_rf r0), some (.int i1), some (.int i2)] [] M) (r0 : Option Nat) (i1 : Int32) (i2 : Int32) (M : Mem) (h : FQ (b_X12_heapCode_4 q4 r0 i1 i2 M) P) : wp Y_X12_heapCode (rmD d 0 0) (FM (QI P) 0 0) 0 0 4 [some (va_rf r0), some (.int i1), some (.int i2)] [] M := by
  unfold b_X12_heapCode_4 at h
  refine r_iload_n rfl rfl ?_
  refine r_bipush (v := 8) rfl (by decide) ?_
  refine r_ic_ge 27 rfl (by decide) h (fun h => ?_) (fun h => ?_)
  · refine r_iload_n rfl rfl ?_
    exact r_iret rfl rfl ⟨Nat.le_of_ble_eq_true rfl, Nat.le_of_ble_eq_true rfl⟩ h
  · refine r_iconst (v := 4) rfl (by decide) ?_
    refine r_iload_n rfl rfl ?_
    refine r_imul rfl ?_
    refine r_aload_n rfl rfl ?_
    refine r_getR rfl fl_12_91 rfl h (fun v1 h => ?_)
    refine r_iload_n rfl rfl ?_
    refine r_iald rfl h (fun v2 h => ?_)
    refine r_iadd rfl ?_
    refine r_istore_n (lo' := [some (va_rf r0), some (.int (((4 : Int32) * i1) + v2)), some (.int i2)]) rfl rfl (by simp [stOk, cat_rf]) rfl ?_
    refine r_iinc (v := 1) (lo' := [some (va_rf r0), some (.int (((4 : Int32) * i1) + v2)), some (.int (i2 + (1 : Int32)))]) rfl rfl rfl (by decide) rfl rfl ?_
    refine r_goto 4 rfl (by decide) ?_
    exact hq4 _ _ _ _ h
theorem s_X12_heapCode_4 {d : Nat} {P : Int32 → Mem → Prop}   : ∀ (k : Nat) (r0 : Option Nat) (i1 : Int32) (i2 : Int32) (M : Mem), FQ (f_X12_heapCode_4  k r0 i1 i2 M) P → wp Y_X12_heapCode (rmD d 0 0) (FM (QI P) 0 0) 0 0 4 [some (va_rf r0), some (.int i1), some (.int i2)] [] M
  | 0, _, _, _, _, h => h.no
  | k + 1, r0, i1, i2, M, h => sb_X12_heapCode_4  (s_X12_heapCode_4  k) r0 i1 i2 M h
theorem s_X12_heapCode {d : Nat} {P : Int32 → Mem → Prop} {r0 : Option Nat} {M : Mem} (h : FQ (f_X12_heapCode r0 M) P) : Con Y_X12_heapCode d 0 0 [va_rf r0] M (QI P) := by
  refine Con.of [some (va_rf r0), none, none] (by decide +kernel) dk_X12_heapCode (by simp [Y_X12_heapCode, cat_rf, cat_i, cat_l]) (by simp [loE, Y_X12_heapCode, cat_rf, cat_i, cat_l, List.replicate]) ?_
  unfold f_X12_heapCode at h
  refine r_iconst (v := 0) rfl (by decide) ?_
  refine r_istore_n (lo' := [some (va_rf r0), some (.int (0 : Int32)), none]) rfl rfl (by simp [stOk, cat_rf]) rfl ?_
  refine r_iconst (v := 0) rfl (by decide) ?_
  refine r_istore_n (lo' := [some (va_rf r0), some (.int (0 : Int32)), some (.int (0 : Int32))]) rfl rfl rfl rfl ?_
  exact s_X12_heapCode_4 FU _ _ _ _ h
set_option maxRecDepth 20000 in
theorem dk_X12_beside : ∀ pc i, L_X12_beside[pc]? = some (some i) → decode prog_14_method_49_code pc = .ok i := dk_of (by decide +kernel)
theorem s_X12_beside_58 {d : Nat} {P : Int32 → Mem → Prop}   (r0 : Option Nat) (i3 : Int32) (si0 : Int32) (si1 : Int32) (M : Mem) (h : FQ (f_X12_beside_58  r0 i3 si0 si1 M) P) : wp Y_X12_beside (rmD (d + 1) 0 0) (FM (QI P) 0 0) 0 0 58 [some (va_rf r0), none, none, some (.int i3), none] [.int si1, .int si0] M := by
  unfold f_X12_beside_58 at h
  refine r_iadd rfl ?_
  refine r_istore (lo' := [some (va_rf r0), none, none, some (.int i3), some (.int (si0 + si1))]) rfl rfl rfl rfl ?_
  refine r_iload_n rfl rfl ?_
  refine r_iconst (v := 0) rfl (by decide) ?_
  refine r_aload_n rfl rfl ?_
  refine r_getI rfl fl_12_138 rfl h (fun v1 h => ?_)
  refine r_iconst (v := 1) rfl (by decide) ?_
  refine r_isub rfl ?_
  refine r_cs_i (vs := [.int i3, .int (0 : Int32), .int (v1 - (1 : Int32))]) rfl ml_12_151 (rOk.of rfl) ⟨Nat.zero_le _, Nat.zero_le _⟩ rfl rfl rfl h s_X12_in (fun v2 M1 h => ?_)
  refine r_if_eq 102 rfl (by decide) h (fun h => ?_) (fun h => ?_)
  · refine r_iconst (v := -1) rfl (by decide) ?_
    exact r_iret rfl rfl ⟨Nat.le_of_ble_eq_true rfl, Nat.le_of_ble_eq_true rfl⟩ h
  · refine r_iload rfl rfl ?_
    refine r_iconst (v := 0) rfl (by decide) ?_
    refine r_aload_n rfl rfl ?_
    refine r_getI rfl fl_12_141 rfl h (fun v3 h => ?_)
    refine r_iconst (v := 1) rfl (by decide) ?_
    refine r_isub rfl ?_
    refine r_cs_i (vs := [.int (si0 + si1), .int (0 : Int32), .int (v3 - (1 : Int32))]) rfl ml_12_151 (rOk.of rfl) ⟨Nat.zero_le _, Nat.zero_le _⟩ rfl rfl rfl h s_X12_in (fun v4 M2 h => ?_)
    refine r_if_eq 102 rfl (by decide) h (fun h => ?_) (fun h => ?_)
    · refine r_iconst (v := -1) rfl (by decide) ?_
      exact r_iret rfl rfl ⟨Nat.le_of_ble_eq_true rfl, Nat.le_of_ble_eq_true rfl⟩ h
    · refine r_iload_n rfl rfl ?_
      refine r_aload_n rfl rfl ?_
      refine r_getI rfl fl_12_138 rfl h (fun v5 h => ?_)
      refine r_iload rfl rfl ?_
      refine r_imul rfl ?_
      refine r_iadd rfl ?_
      refine r_goto 103 rfl (by decide) ?_
      exact r_iret rfl rfl ⟨Nat.le_of_ble_eq_true rfl, Nat.le_of_ble_eq_true rfl⟩ h
theorem s_X12_beside_32 {d : Nat} {P : Int32 → Mem → Prop}   (r0 : Option Nat) (i1 : Int32) (i2 : Int32) (si0 : Int32) (si1 : Int32) (M : Mem) (h : FQ (f_X12_beside_32  r0 i1 i2 si0 si1 M) P) : wp Y_X12_beside (rmD (d + 1) 0 0) (FM (QI P) 0 0) 0 0 32 [some (va_rf r0), some (.int i1), some (.int i2), none, none] [.int si1, .int si0] M := by
  unfold f_X12_beside_32 at h
  refine r_iadd rfl ?_
  refine r_istore_n (lo' := [some (va_rf r0), some (.int i1), some (.int i2), some (.int (si0 + si1)), none]) rfl rfl rfl rfl ?_
  refine r_iload_n rfl rfl ?_
  refine r_aload_n rfl rfl ?_
  refine r_getI rfl fl_12_138 rfl h (fun v1 h => ?_)
  refine r_idiv rfl h (fun h => ?_)
  refine r_iload_n rfl rfl ?_
  refine r_iconst (v := 2) rfl (by decide) ?_
  refine r_ic_ne 49 rfl (by decide) h (fun h => ?_) (fun h => ?_)
  · refine r_iconst (v := 1) rfl (by decide) ?_
    refine r_goto 58 rfl (by decide) ?_
    refine r_msk [true, false, false, true, true] rfl ?_
    exact s_X12_beside_58 _ _ _ _ _ h
  · refine r_iload_n rfl rfl ?_
    refine r_if_ne 57 rfl (by decide) h (fun h => ?_) (fun h => ?_)
    · refine r_iconst (v := -1) rfl (by decide) ?_
      refine r_goto 58 rfl (by decide) ?_
      refine r_msk [true, false, false, true, true] rfl ?_
      exact s_X12_beside_58 _ _ _ _ _ h
    · refine r_iconst (v := 0) rfl (by decide) ?_
      refine r_msk [true, false, false, true, true] rfl ?_
      exact s_X12_beside_58 _ _ _ _ _ h
theorem s_X12_beside {d : Nat} {P : Int32 → Mem → Prop} {r0 : Option Nat} {i1 : Int32} {i2 : Int32} {M : Mem} (h : FQ (f_X12_beside r0 i1 i2 M) P) : Con Y_X12_beside (d + 1) 0 0 [va_rf r0, .int i1, .int i2] M (QI P) := by
  refine Con.of [some (va_rf r0), some (.int i1), some (.int i2), none, none] (by decide +kernel) dk_X12_beside (by simp [Y_X12_beside, cat_rf, cat_i, cat_l]) (by simp [loE, Y_X12_beside, cat_rf, cat_i, cat_l, List.replicate]) ?_
  unfold f_X12_beside at h
  refine r_iload_n rfl rfl ?_
  refine r_iconst (v := -1) rfl (by decide) ?_
  refine r_ic_ne 7 rfl (by decide) h (fun h => ?_) (fun h => ?_)
  · refine r_iconst (v := -1) rfl (by decide) ?_
    exact r_iret rfl rfl ⟨Nat.le_of_ble_eq_true rfl, Nat.le_of_ble_eq_true rfl⟩ h
  · refine r_iload_n rfl rfl ?_
    refine r_aload_n rfl rfl ?_
    refine r_getI rfl fl_12_138 rfl h (fun v1 h => ?_)
    refine r_irem rfl h (fun h => ?_)
    refine r_iload_n rfl rfl ?_
    refine r_iconst (v := 1) rfl (by decide) ?_
    refine r_ic_ne 22 rfl (by decide) h (fun h => ?_) (fun h => ?_)
    · refine r_iconst (v := 1) rfl (by decide) ?_
      refine r_goto 32 rfl (by decide) ?_
      exact s_X12_beside_32 _ _ _ _ _ _ h
    · refine r_iload_n rfl rfl ?_
      refine r_iconst (v := 3) rfl (by decide) ?_
      refine r_ic_ne 31 rfl (by decide) h (fun h => ?_) (fun h => ?_)
      · refine r_iconst (v := -1) rfl (by decide) ?_
        refine r_goto 32 rfl (by decide) ?_
        exact s_X12_beside_32 _ _ _ _ _ _ h
      · refine r_iconst (v := 0) rfl (by decide) ?_
        exact s_X12_beside_32 _ _ _ _ _ _ h
set_option maxRecDepth 20000 in
theorem dk_X12_hasPiece : ∀ pc i, L_X12_hasPiece[pc]? = some (some i) → decode prog_14_method_51_code pc = .ok i := dk_of (by decide +kernel)
theorem s_X12_hasPiece {d : Nat} {P : Int32 → Mem → Prop} {r0 : Option Nat} {i1 : Int32} {M : Mem} (h : FQ (f_X12_hasPiece r0 i1 M) P) : Con Y_X12_hasPiece d 0 0 [va_rf r0, .int i1] M (QI P) := by
  refine Con.of [some (va_rf r0), some (.int i1)] (by decide +kernel) dk_X12_hasPiece (by simp [Y_X12_hasPiece, cat_rf, cat_i, cat_l]) (by simp [loE, Y_X12_hasPiece, cat_rf, cat_i, cat_l, List.replicate]) ?_
  unfold f_X12_hasPiece at h
  refine r_iload_n rfl rfl ?_
  refine r_iconst (v := -1) rfl (by decide) ?_
  refine r_ic_eq 18 rfl (by decide) h (fun h => ?_) (fun h => ?_)
  · refine r_iconst (v := 0) rfl (by decide) ?_
    exact r_zret rfl rfl ⟨Nat.le_of_ble_eq_true rfl, Nat.le_of_ble_eq_true rfl⟩ h
  · refine r_aload_n rfl rfl ?_
    refine r_getR rfl fl_12_88 rfl h (fun v1 h => ?_)
    refine r_iload_n rfl rfl ?_
    refine r_iald rfl h (fun v2 h => ?_)
    refine r_if_le 18 rfl (by decide) h (fun h => ?_) (fun h => ?_)
    · refine r_iconst (v := 0) rfl (by decide) ?_
      exact r_zret rfl rfl ⟨Nat.le_of_ble_eq_true rfl, Nat.le_of_ble_eq_true rfl⟩ h
    · refine r_iconst (v := 1) rfl (by decide) ?_
      refine r_goto 19 rfl (by decide) ?_
      exact r_zret rfl rfl ⟨Nat.le_of_ble_eq_true rfl, Nat.le_of_ble_eq_true rfl⟩ h
set_option maxRecDepth 20000 in
theorem dk_X12_isEmpty : ∀ pc i, L_X12_isEmpty[pc]? = some (some i) → decode prog_14_method_50_code pc = .ok i := dk_of (by decide +kernel)
theorem s_X12_isEmpty {d : Nat} {P : Int32 → Mem → Prop} {r0 : Option Nat} {i1 : Int32} {M : Mem} (h : FQ (f_X12_isEmpty r0 i1 M) P) : Con Y_X12_isEmpty d 0 0 [va_rf r0, .int i1] M (QI P) := by
  refine Con.of [some (va_rf r0), some (.int i1)] (by decide +kernel) dk_X12_isEmpty (by simp [Y_X12_isEmpty, cat_rf, cat_i, cat_l]) (by simp [loE, Y_X12_isEmpty, cat_rf, cat_i, cat_l, List.replicate]) ?_
  unfold f_X12_isEmpty at h
  refine r_iload_n rfl rfl ?_
  refine r_iconst (v := -1) rfl (by decide) ?_
  refine r_ic_eq 18 rfl (by decide) h (fun h => ?_) (fun h => ?_)
  · refine r_iconst (v := 0) rfl (by decide) ?_
    exact r_zret rfl rfl ⟨Nat.le_of_ble_eq_true rfl, Nat.le_of_ble_eq_true rfl⟩ h
  · refine r_aload_n rfl rfl ?_
    refine r_getR rfl fl_12_88 rfl h (fun v1 h => ?_)
    refine r_iload_n rfl rfl ?_
    refine r_iald rfl h (fun v2 h => ?_)
    refine r_if_ne 18 rfl (by decide) h (fun h => ?_) (fun h => ?_)
    · refine r_iconst (v := 1) rfl (by decide) ?_
      refine r_goto 19 rfl (by decide) ?_
      exact r_zret rfl rfl ⟨Nat.le_of_ble_eq_true rfl, Nat.le_of_ble_eq_true rfl⟩ h
    · refine r_iconst (v := 0) rfl (by decide) ?_
      exact r_zret rfl rfl ⟨Nat.le_of_ble_eq_true rfl, Nat.le_of_ble_eq_true rfl⟩ h
set_option maxRecDepth 20000 in
theorem dk_X12_actTo : ∀ pc i, L_X12_actTo[pc]? = some (some i) → decode prog_14_method_54_code pc = .ok i := dk_of (by decide +kernel)
theorem s_X12_actTo {d : Nat} {P : Int32 → Mem → Prop} {r0 : Option Nat} {i1 : Int32} {i2 : Int32} {M : Mem} (h : FQ (f_X12_actTo r0 i1 i2 M) P) : Con Y_X12_actTo (d + 2) 0 0 [va_rf r0, .int i1, .int i2] M (QI P) := by
  refine Con.of [some (va_rf r0), some (.int i1), some (.int i2), none, none, none] (by decide +kernel) dk_X12_actTo (by simp [Y_X12_actTo, cat_rf, cat_i, cat_l]) (by simp [loE, Y_X12_actTo, cat_rf, cat_i, cat_l, List.replicate]) ?_
  unfold f_X12_actTo at h
  refine r_aload_n rfl rfl ?_
  refine r_getR rfl fl_12_45 rfl h (fun v1 h => ?_)
  refine r_iload_n rfl rfl ?_
  refine r_iald rfl h (fun v2 h => ?_)
  refine r_istore_n (lo' := [some (va_rf r0), some (.int i1), some (.int i2), some (.int v2), none, none]) rfl rfl rfl rfl ?_
  refine r_aload_n rfl rfl ?_
  refine r_getR rfl fl_12_88 rfl h (fun v3 h => ?_)
  refine r_iload_n rfl rfl ?_
  refine r_iald rfl h (fun v4 h => ?_)
  refine r_iconst (v := 1) rfl (by decide) ?_
  refine r_aload_n rfl rfl ?_
  refine r_getR rfl fl_12_42 rfl h (fun v5 h => ?_)
  refine r_iload_n rfl rfl ?_
  refine r_iald rfl h (fun v6 h => ?_)
  refine r_iadd rfl ?_
  refine r_iconst (v := 4) rfl (by decide) ?_
  refine r_aload_n rfl rfl ?_
  refine r_getI rfl fl_12_355 rfl h (fun v7 h => ?_)
  refine r_imul rfl ?_
  refine r_iadd rfl ?_
  refine r_ic_eq 33 rfl (by decide) h (fun h => ?_) (fun h => ?_)
  · refine r_aload_n rfl rfl ?_
    refine r_iload_n rfl rfl ?_
    refine r_iload_n rfl rfl ?_
    refine r_cv_i (vs := [.int i2, .int v2]) rfl ml_12_361 rfl (rOk.of rfl) ⟨Nat.zero_le _, Nat.zero_le _⟩ rfl rfl rfl h s_X12_beside (fun v8 M1 h => ?_)
    refine r_istore (lo' := [some (va_rf r0), some (.int i1), some (.int i2), some (.int v2), some (.int v8), none]) rfl rfl rfl rfl ?_
    refine r_aload_n rfl rfl ?_
    refine r_iload rfl rfl ?_
    refine r_iload_n rfl rfl ?_
    refine r_cv_i (vs := [.int v8, .int v2]) rfl ml_12_361 rfl (rOk.of rfl) ⟨Nat.zero_le _, Nat.zero_le _⟩ rfl rfl rfl h s_X12_beside (fun v9 M2 h => ?_)
    refine r_istore (lo' := [some (va_rf r0), some (.int i1), some (.int i2), some (.int v2), some (.int v8), some (.int v9)]) rfl rfl rfl rfl ?_
    refine r_aload_n rfl rfl ?_
    refine r_getR rfl fl_12_39 rfl h (fun v10 h => ?_)
    refine r_iload_n rfl rfl ?_
    refine r_iald rfl h (fun v11 h => ?_)
    refine r_table (ks := [(0, 84), (1, 100), (2, 125)]) (dt := 150) rfl (by decide) (by decide) ?_
    refine r_swc h (fun h => ?_) (fun h => ?_)
    · refine r_aload_n rfl rfl ?_
      refine r_iload rfl rfl ?_
      refine r_cv_i (vs := [.int v8]) rfl ml_12_364 rfl (rOk.of rfl) ⟨Nat.zero_le _, Nat.zero_le _⟩ rfl rfl rfl h s_X12_isEmpty (fun v18 M7 h => ?_)
      refine r_if_eq 98 rfl (by decide) h (fun h => ?_) (fun h => ?_)
      · refine r_iconst (v := -1) rfl (by decide) ?_
        exact r_iret rfl rfl ⟨Nat.le_of_ble_eq_true rfl, Nat.le_of_ble_eq_true rfl⟩ h
      · refine r_iload rfl rfl ?_
        refine r_goto 99 rfl (by decide) ?_
        exact r_iret rfl rfl ⟨Nat.le_of_ble_eq_true rfl, Nat.le_of_ble_eq_true rfl⟩ h
    · refine r_swc h (fun h => ?_) (fun h => ?_)
      · refine r_aload_n rfl rfl ?_
        refine r_iload rfl rfl ?_
        refine r_cv_i (vs := [.int v8]) rfl ml_12_367 rfl (rOk.of rfl) ⟨Nat.zero_le _, Nat.zero_le _⟩ rfl rfl rfl h s_X12_hasPiece (fun v16 M5 h => ?_)
        refine r_if_eq 123 rfl (by decide) h (fun h => ?_) (fun h => ?_)
        · refine r_iconst (v := -1) rfl (by decide) ?_
          exact r_iret rfl rfl ⟨Nat.le_of_ble_eq_true rfl, Nat.le_of_ble_eq_true rfl⟩ h
        · refine r_aload_n rfl rfl ?_
          refine r_iload rfl rfl ?_
          refine r_cv_i (vs := [.int v9]) rfl ml_12_364 rfl (rOk.of rfl) ⟨Nat.zero_le _, Nat.zero_le _⟩ rfl rfl rfl h s_X12_isEmpty (fun v17 M6 h => ?_)
          refine r_if_eq 123 rfl (by decide) h (fun h => ?_) (fun h => ?_)
          · refine r_iconst (v := -1) rfl (by decide) ?_
            exact r_iret rfl rfl ⟨Nat.le_of_ble_eq_true rfl, Nat.le_of_ble_eq_true rfl⟩ h
          · refine r_iload rfl rfl ?_
            refine r_goto 124 rfl (by decide) ?_
            exact r_iret rfl rfl ⟨Nat.le_of_ble_eq_true rfl, Nat.le_of_ble_eq_true rfl⟩ h
      · refine r_swc h (fun h => ?_) (fun h => ?_)
        · refine r_aload_n rfl rfl ?_
          refine r_iload rfl rfl ?_
          refine r_cv_i (vs := [.int v8]) rfl ml_12_367 rfl (rOk.of rfl) ⟨Nat.zero_le _, Nat.zero_le _⟩ rfl rfl rfl h s_X12_hasPiece (fun v14 M3 h => ?_)
          refine r_if_eq 148 rfl (by decide) h (fun h => ?_) (fun h => ?_)
          · refine r_iconst (v := -1) rfl (by decide) ?_
            exact r_iret rfl rfl ⟨Nat.le_of_ble_eq_true rfl, Nat.le_of_ble_eq_true rfl⟩ h
          · refine r_aload_n rfl rfl ?_
            refine r_iload rfl rfl ?_
            refine r_cv_i (vs := [.int v9]) rfl ml_12_364 rfl (rOk.of rfl) ⟨Nat.zero_le _, Nat.zero_le _⟩ rfl rfl rfl h s_X12_isEmpty (fun v15 M4 h => ?_)
            refine r_if_eq 148 rfl (by decide) h (fun h => ?_) (fun h => ?_)
            · refine r_iconst (v := -1) rfl (by decide) ?_
              exact r_iret rfl rfl ⟨Nat.le_of_ble_eq_true rfl, Nat.le_of_ble_eq_true rfl⟩ h
            · refine r_iload rfl rfl ?_
              refine r_goto 149 rfl (by decide) ?_
              exact r_iret rfl rfl ⟨Nat.le_of_ble_eq_true rfl, Nat.le_of_ble_eq_true rfl⟩ h
        · refine r_swd ?_
          refine r_iload_n rfl rfl ?_
          refine r_aload_n rfl rfl ?_
          refine r_getR rfl fl_12_42 rfl h (fun v12 h => ?_)
          refine r_iload_n rfl rfl ?_
          refine r_iald rfl h (fun v13 h => ?_)
          refine r_ic_ne 164 rfl (by decide) h (fun h => ?_) (fun h => ?_)
          · refine r_iconst (v := -1) rfl (by decide) ?_
            refine r_goto 165 rfl (by decide) ?_
            exact r_iret rfl rfl ⟨Nat.le_of_ble_eq_true rfl, Nat.le_of_ble_eq_true rfl⟩ h
          · refine r_iload_n rfl rfl ?_
            exact r_iret rfl rfl ⟨Nat.le_of_ble_eq_true rfl, Nat.le_of_ble_eq_true rfl⟩ h
  · refine r_iconst (v := -1) rfl (by decide) ?_
    exact r_iret rfl rfl ⟨Nat.le_of_ble_eq_true rfl, Nat.le_of_ble_eq_true rfl⟩ h
set_option maxRecDepth 20000 in
theorem dk_X12_piecesOf : ∀ pc i, L_X12_piecesOf[pc]? = some (some i) → decode prog_14_method_52_code pc = .ok i := dk_of (by decide +kernel)
theorem sb_X12_piecesOf_4 {d : Nat} {P : Int32 → Mem → Prop} {q4 : Option Nat → Int32 → Int32 → Int32 → Mem → Option (Int32 × Mem)} (hq4 : ∀ (r0 : Option Nat) (i1 : Int32) (i2 : Int32) (i3 : Int32) (M : Mem), FQ (q4 r0 i1 i2 i3 M) P → wp Y_X12_piecesOf (rmD d 0 0) (FM (QI P) 0 0) 0 0 4 [some (va_rf r0), some (.int i1), some (.int i2), some (.int i3)] [] M) (r0 : Option Nat) (i1 : Int32) (i2 : Int32) (i3 : Int32) (M : Mem) (h : FQ (b_X12_piecesOf_4 q4 r0 i1 i2 i3 M) P) : wp Y_X12_piecesOf (rmD d 0 0) (FM (QI P) 0 0) 0 0 4 [some (va_rf r0), some (.int i1), some (.int i2), some (.int i3)] [] M := by
  unfold b_X12_piecesOf_4 at h
  refine r_iload_n rfl rfl ?_
  refine r_aload_n rfl rfl ?_
  refine r_getI rfl fl_12_144 rfl h (fun v1 h => ?_)
  refine r_ic_ge 49 rfl (by decide) h (fun h => ?_) (fun h => ?_)
  · refine r_iload_n rfl rfl ?_
    exact r_iret rfl rfl ⟨Nat.le_of_ble_eq_true rfl, Nat.le_of_ble_eq_true rfl⟩ h
  · refine r_iload_n rfl rfl ?_
    refine r_aload_n rfl rfl ?_
    refine r_getR rfl fl_12_88 rfl h (fun v2 h => ?_)
    refine r_iload_n rfl rfl ?_
    refine r_iald rfl h (fun v3 h => ?_)
    refine r_if_le 40 rfl (by decide) h (fun h => ?_) (fun h => ?_)
    · refine r_iconst (v := 0) rfl (by decide) ?_
      refine r_iadd rfl ?_
      refine r_istore_n (lo' := [some (va_rf r0), some (.int i1), some (.int (i2 + (0 : Int32))), some (.int i3)]) rfl rfl rfl rfl ?_
      refine r_iinc (v := 1) (lo' := [some (va_rf r0), some (.int i1), some (.int (i2 + (0 : Int32))), some (.int (i3 + (1 : Int32)))]) rfl rfl rfl (by decide) rfl rfl ?_
      refine r_goto 4 rfl (by decide) ?_
      exact hq4 _ _ _ _ _ h
    · refine r_aload_n rfl rfl ?_
      refine r_getR rfl fl_12_88 rfl h (fun v4 h => ?_)
      refine r_iload_n rfl rfl ?_
      refine r_iald rfl h (fun v5 h => ?_)
      refine r_iconst (v := 1) rfl (by decide) ?_
      refine r_isub rfl ?_
      refine r_iconst (v := 4) rfl (by decide) ?_
      refine r_idiv rfl h (fun h => ?_)
      refine r_iload_n rfl rfl ?_
      refine r_ic_ne 40 rfl (by decide) h (fun h => ?_) (fun h => ?_)
      · refine r_iconst (v := 1) rfl (by decide) ?_
        refine r_goto 41 rfl (by decide) ?_
        refine r_iadd rfl ?_
        refine r_istore_n (lo' := [some (va_rf r0), some (.int i1), some (.int (i2 + (1 : Int32))), some (.int i3)]) rfl rfl rfl rfl ?_
        refine r_iinc (v := 1) (lo' := [some (va_rf r0), some (.int i1), some (.int (i2 + (1 : Int32))), some (.int (i3 + (1 : Int32)))]) rfl rfl rfl (by decide) rfl rfl ?_
        refine r_goto 4 rfl (by decide) ?_
        exact hq4 _ _ _ _ _ h
      · refine r_iconst (v := 0) rfl (by decide) ?_
        refine r_iadd rfl ?_
        refine r_istore_n (lo' := [some (va_rf r0), some (.int i1), some (.int (i2 + (0 : Int32))), some (.int i3)]) rfl rfl rfl rfl ?_
        refine r_iinc (v := 1) (lo' := [some (va_rf r0), some (.int i1), some (.int (i2 + (0 : Int32))), some (.int (i3 + (1 : Int32)))]) rfl rfl rfl (by decide) rfl rfl ?_
        refine r_goto 4 rfl (by decide) ?_
        exact hq4 _ _ _ _ _ h
theorem s_X12_piecesOf_4 {d : Nat} {P : Int32 → Mem → Prop}   : ∀ (k : Nat) (r0 : Option Nat) (i1 : Int32) (i2 : Int32) (i3 : Int32) (M : Mem), FQ (f_X12_piecesOf_4  k r0 i1 i2 i3 M) P → wp Y_X12_piecesOf (rmD d 0 0) (FM (QI P) 0 0) 0 0 4 [some (va_rf r0), some (.int i1), some (.int i2), some (.int i3)] [] M
  | 0, _, _, _, _, _, h => h.no
  | k + 1, r0, i1, i2, i3, M, h => sb_X12_piecesOf_4  (s_X12_piecesOf_4  k) r0 i1 i2 i3 M h
theorem s_X12_piecesOf {d : Nat} {P : Int32 → Mem → Prop} {r0 : Option Nat} {i1 : Int32} {M : Mem} (h : FQ (f_X12_piecesOf r0 i1 M) P) : Con Y_X12_piecesOf d 0 0 [va_rf r0, .int i1] M (QI P) := by
  refine Con.of [some (va_rf r0), some (.int i1), none, none] (by decide +kernel) dk_X12_piecesOf (by simp [Y_X12_piecesOf, cat_rf, cat_i, cat_l]) (by simp [loE, Y_X12_piecesOf, cat_rf, cat_i, cat_l, List.replicate]) ?_
  unfold f_X12_piecesOf at h
  refine r_iconst (v := 0) rfl (by decide) ?_
  refine r_istore_n (lo' := [some (va_rf r0), some (.int i1), some (.int (0 : Int32)), none]) rfl rfl rfl rfl ?_
  refine r_iconst (v := 0) rfl (by decide) ?_
  refine r_istore_n (lo' := [some (va_rf r0), some (.int i1), some (.int (0 : Int32)), some (.int (0 : Int32))]) rfl rfl rfl rfl ?_
  exact s_X12_piecesOf_4 FU _ _ _ _ _ h
set_option maxRecDepth 20000 in
theorem dk_X12_names : ∀ pc i, L_X12_names[pc]? = some (some i) → decode prog_14_method_53_code pc = .ok i := dk_of (by decide +kernel)
theorem s_X12_names {d : Nat} {P : Unit → Mem → Prop} {r0 : Option Nat} {i1 : Int32} {i2 : Int32} {i3 : Int32} {M : Mem} (h : FQ (f_X12_names r0 i1 i2 i3 M) P) : Con Y_X12_names (d + 1) 0 0 [va_rf r0, .int i1, .int i2, .int i3] M (QV P) := by
  refine Con.of [some (va_rf r0), some (.int i1), some (.int i2), some (.int i3)] (by decide +kernel) dk_X12_names (by simp [Y_X12_names, cat_rf, cat_i, cat_l]) (by simp [loE, Y_X12_names, cat_rf, cat_i, cat_l, List.replicate]) ?_
  unfold f_X12_names at h
  refine r_aload_n rfl rfl ?_
  refine r_getR rfl fl_12_81 rfl h (fun v1 h => ?_)
  refine r_iconst (v := 0) rfl (by decide) ?_
  refine r_iload_n rfl rfl ?_
  refine r_iast rfl h (fun M1 h => ?_)
  refine r_aload_n rfl rfl ?_
  refine r_getR rfl fl_12_81 rfl h (fun v2 h => ?_)
  refine r_iconst (v := 1) rfl (by decide) ?_
  refine r_aload_n rfl rfl ?_
  refine r_getR rfl fl_12_91 rfl h (fun v3 h => ?_)
  refine r_iload_n rfl rfl ?_
  refine r_iald rfl h (fun v4 h => ?_)
  refine r_iast rfl h (fun M2 h => ?_)
  refine r_aload_n rfl rfl ?_
  refine r_getR rfl fl_12_81 rfl h (fun v5 h => ?_)
  refine r_iconst (v := 2) rfl (by decide) ?_
  refine r_iload_n rfl rfl ?_
  refine r_iast rfl h (fun M3 h => ?_)
  refine r_aload_n rfl rfl ?_
  refine r_getR rfl fl_12_81 rfl h (fun v6 h => ?_)
  refine r_iconst (v := 3) rfl (by decide) ?_
  refine r_iload_n rfl rfl ?_
  refine r_iast rfl h (fun M4 h => ?_)
  refine r_aload_n rfl rfl ?_
  refine r_getR rfl fl_12_81 rfl h (fun v7 h => ?_)
  refine r_iconst (v := 4) rfl (by decide) ?_
  refine r_aload_n rfl rfl ?_
  refine r_aload_n rfl rfl ?_
  refine r_getI rfl fl_12_355 rfl h (fun v8 h => ?_)
  refine r_cv_i (vs := [.int v8]) rfl ml_12_358 rfl (rOk.of rfl) ⟨Nat.zero_le _, Nat.zero_le _⟩ rfl rfl rfl h s_X12_piecesOf (fun v9 M5 h => ?_)
  refine r_iast rfl h (fun M6 h => ?_)
  refine r_aload_n rfl rfl ?_
  refine r_getR rfl fl_12_81 rfl h (fun v10 h => ?_)
  refine r_iconst (v := 5) rfl (by decide) ?_
  refine r_aload_n rfl rfl ?_
  refine r_iconst (v := 1) rfl (by decide) ?_
  refine r_aload_n rfl rfl ?_
  refine r_getI rfl fl_12_355 rfl h (fun v11 h => ?_)
  refine r_isub rfl ?_
  refine r_cv_i (vs := [.int ((1 : Int32) - v11)]) rfl ml_12_358 rfl (rOk.of rfl) ⟨Nat.zero_le _, Nat.zero_le _⟩ rfl rfl rfl h s_X12_piecesOf (fun v12 M7 h => ?_)
  refine r_iast rfl h (fun M8 h => ?_)
  refine r_aload_n rfl rfl ?_
  refine r_getR rfl fl_12_81 rfl h (fun v13 h => ?_)
  refine r_bipush (v := 6) rfl (by decide) ?_
  refine r_aload_n rfl rfl ?_
  refine r_getI rfl fl_12_355 rfl h (fun v14 h => ?_)
  refine r_iast rfl h (fun M9 h => ?_)
  exact r_vret rfl rfl ⟨Nat.le_of_ble_eq_true rfl, Nat.le_of_ble_eq_true rfl⟩ h
set_option maxRecDepth 20000 in
theorem dk_X12_bound : ∀ pc i, L_X12_bound[pc]? = some (some i) → decode prog_14_method_41_code pc = .ok i := dk_of (by decide +kernel)
theorem s_X12_bound {d : Nat} {P : Int64 → Mem → Prop} {l0 : Int64} {M : Mem} (h : FQ (f_X12_bound l0 M) P) : Con Y_X12_bound d 0 0 [.long l0] M (QL P) := by
  refine Con.of [some (.long l0), none] (by decide +kernel) dk_X12_bound (by simp [Y_X12_bound, cat_rf, cat_i, cat_l]) (by simp [loE, Y_X12_bound, cat_rf, cat_i, cat_l, List.replicate]) ?_
  unfold f_X12_bound at h
  refine r_lload_n rfl rfl ?_
  refine r_ldc2 rfl kl_12_340 ?_
  refine r_lcmp rfl ?_
  refine r_if_le 14 rfl (by decide) h (fun h => ?_) (fun h => ?_)
  · refine r_lload_n rfl rfl ?_
    refine r_ldc2 rfl kl_12_342 ?_
    refine r_lcmp rfl ?_
    refine r_if_ge 28 rfl (by decide) h (fun h => ?_) (fun h => ?_)
    · refine r_lload_n rfl rfl ?_
      exact r_lret rfl rfl ⟨Nat.le_of_ble_eq_true rfl, Nat.le_of_ble_eq_true rfl⟩ h
    · refine r_ldc2 rfl kl_12_342 ?_
      refine r_goto 29 rfl (by decide) ?_
      exact r_lret rfl rfl ⟨Nat.le_of_ble_eq_true rfl, Nat.le_of_ble_eq_true rfl⟩ h
  · refine r_ldc2 rfl kl_12_340 ?_
    refine r_goto 29 rfl (by decide) ?_
    exact r_lret rfl rfl ⟨Nat.le_of_ble_eq_true rfl, Nat.le_of_ble_eq_true rfl⟩ h
