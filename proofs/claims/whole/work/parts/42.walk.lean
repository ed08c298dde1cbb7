/-! walked by program (wip/gen): X12_laysStates X12_isOfferOf X12_wonBy X12_losesBy X12_lostBy X12_winsBy -/
def L_X12_laysStates : List (Option (Instr × Nat)) := [some (.iconst 0, 1), some (.istore_n 1, 1), some (.iload_n 1, 1), some (.sipush 8192, 3), none, none, some (.if_icmp .ge 16, 3), none, none, some (.aload_n 0, 1), some (.getfield 128, 3), none, none, some (.iload_n 1, 1), some (.iconst (-1), 1), some (.iastore, 1), some (.iinc 1 1, 3), none, none, some (.goto (-17), 3), none, none, some (.aload_n 0, 1), some (.invokevirtual 410, 3), none, none, some (.aload_n 0, 1), some (.getfield 112, 3), none, none, some (.iconst 0, 1), some (.aload_n 0, 1), some (.invokevirtual 494, 3), none, none, some (.lastore, 1), some (.aload_n 0, 1), some (.getfield 128, 3), none, none, some (.aload_n 0, 1), some (.aload_n 0, 1), some (.getfield 112, 3), none, none, some (.iconst 0, 1), some (.laload, 1), some (.invokevirtual 497, 3), none, none, some (.iconst 0, 1), some (.iastore, 1), some (.aload_n 0, 1), some (.iconst 1, 1), some (.putfield 500, 3), none, none, some (.iconst 0, 1), some (.istore_n 1, 1), some (.iload_n 1, 1), some (.aload_n 0, 1), some (.getfield 500, 3), none, none, some (.if_icmp .ge 211, 3), none, none, some (.aload_n 0, 1), some (.aload_n 0, 1), some (.getfield 112, 3), none, none, some (.iload_n 1, 1), some (.laload, 1), some (.invokevirtual 503, 3), none, none, some (.aload_n 0, 1), some (.invokevirtual 422, 3), none, none, some (.aload_n 0, 1), some (.invokevirtual 455, 3), none, none, some (.ifCond .eq 7, 3), none, none, some (.iconst 0, 1), some (.goto 7, 3), none, none, some (.aload_n 0, 1), some (.getfield 401, 3), none, none, some (.istore_n 2, 1), some (.aload_n 0, 1), some (.getfield 115, 3), none, none, some (.iload_n 1, 1), some (.iload_n 2, 1), some (.iastore, 1), some (.iconst 0, 1), some (.istore_n 3, 1), some (.iload_n 3, 1), some (.bipush 64, 2), none, some (.if_icmp .ge 160, 3), none, none, some (.aload_n 0, 1), some (.getfield 119, 3), none, none, some (.bipush 64, 2), none, some (.iload_n 1, 1), some (.imul, 1), some (.iload_n 3, 1), some (.iadd, 1), some (.iconst (-1), 1), some (.iastore, 1), some (.iload_n 3, 1), some (.bipush 8, 2), none, some (.idiv, 1), some (.iload_n 3, 1), some (.bipush 8, 2), none, some (.irem, 1), some (.if_icmp .eq 131, 3), none, none, some (.iload_n 2, 1), some (.iload_n 3, 1), some (.bipush 8, 2), none, some (.idiv, 1), some (.ishr, 1), some (.iload_n 2, 1), some (.iload_n 3, 1), some (.bipush 8, 2), none, some (.irem, 1), some (.ishr, 1), some (.iand, 1), some (.iconst 1, 1), some (.iand, 1), some (.iconst 1, 1), some (.if_icmp .ne 112, 3), none, none, some (.aload_n 0, 1), some (.aload_n 0, 1), some (.getfield 112, 3), none, none, some (.iload_n 1, 1), some (.laload, 1), some (.invokevirtual 503, 3), none, none, some (.aload_n 0, 1), some (.iload_n 3, 1), some (.bipush 8, 2), none, some (.idiv, 1), some (.iload_n 3, 1), some (.bipush 8, 2), none, some (.irem, 1), some (.invokevirtual 436, 3), none, none, some (.aload_n 0, 1), some (.invokevirtual 494, 3), none, none, some (.lstore 4, 2), none, some (.aload_n 0, 1), some (.lload 4, 2), none, some (.invokevirtual 497, 3), none, none, some (.istore 6, 2), none, some (.aload_n 0, 1), some (.getfield 128, 3), none, none, some (.iload 6, 2), none, some (.iaload, 1), some (.iconst (-1), 1), some (.if_icmp .ne 47, 3), none, none, some (.aload_n 0, 1), some (.getfield 500, 3), none, none, some (.sipush 2000, 3), none, none, some (.if_icmp .ne 5, 3), none, none, some (.iconst 0, 1), some (.ireturn, 1), some (.aload_n 0, 1), some (.getfield 128, 3), none, none, some (.iload 6, 2), none, some (.aload_n 0, 1), some (.getfield 500, 3), none, none, some (.iastore, 1), some (.aload_n 0, 1), some (.getfield 112, 3), none, none, some (.aload_n 0, 1), some (.getfield 500, 3), none, none, some (.lload 4, 2), none, some (.lastore, 1), some (.aload_n 0, 1), some (.dup, 1), some (.getfield 500, 3), none, none, some (.iconst 1, 1), some (.iadd, 1), some (.putfield 500, 3), none, none, some (.aload_n 0, 1), some (.getfield 119, 3), none, none, some (.bipush 64, 2), none, some (.iload_n 1, 1), some (.imul, 1), some (.iload_n 3, 1), some (.iadd, 1), some (.aload_n 0, 1), some (.getfield 128, 3), none, none, some (.iload 6, 2), none, some (.iaload, 1), some (.iastore, 1), some (.iinc 3 1, 3), none, none, some (.goto (-160), 3), none, none, some (.iinc 1 1, 3), none, none, some (.goto (-213), 3), none, none, some (.iconst 1, 1), some (.ireturn, 1)]
def Y_X12_laysStates : YM := (⟨RX12, "laysStates", "()Z"⟩, prog_14_method_92_code, L_X12_laysStates, 7, some .boolean)
def f_X12_laysStates_245 (q59 : Option Nat → Int32 → Mem → Option (Int32 × Mem)) (q106 : Option Nat → Int32 → Int32 → Int32 → Mem → Option (Int32 × Mem)) (r0 : Option Nat) (i1 : Int32) (i2 : Int32) (i3 : Int32) (i6 : Int32) (M : Mem) : Option (Int32 × Mem) :=
gR M r0 12 61 fun v1 =>
gR M r0 12 64 fun v2 =>
aI M v2 2 i6 fun v3 =>
wI M v1 2 (((64 : Int32) * i1) + i3) v3 fun M1 =>
q106 r0 i1 i2 (i3 + (1 : Int32)) M1
def b_X12_laysStates_106 (q59 : Option Nat → Int32 → Mem → Option (Int32 × Mem)) (q106 : Option Nat → Int32 → Int32 → Int32 → Mem → Option (Int32 × Mem)) (r0 : Option Nat) (i1 : Int32) (i2 : Int32) (i3 : Int32) (M : Mem) : Option (Int32 × Mem) :=
(if (64 : Int32) ≤ i3 then
q59 r0 (i1 + (1 : Int32)) M
else
gR M r0 12 61 fun v1 =>
wI M v1 2 (((64 : Int32) * i1) + i3) (-1 : Int32) fun M1 =>
nzI (8 : Int32) (
nzI (8 : Int32) (
(if (i3 / (8 : Int32)) = (i3 - i3 / (8 : Int32) * (8 : Int32)) then
q106 r0 i1 i2 (i3 + (1 : Int32)) M1
else
nzI (8 : Int32) (
nzI (8 : Int32) (
(if (((i2 >>> ((i3 / (8 : Int32)) &&& 31)) &&& (i2 >>> ((i3 - i3 / (8 : Int32) * (8 : Int32)) &&& 31))) &&& (1 : Int32)) = (1 : Int32) then
gR M1 r0 12 59 fun v2 =>
aL M1 v2 i1 fun v3 =>
cR M1 r0 (1, 12) (cA (f_X12_laysState r0 v3 M1) fun _ M2 =>
nzI (8 : Int32) (
nzI (8 : Int32) (
cR M2 r0 (1, 12) (cA (f_X12_plays r0 (i3 / (8 : Int32)) (i3 - i3 / (8 : Int32) * (8 : Int32)) M2) fun _ M3 =>
cR M3 r0 (1, 12) (cA (f_X12_codeOf r0 M3) fun v4 M4 =>
cR M4 r0 (1, 12) (cA (f_X12_cellOf r0 v4 M4) fun v5 M5 =>
gR M5 r0 12 64 fun v6 =>
aI M5 v6 2 v5 fun v7 =>
(if v7 = (-1 : Int32) then
gI M5 r0 12 58 fun v8 =>
(if v8 = (2000 : Int32) then
tv (0 : Int32) (some ((0 : Int32), M5))
else
gR M5 r0 12 64 fun v9 =>
gI M5 r0 12 58 fun v10 =>
wI M5 v9 2 v5 v10 fun M6 =>
gR M6 r0 12 59 fun v11 =>
gI M6 r0 12 58 fun v12 =>
wL M6 v11 v12 v4 fun M7 =>
gI M7 r0 12 58 fun v13 =>
pI M7 r0 12 58 (v13 + (1 : Int32)) fun M8 =>
f_X12_laysStates_245 q59 q106 r0 i1 i2 i3 v5 M8)
else
f_X12_laysStates_245 q59 q106 r0 i1 i2 i3 v5 M5)))))))
else
q106 r0 i1 i2 (i3 + (1 : Int32)) M1)))))))
def f_X12_laysStates_106 (q59 : Option Nat → Int32 → Mem → Option (Int32 × Mem)) (n : Nat) : Option Nat → Int32 → Int32 → Int32 → Mem → Option (Int32 × Mem) := lpN (fun _ _ _ _ _ => none) (b_X12_laysStates_106 q59) n
def b_X12_laysStates_59 (q59 : Option Nat → Int32 → Mem → Option (Int32 × Mem)) (r0 : Option Nat) (i1 : Int32) (M : Mem) : Option (Int32 × Mem) :=
gI M r0 12 58 fun v1 =>
(if v1 ≤ i1 then
tv (1 : Int32) (some ((1 : Int32), M))
else
gR M r0 12 59 fun v2 =>
aL M v2 i1 fun v3 =>
cR M r0 (1, 12) (cA (f_X12_laysState r0 v3 M) fun _ M1 =>
cR M1 r0 (1, 12) (cA (f_X12_laysMoves r0 M1) fun _ M2 =>
cR M2 r0 (1, 12) (cA (f_X12_isOver r0 M2) fun v4 M3 =>
(if v4 = 0 then
gI M3 r0 12 49 fun v5 =>
gR M3 r0 12 60 fun v6 =>
wI M3 v6 2 i1 v5 fun M4 =>
f_X12_laysStates_106 q59 FU r0 i1 v5 (0 : Int32) M4
else
gR M3 r0 12 60 fun v7 =>
wI M3 v7 2 i1 (0 : Int32) fun M5 =>
f_X12_laysStates_106 q59 FU r0 i1 (0 : Int32) (0 : Int32) M5)))))
def f_X12_laysStates_59 (n : Nat) : Option Nat → Int32 → Mem → Option (Int32 × Mem) := lpN (fun _ _ _ => none) (b_X12_laysStates_59 ) n
def b_X12_laysStates_2 (q2 : Option Nat → Int32 → Mem → Option (Int32 × Mem)) (r0 : Option Nat) (i1 : Int32) (M : Mem) : Option (Int32 × Mem) :=
(if (8192 : Int32) ≤ i1 then
cR M r0 (1, 12) (cA (f_X12_laysNow r0 M) fun _ M1 =>
gR M1 r0 12 59 fun v1 =>
cR M1 r0 (1, 12) (cA (f_X12_codeOf r0 M1) fun v2 M2 =>
wL M2 v1 (0 : Int32) v2 fun M3 =>
gR M3 r0 12 64 fun v3 =>
gR M3 r0 12 59 fun v4 =>
aL M3 v4 (0 : Int32) fun v5 =>
cR M3 r0 (1, 12) (cA (f_X12_cellOf r0 v5 M3) fun v6 M4 =>
wI M4 v3 2 v6 (0 : Int32) fun M5 =>
pI M5 r0 12 58 (1 : Int32) fun M6 =>
f_X12_laysStates_59 FU r0 (0 : Int32) M6)))
else
gR M r0 12 64 fun v7 =>
wI M v7 2 i1 (-1 : Int32) fun M7 =>
q2 r0 (i1 + (1 : Int32)) M7)
def f_X12_laysStates_2 (n : Nat) : Option Nat → Int32 → Mem → Option (Int32 × Mem) := lpN (fun _ _ _ => none) (b_X12_laysStates_2 ) n
def f_X12_laysStates (r0 : Option Nat) (M : Mem) : Option (Int32 × Mem) :=
f_X12_laysStates_2 FU r0 (0 : Int32) M
def L_X12_isOfferOf : List (Option (Instr × Nat)) := [some (.iload_n 1, 1), some (.bipush 64, 2), none, some (.idiv, 1), some (.istore_n 2, 1), some (.iload_n 1, 1), some (.bipush 8, 2), none, some (.idiv, 1), some (.bipush 8, 2), none, some (.irem, 1), some (.istore_n 3, 1), some (.iload_n 1, 1), some (.bipush 8, 2), none, some (.irem, 1), some (.istore 4, 2), none, some (.iload_n 2, 1), some (.iload_n 3, 1), some (.if_icmp .ge 31, 3), none, none, some (.iload_n 3, 1), some (.iload 4, 2), none, some (.if_icmp .ge 25, 3), none, none, some (.iload_n 0, 1), some (.iload_n 2, 1), some (.ishr, 1), some (.iload_n 0, 1), some (.iload_n 3, 1), some (.ishr, 1), some (.iand, 1), some (.iload_n 0, 1), some (.iload 4, 2), none, some (.ishr, 1), some (.iand, 1), some (.iconst 1, 1), some (.iand, 1), some (.iconst 1, 1), some (.if_icmp .ne 7, 3), none, none, some (.iconst 1, 1), some (.goto 4, 3), none, none, some (.iconst 0, 1), some (.ireturn, 1)]
def Y_X12_isOfferOf : YM := (⟨RX12, "isOfferOf", "(II)Z"⟩, prog_14_method_98_code, L_X12_isOfferOf, 5, some .boolean)
def f_X12_isOfferOf (i0 : Int32) (i1 : Int32) (M : Mem) : Option (Int32 × Mem) :=
nzI (64 : Int32) (
nzI (8 : Int32) (
nzI (8 : Int32) (
nzI (8 : Int32) (
(if ((i1 / (8 : Int32)) - (i1 / (8 : Int32)) / (8 : Int32) * (8 : Int32)) ≤ (i1 / (64 : Int32)) then
tv (0 : Int32) (some ((0 : Int32), M))
else
(if (i1 - i1 / (8 : Int32) * (8 : Int32)) ≤ ((i1 / (8 : Int32)) - (i1 / (8 : Int32)) / (8 : Int32) * (8 : Int32)) then
tv (0 : Int32) (some ((0 : Int32), M))
else
(if ((((i0 >>> ((i1 / (64 : Int32)) &&& 31)) &&& (i0 >>> (((i1 / (8 : Int32)) - (i1 / (8 : Int32)) / (8 : Int32) * (8 : Int32)) &&& 31))) &&& (i0 >>> ((i1 - i1 / (8 : Int32) * (8 : Int32)) &&& 31))) &&& (1 : Int32)) = (1 : Int32) then
tv (1 : Int32) (some ((1 : Int32), M))
else
tv (0 : Int32) (some ((0 : Int32), M)))))))))
def L_X12_wonBy : List (Option (Instr × Nat)) := [some (.aload_n 0, 1), some (.getfield 119, 3), none, none, some (.bipush 64, 2), none, some (.iload_n 1, 1), some (.imul, 1), some (.bipush 8, 2), none, some (.iload_n 2, 1), some (.imul, 1), some (.iadd, 1), some (.iload_n 3, 1), some (.iadd, 1), some (.iaload, 1), some (.istore 5, 2), none, some (.aload_n 0, 1), some (.getfield 119, 3), none, none, some (.bipush 64, 2), none, some (.iload_n 1, 1), some (.imul, 1), some (.bipush 8, 2), none, some (.iload_n 2, 1), some (.imul, 1), some (.iadd, 1), some (.iload 4, 2), none, some (.iadd, 1), some (.iaload, 1), some (.istore 6, 2), none, some (.aload_n 0, 1), some (.getfield 122, 3), none, none, some (.iload 5, 2), none, some (.iaload, 1), some (.iconst 1, 1), some (.if_icmp .ne 14, 3), none, none, some (.aload_n 0, 1), some (.getfield 122, 3), none, none, some (.iload 6, 2), none, some (.iaload, 1), some (.iconst 1, 1), some (.if_icmp .eq 7, 3), none, none, some (.ldc_w 510, 3), none, none, some (.ireturn, 1), some (.aload_n 0, 1), some (.getfield 125, 3), none, none, some (.iload 5, 2), none, some (.iaload, 1), some (.aload_n 0, 1), some (.getfield 125, 3), none, none, some (.iload 6, 2), none, some (.iaload, 1), some (.if_icmp .le 13, 3), none, none, some (.aload_n 0, 1), some (.getfield 125, 3), none, none, some (.iload 5, 2), none, some (.iaload, 1), some (.goto 10, 3), none, none, some (.aload_n 0, 1), some (.getfield 125, 3), none, none, some (.iload 6, 2), none, some (.iaload, 1), some (.ireturn, 1)]
def Y_X12_wonBy : YM := (⟨RX12, "wonBy", "(IIII)I"⟩, prog_14_method_95_code, L_X12_wonBy, 7, some .int)
def f_X12_wonBy (r0 : Option Nat) (i1 : Int32) (i2 : Int32) (i3 : Int32) (i4 : Int32) (M : Mem) : Option (Int32 × Mem) :=
gR M r0 12 61 fun v1 =>
aI M v1 2 ((((64 : Int32) * i1) + ((8 : Int32) * i2)) + i3) fun v2 =>
gR M r0 12 61 fun v3 =>
aI M v3 2 ((((64 : Int32) * i1) + ((8 : Int32) * i2)) + i4) fun v4 =>
gR M r0 12 62 fun v5 =>
aI M v5 2 v2 fun v6 =>
(if v6 = (1 : Int32) then
gR M r0 12 62 fun v7 =>
aI M v7 2 v4 fun v8 =>
(if v8 = (1 : Int32) then
gR M r0 12 63 fun v9 =>
aI M v9 2 v2 fun v10 =>
gR M r0 12 63 fun v11 =>
aI M v11 2 v4 fun v12 =>
(if v10 ≤ v12 then
gR M r0 12 63 fun v13 =>
aI M v13 2 v4 fun v14 =>
some (v14, M)
else
gR M r0 12 63 fun v15 =>
aI M v15 2 v2 fun v16 =>
some (v16, M))
else
some ((100000 : Int32), M))
else
some ((100000 : Int32), M))
def L_X12_losesBy : List (Option (Instr × Nat)) := [some (.aload_n 0, 1), some (.iload_n 1, 1), some (.iload_n 2, 1), some (.iload_n 3, 1), some (.iload 4, 2), none, some (.invokevirtual 515, 3), none, none, some (.istore 5, 2), none, some (.aload_n 0, 1), some (.iload_n 1, 1), some (.iload_n 3, 1), some (.iload_n 2, 1), some (.iload 4, 2), none, some (.invokevirtual 515, 3), none, none, some (.istore 6, 2), none, some (.aload_n 0, 1), some (.iload_n 1, 1), some (.iload 4, 2), none, some (.iload_n 2, 1), some (.iload_n 3, 1), some (.invokevirtual 515, 3), none, none, some (.istore 7, 2), none, some (.iload 5, 2), none, some (.iload 6, 2), none, some (.if_icmp .ge 8, 3), none, none, some (.iload 5, 2), none, some (.goto 5, 3), none, none, some (.iload 6, 2), none, some (.istore 8, 2), none, some (.iload 8, 2), none, some (.iload 7, 2), none, some (.if_icmp .ge 8, 3), none, none, some (.iload 8, 2), none, some (.goto 5, 3), none, none, some (.iload 7, 2), none, some (.ireturn, 1)]
def Y_X12_losesBy : YM := (⟨RX12, "losesBy", "(IIII)I"⟩, prog_14_method_97_code, L_X12_losesBy, 9, some .int)
def f_X12_losesBy (r0 : Option Nat) (i1 : Int32) (i2 : Int32) (i3 : Int32) (i4 : Int32) (M : Mem) : Option (Int32 × Mem) :=
cR M r0 (1, 12) (cA (f_X12_wonBy r0 i1 i2 i3 i4 M) fun v1 M1 =>
cR M1 r0 (1, 12) (cA (f_X12_wonBy r0 i1 i3 i2 i4 M1) fun v2 M2 =>
cR M2 r0 (1, 12) (cA (f_X12_wonBy r0 i1 i4 i2 i3 M2) fun v3 M3 =>
(if v2 ≤ v1 then
(if v3 ≤ v2 then
some (v3, M3)
else
some (v2, M3))
else
(if v3 ≤ v1 then
some (v3, M3)
else
some (v1, M3))))))
def L_X12_lostBy : List (Option (Instr × Nat)) := [some (.aload_n 0, 1), some (.getfield 119, 3), none, none, some (.bipush 64, 2), none, some (.iload_n 1, 1), some (.imul, 1), some (.bipush 8, 2), none, some (.iload_n 2, 1), some (.imul, 1), some (.iadd, 1), some (.iload_n 3, 1), some (.iadd, 1), some (.iaload, 1), some (.istore 5, 2), none, some (.aload_n 0, 1), some (.getfield 119, 3), none, none, some (.bipush 64, 2), none, some (.iload_n 1, 1), some (.imul, 1), some (.bipush 8, 2), none, some (.iload_n 2, 1), some (.imul, 1), some (.iadd, 1), some (.iload 4, 2), none, some (.iadd, 1), some (.iaload, 1), some (.istore 6, 2), none, some (.aload_n 0, 1), some (.getfield 122, 3), none, none, some (.iload 5, 2), none, some (.iaload, 1), some (.iconst 2, 1), some (.if_icmp .ne 13, 3), none, none, some (.aload_n 0, 1), some (.getfield 125, 3), none, none, some (.iload 5, 2), none, some (.iaload, 1), some (.goto 6, 3), none, none, some (.ldc_w 510, 3), none, none, some (.istore 7, 2), none, some (.aload_n 0, 1), some (.getfield 122, 3), none, none, some (.iload 6, 2), none, some (.iaload, 1), some (.iconst 2, 1), some (.if_icmp .ne 25, 3), none, none, some (.aload_n 0, 1), some (.getfield 125, 3), none, none, some (.iload 6, 2), none, some (.iaload, 1), some (.iload 7, 2), none, some (.if_icmp .ge 13, 3), none, none, some (.aload_n 0, 1), some (.getfield 125, 3), none, none, some (.iload 6, 2), none, some (.iaload, 1), some (.goto 5, 3), none, none, some (.iload 7, 2), none, some (.ireturn, 1)]
def Y_X12_lostBy : YM := (⟨RX12, "lostBy", "(IIII)I"⟩, prog_14_method_94_code, L_X12_lostBy, 8, some .int)
def f_X12_lostBy_61  (r0 : Option Nat) (i6 : Int32) (si0 : Int32) (M : Mem) : Option (Int32 × Mem) :=
gR M r0 12 62 fun v1 =>
aI M v1 2 i6 fun v2 =>
(if v2 = (2 : Int32) then
gR M r0 12 63 fun v3 =>
aI M v3 2 i6 fun v4 =>
(if si0 ≤ v4 then
some (si0, M)
else
gR M r0 12 63 fun v5 =>
aI M v5 2 i6 fun v6 =>
some (v6, M))
else
some (si0, M))
def f_X12_lostBy (r0 : Option Nat) (i1 : Int32) (i2 : Int32) (i3 : Int32) (i4 : Int32) (M : Mem) : Option (Int32 × Mem) :=
gR M r0 12 61 fun v1 =>
aI M v1 2 ((((64 : Int32) * i1) + ((8 : Int32) * i2)) + i3) fun v2 =>
gR M r0 12 61 fun v3 =>
aI M v3 2 ((((64 : Int32) * i1) + ((8 : Int32) * i2)) + i4) fun v4 =>
gR M r0 12 62 fun v5 =>
aI M v5 2 v2 fun v6 =>
(if v6 = (2 : Int32) then
gR M r0 12 63 fun v7 =>
aI M v7 2 v2 fun v8 =>
f_X12_lostBy_61 r0 v4 v8 M
else
f_X12_lostBy_61 r0 v4 (100000 : Int32) M)
def L_X12_winsBy : List (Option (Instr × Nat)) := [some (.aload_n 0, 1), some (.iload_n 1, 1), some (.iload_n 2, 1), some (.iload_n 3, 1), some (.iload 4, 2), none, some (.invokevirtual 511, 3), none, none, some (.istore 5, 2), none, some (.aload_n 0, 1), some (.iload_n 1, 1), some (.iload_n 3, 1), some (.iload_n 2, 1), some (.iload 4, 2), none, some (.invokevirtual 511, 3), none, none, some (.istore 6, 2), none, some (.aload_n 0, 1), some (.iload_n 1, 1), some (.iload 4, 2), none, some (.iload_n 2, 1), some (.iload_n 3, 1), some (.invokevirtual 511, 3), none, none, some (.istore 7, 2), none, some (.iload 5, 2), none, some (.iload 6, 2), none, some (.if_icmp .le 8, 3), none, none, some (.iload 5, 2), none, some (.goto 5, 3), none, none, some (.iload 6, 2), none, some (.istore 8, 2), none, some (.iload 8, 2), none, some (.iload 7, 2), none, some (.if_icmp .le 8, 3), none, none, some (.iload 8, 2), none, some (.goto 5, 3), none, none, some (.iload 7, 2), none, some (.ireturn, 1)]
def Y_X12_winsBy : YM := (⟨RX12, "winsBy", "(IIII)I"⟩, prog_14_method_96_code, L_X12_winsBy, 9, some .int)
def f_X12_winsBy (r0 : Option Nat) (i1 : Int32) (i2 : Int32) (i3 : Int32) (i4 : Int32) (M : Mem) : Option (Int32 × Mem) :=
cR M r0 (1, 12) (cA (f_X12_lostBy r0 i1 i2 i3 i4 M) fun v1 M1 =>
cR M1 r0 (1, 12) (cA (f_X12_lostBy r0 i1 i3 i2 i4 M1) fun v2 M2 =>
cR M2 r0 (1, 12) (cA (f_X12_lostBy r0 i1 i4 i2 i3 M2) fun v3 M3 =>
(if v1 ≤ v2 then
(if v2 ≤ v3 then
some (v3, M3)
else
some (v2, M3))
else
(if v1 ≤ v3 then
some (v3, M3)
else
some (v1, M3))))))
theorem fl_12_119 : FLk RX12 119 12 61 true := ⟨_, rfl, by decide, (gw_in 1177 (by decide +kernel) (by decide +kernel)), rfl⟩
set_option maxRecDepth 30000 in
theorem ok_X12_laysState : okY Y_X12_laysState := ⟨(gw_in 1709 rfl rfl), (gw_in 14 (by decide +kernel) (by decide +kernel)), by decide +kernel, by decide +kernel⟩
theorem ml_12_503 : MLv RX12 503 Y_X12_laysState 1 := ⟨(gw_in 1706 (by decide +kernel) (by decide +kernel)), (gw_in 1708 (by decide +kernel) (by decide +kernel)), (gw_sel (n := 70) 107 (by decide +kernel) (by decide +kernel)), ok_X12_laysState, by decide +kernel⟩
set_option maxRecDepth 30000 in
theorem ok_X12_codeOf : okY Y_X12_codeOf := ⟨(gw_in 1698 rfl rfl), (gw_in 14 (by decide +kernel) (by decide +kernel)), by decide +kernel, by decide +kernel⟩
theorem ml_12_494 : MLv RX12 494 Y_X12_codeOf 0 := ⟨(gw_in 1695 (by decide +kernel) (by decide +kernel)), (gw_in 1697 (by decide +kernel) (by decide +kernel)), (gw_sel (n := 70) 105 (by decide +kernel) (by decide +kernel)), ok_X12_codeOf, by decide +kernel⟩
set_option maxRecDepth 30000 in
theorem ok_X12_cellOf : okY Y_X12_cellOf := ⟨(gw_in 1703 rfl rfl), (gw_in 14 (by decide +kernel) (by decide +kernel)), by decide +kernel, by decide +kernel⟩
theorem ml_12_497 : MLv RX12 497 Y_X12_cellOf 1 := ⟨(gw_in 1700 (by decide +kernel) (by decide +kernel)), (gw_in 1702 (by decide +kernel) (by decide +kernel)), (gw_sel (n := 70) 106 (by decide +kernel) (by decide +kernel)), ok_X12_cellOf, by decide +kernel⟩
theorem fl_12_500 : FLk RX12 500 12 58 false := ⟨_, rfl, by decide, (gw_in 1174 (by decide +kernel) (by decide +kernel)), rfl⟩
set_option maxRecDepth 30000 in
theorem ok_X12_isOver : okY Y_X12_isOver := ⟨(gw_in 1618 rfl rfl), (gw_in 14 (by decide +kernel) (by decide +kernel)), by decide +kernel, by decide +kernel⟩
theorem ml_12_455 : MLv RX12 455 Y_X12_isOver 0 := ⟨(gw_in 1615 (by decide +kernel) (by decide +kernel)), (gw_in 1617 (by decide +kernel) (by decide +kernel)), (gw_sel (n := 70) 93 (by decide +kernel) (by decide +kernel)), ok_X12_isOver, by decide +kernel⟩
theorem fl_12_115 : FLk RX12 115 12 60 true := ⟨_, rfl, by decide, (gw_in 1176 (by decide +kernel) (by decide +kernel)), rfl⟩
theorem fl_12_122 : FLk RX12 122 12 62 true := ⟨_, rfl, by decide, (gw_in 1178 (by decide +kernel) (by decide +kernel)), rfl⟩
theorem fl_12_125 : FLk RX12 125 12 63 true := ⟨_, rfl, by decide, (gw_in 1179 (by decide +kernel) (by decide +kernel)), rfl⟩
theorem kc_12_510 : Jvm.Cond.constant RX12 510 (100000) ∈ gw := gw_in 1719 (by decide +kernel) (by decide +kernel)
set_option maxRecDepth 30000 in
theorem ok_X12_wonBy : okY Y_X12_wonBy := ⟨(gw_in 1742 rfl rfl), (gw_in 14 (by decide +kernel) (by decide +kernel)), by decide +kernel, by decide +kernel⟩
theorem ml_12_515 : MLv RX12 515 Y_X12_wonBy 4 := ⟨(gw_in 1739 (by decide +kernel) (by decide +kernel)), (gw_in 1741 (by decide +kernel) (by decide +kernel)), (gw_sel (n := 70) 113 (by decide +kernel) (by decide +kernel)), ok_X12_wonBy, by decide +kernel⟩
set_option maxRecDepth 30000 in
theorem ok_X12_lostBy : okY Y_X12_lostBy := ⟨(gw_in 1734 rfl rfl), (gw_in 14 (by decide +kernel) (by decide +kernel)), by decide +kernel, by decide +kernel⟩
theorem ml_12_511 : MLv RX12 511 Y_X12_lostBy 4 := ⟨(gw_in 1731 (by decide +kernel) (by decide +kernel)), (gw_in 1733 (by decide +kernel) (by decide +kernel)), (gw_sel (n := 70) 111 (by decide +kernel) (by decide +kernel)), ok_X12_lostBy, by decide +kernel⟩
set_option maxRecDepth 20000 in
theorem dk_X12_laysStates : ∀ pc i, L_X12_laysStates[pc]? = some (some i) → decode prog_14_method_92_code pc = .ok i := dk_of (by decide +kernel)
theorem s_X12_laysStates_245 {d : Nat} {P : Int32 → Mem → Prop} {q59 : Option Nat → Int32 → Mem → Option (Int32 × Mem)} {q106 : Option Nat → Int32 → Int32 → Int32 → Mem → Option (Int32 × Mem)} (hq59 : ∀ (r0 : Option Nat) (i1 : Int32) (M : Mem), FQ (q59 r0 i1 M) P → wp Y_X12_laysStates (rmD (d + 7) 0 0) (FM (QI P) 0 0) 0 0 59 [some (va_rf r0), some (.int i1), none, none, none, none, none] [] M) (hq106 : ∀ (r0 : Option Nat) (i1 : Int32) (i2 : Int32) (i3 : Int32) (M : Mem), FQ (q106 r0 i1 i2 i3 M) P → wp Y_X12_laysStates (rmD (d + 7) 0 0) (FM (QI P) 0 0) 0 0 106 [some (va_rf r0), some (.int i1), some (.int i2), some (.int i3), none, none, none] [] M) (r0 : Option Nat) (i1 : Int32) (i2 : Int32) (i3 : Int32) (i6 : Int32) (M : Mem) (h : FQ (f_X12_laysStates_245 q59 q106 r0 i1 i2 i3 i6 M) P) : wp Y_X12_laysStates (rmD (d + 7) 0 0) (FM (QI P) 0 0) 0 0 245 [some (va_rf r0), some (.int i1), some (.int i2), some (.int i3), none, none, some (.int i6)] [] M := by
  unfold f_X12_laysStates_245 at h
  refine r_aload_n rfl rfl ?_
  refine r_getR rfl fl_12_119 rfl h (fun v1 h => ?_)
  refine r_bipush (v := 64) rfl (by decide) ?_
  refine r_iload_n rfl rfl ?_
  refine r_imul rfl ?_
  refine r_iload_n rfl rfl ?_
  refine r_iadd rfl ?_
  refine r_aload_n rfl rfl ?_
  refine r_getR rfl fl_12_128 rfl h (fun v2 h => ?_)
  refine r_iload rfl rfl ?_
  refine r_iald rfl h (fun v3 h => ?_)
  refine r_iast rfl h (fun M1 h => ?_)
  refine r_iinc (v := 1) (lo' := [some (va_rf r0), some (.int i1), some (.int i2), some (.int (i3 + (1 : Int32))), none, none, some (.int i6)]) rfl rfl rfl (by decide) rfl rfl ?_
  refine r_goto 106 rfl (by decide) ?_
  refine r_msk [true, true, true, true, true, true, false] rfl ?_
  exact hq106 _ _ _ _ _ h
theorem sb_X12_laysStates_106 {d : Nat} {P : Int32 → Mem → Prop} {q59 : Option Nat → Int32 → Mem → Option (Int32 × Mem)} {q106 : Option Nat → Int32 → Int32 → Int32 → Mem → Option (Int32 × Mem)} (hq59 : ∀ (r0 : Option Nat) (i1 : Int32) (M : Mem), FQ (q59 r0 i1 M) P → wp Y_X12_laysStates (rmD (d + 7) 0 0) (FM (QI P) 0 0) 0 0 59 [some (va_rf r0), some (.int i1), none, none, none, none, none] [] M) (hq106 : ∀ (r0 : Option Nat) (i1 : Int32) (i2 : Int32) (i3 : Int32) (M : Mem), FQ (q106 r0 i1 i2 i3 M) P → wp Y_X12_laysStates (rmD (d + 7) 0 0) (FM (QI P) 0 0) 0 0 106 [some (va_rf r0), some (.int i1), some (.int i2), some (.int i3), none, none, none] [] M) (r0 : Option Nat) (i1 : Int32) (i2 : Int32) (i3 : Int32) (M : Mem) (h : FQ (b_X12_laysStates_106 q59 q106 r0 i1 i2 i3 M) P) : wp Y_X12_laysStates (rmD (d + 7) 0 0) (FM (QI P) 0 0) 0 0 106 [some (va_rf r0), some (.int i1), some (.int i2), some (.int i3), none, none, none] [] M := by
  unfold b_X12_laysStates_106 at h
  refine r_iload_n rfl rfl ?_
  refine r_bipush (v := 64) rfl (by decide) ?_
  refine r_ic_ge 269 rfl (by decide) h (fun h => ?_) (fun h => ?_)
  · refine r_iinc (v := 1) (lo' := [some (va_rf r0), some (.int (i1 + (1 : Int32))), some (.int i2), some (.int i3), none, none, none]) rfl rfl rfl (by decide) (by simp [stOk, cat_rf]) rfl ?_
    refine r_goto 59 rfl (by decide) ?_
    refine r_msk [true, true, false, false, true, true, true] rfl ?_
    exact hq59 _ _ _ h
  · refine r_aload_n rfl rfl ?_
    refine r_getR rfl fl_12_119 rfl h (fun v1 h => ?_)
    refine r_bipush (v := 64) rfl (by decide) ?_
    refine r_iload_n rfl rfl ?_
    refine r_imul rfl ?_
    refine r_iload_n rfl rfl ?_
    refine r_iadd rfl ?_
    refine r_iconst (v := -1) rfl (by decide) ?_
    refine r_iast rfl h (fun M1 h => ?_)
    refine r_iload_n rfl rfl ?_
    refine r_bipush (v := 8) rfl (by decide) ?_
    refine r_idiv rfl h (fun h => ?_)
    refine r_iload_n rfl rfl ?_
    refine r_bipush (v := 8) rfl (by decide) ?_
    refine r_irem rfl h (fun h => ?_)
    refine r_ic_eq 263 rfl (by decide) h (fun h => ?_) (fun h => ?_)
    · refine r_iinc (v := 1) (lo' := [some (va_rf r0), some (.int i1), some (.int i2), some (.int (i3 + (1 : Int32))), none, none, none]) rfl rfl rfl (by decide) rfl rfl ?_
      refine r_goto 106 rfl (by decide) ?_
      exact hq106 _ _ _ _ _ h
    · refine r_iload_n rfl rfl ?_
      refine r_iload_n rfl rfl ?_
      refine r_bipush (v := 8) rfl (by decide) ?_
      refine r_idiv rfl h (fun h => ?_)
      refine r_ishr rfl ?_
      refine r_iload_n rfl rfl ?_
      refine r_iload_n rfl rfl ?_
      refine r_bipush (v := 8) rfl (by decide) ?_
      refine r_irem rfl h (fun h => ?_)
      refine r_ishr rfl ?_
      refine r_iand rfl ?_
      refine r_iconst (v := 1) rfl (by decide) ?_
      refine r_iand rfl ?_
      refine r_iconst (v := 1) rfl (by decide) ?_
      refine r_ic_ne 263 rfl (by decide) h (fun h => ?_) (fun h => ?_)
      · refine r_aload_n rfl rfl ?_
        refine r_aload_n rfl rfl ?_
        refine r_getR rfl fl_12_112 rfl h (fun v2 h => ?_)
        refine r_iload_n rfl rfl ?_
        refine r_lald rfl h (fun v3 h => ?_)
        refine r_cv_v (vs := [.long v3]) rfl ml_12_503 rfl (rOk.of rfl) ⟨Nat.zero_le _, Nat.zero_le _⟩ rfl rfl rfl h s_X12_laysState (fun _ M2 h => ?_)
        refine r_aload_n rfl rfl ?_
        refine r_iload_n rfl rfl ?_
        refine r_bipush (v := 8) rfl (by decide) ?_
        refine r_idiv rfl h (fun h => ?_)
        refine r_iload_n rfl rfl ?_
        refine r_bipush (v := 8) rfl (by decide) ?_
        refine r_irem rfl h (fun h => ?_)
        refine r_cv_v (vs := [.int (i3 / (8 : Int32)), .int (i3 - i3 / (8 : Int32) * (8 : Int32))]) rfl ml_12_436 rfl (rOk.of rfl) ⟨Nat.zero_le _, Nat.zero_le _⟩ rfl rfl rfl h s_X12_plays (fun _ M3 h => ?_)
        refine r_aload_n rfl rfl ?_
        refine r_cv_l (vs := []) rfl ml_12_494 rfl (rOk.of rfl) ⟨Nat.zero_le _, Nat.zero_le _⟩ rfl rfl rfl h s_X12_codeOf (fun v4 M4 h => ?_)
        refine r_lstore (lo' := [some (va_rf r0), some (.int i1), some (.int i2), some (.int i3), some (.long v4), none, none]) rfl rfl rfl rfl ?_
        refine r_aload_n rfl rfl ?_
        refine r_lload rfl rfl ?_
        refine r_cv_i (vs := [.long v4]) rfl ml_12_497 rfl (rOk.of rfl) ⟨Nat.zero_le _, Nat.zero_le _⟩ rfl rfl rfl h s_X12_cellOf (fun v5 M5 h => ?_)
        refine r_istore (lo' := [some (va_rf r0), some (.int i1), some (.int i2), some (.int i3), some (.long v4), none, some (.int v5)]) rfl rfl rfl rfl ?_
        refine r_aload_n rfl rfl ?_
        refine r_getR rfl fl_12_128 rfl h (fun v6 h => ?_)
        refine r_iload rfl rfl ?_
        refine r_iald rfl h (fun v7 h => ?_)
        refine r_iconst (v := -1) rfl (by decide) ?_
        refine r_ic_ne 245 rfl (by decide) h (fun h => ?_) (fun h => ?_)
        · refine r_aload_n rfl rfl ?_
          refine r_getI rfl fl_12_500 rfl h (fun v8 h => ?_)
          refine r_sipush (v := 2000) rfl (by decide) ?_
          refine r_ic_ne 213 rfl (by decide) h (fun h => ?_) (fun h => ?_)
          · refine r_iconst (v := 0) rfl (by decide) ?_
            exact r_zret rfl rfl ⟨Nat.le_of_ble_eq_true rfl, Nat.le_of_ble_eq_true rfl⟩ h
          · refine r_aload_n rfl rfl ?_
            refine r_getR rfl fl_12_128 rfl h (fun v9 h => ?_)
            refine r_iload rfl rfl ?_
            refine r_aload_n rfl rfl ?_
            refine r_getI rfl fl_12_500 rfl h (fun v10 h => ?_)
            refine r_iast rfl h (fun M6 h => ?_)
            refine r_aload_n rfl rfl ?_
            refine r_getR rfl fl_12_112 rfl h (fun v11 h => ?_)
            refine r_aload_n rfl rfl ?_
            refine r_getI rfl fl_12_500 rfl h (fun v12 h => ?_)
            refine r_lload rfl rfl ?_
            refine r_last rfl h (fun M7 h => ?_)
            refine r_aload_n rfl rfl ?_
            refine r_dup rfl (cat_rf _) ?_
            refine r_getI rfl fl_12_500 rfl h (fun v13 h => ?_)
            refine r_iconst (v := 1) rfl (by decide) ?_
            refine r_iadd rfl ?_
            refine r_putI rfl fl_12_500 (fun z => by cases z) rfl h (fun M8 h => ?_)
            refine r_msk [true, true, true, true, false, true, true] rfl ?_
            exact s_X12_laysStates_245 hq59 hq106 _ _ _ _ _ _ h
        · refine r_msk [true, true, true, true, false, true, true] rfl ?_
          exact s_X12_laysStates_245 hq59 hq106 _ _ _ _ _ _ h
      · refine r_iinc (v := 1) (lo' := [some (va_rf r0), some (.int i1), some (.int i2), some (.int (i3 + (1 : Int32))), none, none, none]) rfl rfl rfl (by decide) rfl rfl ?_
        refine r_goto 106 rfl (by decide) ?_
        exact hq106 _ _ _ _ _ h
theorem s_X12_laysStates_106 {d : Nat} {P : Int32 → Mem → Prop} {q59 : Option Nat → Int32 → Mem → Option (Int32 × Mem)} (hq59 : ∀ (r0 : Option Nat) (i1 : Int32) (M : Mem), FQ (q59 r0 i1 M) P → wp Y_X12_laysStates (rmD (d + 7) 0 0) (FM (QI P) 0 0) 0 0 59 [some (va_rf r0), some (.int i1), none, none, none, none, none] [] M) : ∀ (k : Nat) (r0 : Option Nat) (i1 : Int32) (i2 : Int32) (i3 : Int32) (M : Mem), FQ (f_X12_laysStates_106 q59 k r0 i1 i2 i3 M) P → wp Y_X12_laysStates (rmD (d + 7) 0 0) (FM (QI P) 0 0) 0 0 106 [some (va_rf r0), some (.int i1), some (.int i2), some (.int i3), none, none, none] [] M
  | 0, _, _, _, _, _, h => h.no
  | k + 1, r0, i1, i2, i3, M, h => sb_X12_laysStates_106 hq59 (s_X12_laysStates_106 hq59 k) r0 i1 i2 i3 M h
theorem sb_X12_laysStates_59 {d : Nat} {P : Int32 → Mem → Prop} {q59 : Option Nat → Int32 → Mem → Option (Int32 × Mem)} (hq59 : ∀ (r0 : Option Nat) (i1 : Int32) (M : Mem), FQ (q59 r0 i1 M) P → wp Y_X12_laysStates (rmD (d + 7) 0 0) (FM (QI P) 0 0) 0 0 59 [some (va_rf r0), some (.int i1), none, none, none, none, none] [] M) (r0 : Option Nat) (i1 : Int32) (M : Mem) (h : FQ (b_X12_laysStates_59 q59 r0 i1 M) P) : wp Y_X12_laysStates (rmD (d + 7) 0 0) (FM (QI P) 0 0) 0 0 59 [some (va_rf r0), some (.int i1), none, none, none, none, none] [] M := by
  unfold b_X12_laysStates_59 at h
  refine r_iload_n rfl rfl ?_
  refine r_aload_n rfl rfl ?_
  refine r_getI rfl fl_12_500 rfl h (fun v1 h => ?_)
  refine r_ic_ge 275 rfl (by decide) h (fun h => ?_) (fun h => ?_)
  · refine r_iconst (v := 1) rfl (by decide) ?_
    exact r_zret rfl rfl ⟨Nat.le_of_ble_eq_true rfl, Nat.le_of_ble_eq_true rfl⟩ h
  · refine r_aload_n rfl rfl ?_
    refine r_aload_n rfl rfl ?_
    refine r_getR rfl fl_12_112 rfl h (fun v2 h => ?_)
    refine r_iload_n rfl rfl ?_
    refine r_lald rfl h (fun v3 h => ?_)
    refine r_cv_v (vs := [.long v3]) rfl ml_12_503 rfl (rOk.of rfl) ⟨Nat.zero_le _, Nat.zero_le _⟩ rfl rfl rfl h s_X12_laysState (fun _ M1 h => ?_)
    refine r_aload_n rfl rfl ?_
    refine r_cv_v (vs := []) rfl ml_12_422 rfl (rOk.of rfl) ⟨Nat.zero_le _, Nat.zero_le _⟩ rfl rfl rfl h s_X12_laysMoves (fun _ M2 h => ?_)
    refine r_aload_n rfl rfl ?_
    refine r_cv_i (vs := []) rfl ml_12_455 rfl (rOk.of rfl) ⟨Nat.zero_le _, Nat.zero_le _⟩ rfl rfl rfl h s_X12_isOver (fun v4 M3 h => ?_)
    refine r_if_eq 92 rfl (by decide) h (fun h => ?_) (fun h => ?_)
    · refine r_aload_n rfl rfl ?_
      refine r_getI rfl fl_12_401 rfl h (fun v5 h => ?_)
      refine r_istore_n (lo' := [some (va_rf r0), some (.int i1), some (.int v5), none, none, none, none]) rfl rfl rfl rfl ?_
      refine r_aload_n rfl rfl ?_
      refine r_getR rfl fl_12_115 rfl h (fun v6 h => ?_)
      refine r_iload_n rfl rfl ?_
      refine r_iload_n rfl rfl ?_
      refine r_iast rfl h (fun M4 h => ?_)
      refine r_iconst (v := 0) rfl (by decide) ?_
      refine r_istore_n (lo' := [some (va_rf r0), some (.int i1), some (.int v5), some (.int (0 : Int32)), none, none, none]) rfl rfl rfl rfl ?_
      exact s_X12_laysStates_106 hq59 FU _ _ _ _ _ h
    · refine r_iconst (v := 0) rfl (by decide) ?_
      refine r_goto 96 rfl (by decide) ?_
      refine r_istore_n (lo' := [some (va_rf r0), some (.int i1), some (.int (0 : Int32)), none, none, none, none]) rfl rfl rfl rfl ?_
      refine r_aload_n rfl rfl ?_
      refine r_getR rfl fl_12_115 rfl h (fun v7 h => ?_)
      refine r_iload_n rfl rfl ?_
      refine r_iload_n rfl rfl ?_
      refine r_iast rfl h (fun M5 h => ?_)
      refine r_iconst (v := 0) rfl (by decide) ?_
      refine r_istore_n (lo' := [some (va_rf r0), some (.int i1), some (.int (0 : Int32)), some (.int (0 : Int32)), none, none, none]) rfl rfl rfl rfl ?_
      exact s_X12_laysStates_106 hq59 FU _ _ _ _ _ h
theorem s_X12_laysStates_59 {d : Nat} {P : Int32 → Mem → Prop}   : ∀ (k : Nat) (r0 : Option Nat) (i1 : Int32) (M : Mem), FQ (f_X12_laysStates_59  k r0 i1 M) P → wp Y_X12_laysStates (rmD (d + 7) 0 0) (FM (QI P) 0 0) 0 0 59 [some (va_rf r0), some (.int i1), none, none, none, none, none] [] M
  | 0, _, _, _, h => h.no
  | k + 1, r0, i1, M, h => sb_X12_laysStates_59  (s_X12_laysStates_59  k) r0 i1 M h
theorem sb_X12_laysStates_2 {d : Nat} {P : Int32 → Mem → Prop} {q2 : Option Nat → Int32 → Mem → Option (Int32 × Mem)} (hq2 : ∀ (r0 : Option Nat) (i1 : Int32) (M : Mem), FQ (q2 r0 i1 M) P → wp Y_X12_laysStates (rmD (d + 7) 0 0) (FM (QI P) 0 0) 0 0 2 [some (va_rf r0), some (.int i1), none, none, none, none, none] [] M) (r0 : Option Nat) (i1 : Int32) (M : Mem) (h : FQ (b_X12_laysStates_2 q2 r0 i1 M) P) : wp Y_X12_laysStates (rmD (d + 7) 0 0) (FM (QI P) 0 0) 0 0 2 [some (va_rf r0), some (.int i1), none, none, none, none, none] [] M := by
  unfold b_X12_laysStates_2 at h
  refine r_iload_n rfl rfl ?_
  refine r_sipush (v := 8192) rfl (by decide) ?_
  refine r_ic_ge 22 rfl (by decide) h (fun h => ?_) (fun h => ?_)
  · refine r_aload_n rfl rfl ?_
    refine r_cv_v (vs := []) rfl ml_12_410 rfl (rOk.of rfl) ⟨Nat.zero_le _, Nat.zero_le _⟩ rfl rfl rfl h s_X12_laysNow (fun _ M1 h => ?_)
    refine r_aload_n rfl rfl ?_
    refine r_getR rfl fl_12_112 rfl h (fun v1 h => ?_)
    refine r_iconst (v := 0) rfl (by decide) ?_
    refine r_aload_n rfl rfl ?_
    refine r_cv_l (vs := []) rfl ml_12_494 rfl (rOk.of rfl) ⟨Nat.zero_le _, Nat.zero_le _⟩ rfl rfl rfl h s_X12_codeOf (fun v2 M2 h => ?_)
    refine r_last rfl h (fun M3 h => ?_)
    refine r_aload_n rfl rfl ?_
    refine r_getR rfl fl_12_128 rfl h (fun v3 h => ?_)
    refine r_aload_n rfl rfl ?_
    refine r_aload_n rfl rfl ?_
    refine r_getR rfl fl_12_112 rfl h (fun v4 h => ?_)
    refine r_iconst (v := 0) rfl (by decide) ?_
    refine r_lald rfl h (fun v5 h => ?_)
    refine r_cv_i (vs := [.long v5]) rfl ml_12_497 rfl (rOk.of rfl) ⟨Nat.zero_le _, Nat.zero_le _⟩ rfl rfl rfl h s_X12_cellOf (fun v6 M4 h => ?_)
    refine r_iconst (v := 0) rfl (by decide) ?_
    refine r_iast rfl h (fun M5 h => ?_)
    refine r_aload_n rfl rfl ?_
    refine r_iconst (v := 1) rfl (by decide) ?_
    refine r_putI rfl fl_12_500 (fun z => by cases z) rfl h (fun M6 h => ?_)
    refine r_iconst (v := 0) rfl (by decide) ?_
    refine r_istore_n (lo' := [some (va_rf r0), some (.int (0 : Int32)), none, none, none, none, none]) rfl rfl (by simp [stOk, cat_rf]) rfl ?_
    exact s_X12_laysStates_59 FU _ _ _ h
  · refine r_aload_n rfl rfl ?_
    refine r_getR rfl fl_12_128 rfl h (fun v7 h => ?_)
    refine r_iload_n rfl rfl ?_
    refine r_iconst (v := -1) rfl (by decide) ?_
    refine r_iast rfl h (fun M7 h => ?_)
    refine r_iinc (v := 1) (lo' := [some (va_rf r0), some (.int (i1 + (1 : Int32))), none, none, none, none, none]) rfl rfl rfl (by decide) (by simp [stOk, cat_rf]) rfl ?_
    refine r_goto 2 rfl (by decide) ?_
    exact hq2 _ _ _ h
theorem s_X12_laysStates_2 {d : Nat} {P : Int32 → Mem → Prop}   : ∀ (k : Nat) (r0 : Option Nat) (i1 : Int32) (M : Mem), FQ (f_X12_laysStates_2  k r0 i1 M) P → wp Y_X12_laysStates (rmD (d + 7) 0 0) (FM (QI P) 0 0) 0 0 2 [some (va_rf r0), some (.int i1), none, none, none, none, none] [] M
  | 0, _, _, _, h => h.no
  | k + 1, r0, i1, M, h => sb_X12_laysStates_2  (s_X12_laysStates_2  k) r0 i1 M h
theorem s_X12_laysStates {d : Nat} {P : Int32 → Mem → Prop} {r0 : Option Nat} {M : Mem} (h : FQ (f_X12_laysStates r0 M) P) : Con Y_X12_laysStates (d + 7) 0 0 [va_rf r0] M (QI P) := by
  refine Con.of [some (va_rf r0), none, none, none, none, none, none] (by decide +kernel) dk_X12_laysStates (by simp [Y_X12_laysStates, cat_rf, cat_i, cat_l]) (by simp [loE, Y_X12_laysStates, cat_rf, cat_i, cat_l, List.replicate]) ?_
  unfold f_X12_laysStates at h
  refine r_iconst (v := 0) rfl (by decide) ?_
  refine r_istore_n (lo' := [some (va_rf r0), some (.int (0 : Int32)), none, none, none, none, none]) rfl rfl (by simp [stOk, cat_rf]) rfl ?_
  exact s_X12_laysStates_2 FU _ _ _ h
set_option maxRecDepth 20000 in
theorem dk_X12_isOfferOf : ∀ pc i, L_X12_isOfferOf[pc]? = some (some i) → decode prog_14_method_98_code pc = .ok i := dk_of (by decide +kernel)
theorem s_X12_isOfferOf {d : Nat} {P : Int32 → Mem → Prop} {i0 : Int32} {i1 : Int32} {M : Mem} (h : FQ (f_X12_isOfferOf i0 i1 M) P) : Con Y_X12_isOfferOf d 0 0 [.int i0, .int i1] M (QI P) := by
  refine Con.of [some (.int i0), some (.int i1), none, none, none] (by decide +kernel) dk_X12_isOfferOf (by simp [Y_X12_isOfferOf, cat_rf, cat_i, cat_l]) (by simp [loE, Y_X12_isOfferOf, cat_rf, cat_i, cat_l, List.replicate]) ?_
  unfold f_X12_isOfferOf at h
  refine r_iload_n rfl rfl ?_
  refine r_bipush (v := 64) rfl (by decide) ?_
  refine r_idiv rfl h (fun h => ?_)
  refine r_istore_n (lo' := [some (.int i0), some (.int i1), some (.int (i1 / (64 : Int32))), none, none]) rfl rfl rfl rfl ?_
  refine r_iload_n rfl rfl ?_
  refine r_bipush (v := 8) rfl (by decide) ?_
  refine r_idiv rfl h (fun h => ?_)
  refine r_bipush (v := 8) rfl (by decide) ?_
  refine r_irem rfl h (fun h => ?_)
  refine r_istore_n (lo' := [some (.int i0), some (.int i1), some (.int (i1 / (64 : Int32))), some (.int ((i1 / (8 : Int32)) - (i1 / (8 : Int32)) / (8 : Int32) * (8 : Int32))), none]) rfl rfl rfl rfl ?_
  refine r_iload_n rfl rfl ?_
  refine r_bipush (v := 8) rfl (by decide) ?_
  refine r_irem rfl h (fun h => ?_)
  refine r_istore (lo' := [some (.int i0), some (.int i1), some (.int (i1 / (64 : Int32))), some (.int ((i1 / (8 : Int32)) - (i1 / (8 : Int32)) / (8 : Int32) * (8 : Int32))), some (.int (i1 - i1 / (8 : Int32) * (8 : Int32)))]) rfl rfl rfl rfl ?_
  refine r_iload_n rfl rfl ?_
  refine r_iload_n rfl rfl ?_
  refine r_ic_ge 52 rfl (by decide) h (fun h => ?_) (fun h => ?_)
  · refine r_iconst (v := 0) rfl (by decide) ?_
    exact r_zret rfl rfl ⟨Nat.le_of_ble_eq_true rfl, Nat.le_of_ble_eq_true rfl⟩ h
  · refine r_iload_n rfl rfl ?_
    refine r_iload rfl rfl ?_
    refine r_ic_ge 52 rfl (by decide) h (fun h => ?_) (fun h => ?_)
    · refine r_iconst (v := 0) rfl (by decide) ?_
      exact r_zret rfl rfl ⟨Nat.le_of_ble_eq_true rfl, Nat.le_of_ble_eq_true rfl⟩ h
    · refine r_iload_n rfl rfl ?_
      refine r_iload_n rfl rfl ?_
      refine r_ishr rfl ?_
      refine r_iload_n rfl rfl ?_
      refine r_iload_n rfl rfl ?_
      refine r_ishr rfl ?_
      refine r_iand rfl ?_
      refine r_iload_n rfl rfl ?_
      refine r_iload rfl rfl ?_
      refine r_ishr rfl ?_
      refine r_iand rfl ?_
      refine r_iconst (v := 1) rfl (by decide) ?_
      refine r_iand rfl ?_
      refine r_iconst (v := 1) rfl (by decide) ?_
      refine r_ic_ne 52 rfl (by decide) h (fun h => ?_) (fun h => ?_)
      · refine r_iconst (v := 1) rfl (by decide) ?_
        refine r_goto 53 rfl (by decide) ?_
        exact r_zret rfl rfl ⟨Nat.le_of_ble_eq_true rfl, Nat.le_of_ble_eq_true rfl⟩ h
      · refine r_iconst (v := 0) rfl (by decide) ?_
        exact r_zret rfl rfl ⟨Nat.le_of_ble_eq_true rfl, Nat.le_of_ble_eq_true rfl⟩ h
set_option maxRecDepth 20000 in
theorem dk_X12_wonBy : ∀ pc i, L_X12_wonBy[pc]? = some (some i) → decode prog_14_method_95_code pc = .ok i := dk_of (by decide +kernel)
theorem s_X12_wonBy {d : Nat} {P : Int32 → Mem → Prop} {r0 : Option Nat} {i1 : Int32} {i2 : Int32} {i3 : Int32} {i4 : Int32} {M : Mem} (h : FQ (f_X12_wonBy r0 i1 i2 i3 i4 M) P) : Con Y_X12_wonBy d 0 0 [va_rf r0, .int i1, .int i2, .int i3, .int i4] M (QI P) := by
  refine Con.of [some (va_rf r0), some (.int i1), some (.int i2), some (.int i3), some (.int i4), none, none] (by decide +kernel) dk_X12_wonBy (by simp [Y_X12_wonBy, cat_rf, cat_i, cat_l]) (by simp [loE, Y_X12_wonBy, cat_rf, cat_i, cat_l, List.replicate]) ?_
  unfold f_X12_wonBy at h
  refine r_aload_n rfl rfl ?_
  refine r_getR rfl fl_12_119 rfl h (fun v1 h => ?_)
  refine r_bipush (v := 64) rfl (by decide) ?_
  refine r_iload_n rfl rfl ?_
  refine r_imul rfl ?_
  refine r_bipush (v := 8) rfl (by decide) ?_
  refine r_iload_n rfl rfl ?_
  refine r_imul rfl ?_
  refine r_iadd rfl ?_
  refine r_iload_n rfl rfl ?_
  refine r_iadd rfl ?_
  refine r_iald rfl h (fun v2 h => ?_)
  refine r_istore (lo' := [some (va_rf r0), some (.int i1), some (.int i2), some (.int i3), some (.int i4), some (.int v2), none]) rfl rfl rfl rfl ?_
  refine r_aload_n rfl rfl ?_
  refine r_getR rfl fl_12_119 rfl h (fun v3 h => ?_)
  refine r_bipush (v := 64) rfl (by decide) ?_
  refine r_iload_n rfl rfl ?_
  refine r_imul rfl ?_
  refine r_bipush (v := 8) rfl (by decide) ?_
  refine r_iload_n rfl rfl ?_
  refine r_imul rfl ?_
  refine r_iadd rfl ?_
  refine r_iload rfl rfl ?_
  refine r_iadd rfl ?_
  refine r_iald rfl h (fun v4 h => ?_)
  refine r_istore (lo' := [some (va_rf r0), some (.int i1), some (.int i2), some (.int i3), some (.int i4), some (.int v2), some (.int v4)]) rfl rfl rfl rfl ?_
  refine r_aload_n rfl rfl ?_
  refine r_getR rfl fl_12_122 rfl h (fun v5 h => ?_)
  refine r_iload rfl rfl ?_
  refine r_iald rfl h (fun v6 h => ?_)
  refine r_iconst (v := 1) rfl (by decide) ?_
  refine r_ic_ne 59 rfl (by decide) h (fun h => ?_) (fun h => ?_)
  · refine r_aload_n rfl rfl ?_
    refine r_getR rfl fl_12_122 rfl h (fun v7 h => ?_)
    refine r_iload rfl rfl ?_
    refine r_iald rfl h (fun v8 h => ?_)
    refine r_iconst (v := 1) rfl (by decide) ?_
    refine r_ic_eq 63 rfl (by decide) h (fun h => ?_) (fun h => ?_)
    · refine r_aload_n rfl rfl ?_
      refine r_getR rfl fl_12_125 rfl h (fun v9 h => ?_)
      refine r_iload rfl rfl ?_
      refine r_iald rfl h (fun v10 h => ?_)
      refine r_aload_n rfl rfl ?_
      refine r_getR rfl fl_12_125 rfl h (fun v11 h => ?_)
      refine r_iload rfl rfl ?_
      refine r_iald rfl h (fun v12 h => ?_)
      refine r_ic_le 90 rfl (by decide) h (fun h => ?_) (fun h => ?_)
      · refine r_aload_n rfl rfl ?_
        refine r_getR rfl fl_12_125 rfl h (fun v13 h => ?_)
        refine r_iload rfl rfl ?_
        refine r_iald rfl h (fun v14 h => ?_)
        exact r_iret rfl rfl ⟨Nat.le_of_ble_eq_true rfl, Nat.le_of_ble_eq_true rfl⟩ h
      · refine r_aload_n rfl rfl ?_
        refine r_getR rfl fl_12_125 rfl h (fun v15 h => ?_)
        refine r_iload rfl rfl ?_
        refine r_iald rfl h (fun v16 h => ?_)
        refine r_goto 97 rfl (by decide) ?_
        exact r_iret rfl rfl ⟨Nat.le_of_ble_eq_true rfl, Nat.le_of_ble_eq_true rfl⟩ h
    · refine r_ldcw rfl kc_12_510 ?_
      exact r_iret rfl rfl ⟨Nat.le_of_ble_eq_true rfl, Nat.le_of_ble_eq_true rfl⟩ h
  · refine r_ldcw rfl kc_12_510 ?_
    exact r_iret rfl rfl ⟨Nat.le_of_ble_eq_true rfl, Nat.le_of_ble_eq_true rfl⟩ h
set_option maxRecDepth 20000 in
theorem dk_X12_losesBy : ∀ pc i, L_X12_losesBy[pc]? = some (some i) → decode prog_14_method_97_code pc = .ok i := dk_of (by decide +kernel)
theorem s_X12_losesBy {d : Nat} {P : Int32 → Mem → Prop} {r0 : Option Nat} {i1 : Int32} {i2 : Int32} {i3 : Int32} {i4 : Int32} {M : Mem} (h : FQ (f_X12_losesBy r0 i1 i2 i3 i4 M) P) : Con Y_X12_losesBy (d + 1) 0 0 [va_rf r0, .int i1, .int i2, .int i3, .int i4] M (QI P) := by
  refine Con.of [some (va_rf r0), some (.int i1), some (.int i2), some (.int i3), some (.int i4), none, none, none, none] (by decide +kernel) dk_X12_losesBy (by simp [Y_X12_losesBy, cat_rf, cat_i, cat_l]) (by simp [loE, Y_X12_losesBy, cat_rf, cat_i, cat_l, List.replicate]) ?_
  unfold f_X12_losesBy at h
  refine r_aload_n rfl rfl ?_
  refine r_iload_n rfl rfl ?_
  refine r_iload_n rfl rfl ?_
  refine r_iload_n rfl rfl ?_
  refine r_iload rfl rfl ?_
  refine r_cv_i (vs := [.int i1, .int i2, .int i3, .int i4]) rfl ml_12_515 rfl (rOk.of rfl) ⟨Nat.zero_le _, Nat.zero_le _⟩ rfl rfl rfl h s_X12_wonBy (fun v1 M1 h => ?_)
  refine r_istore (lo' := [some (va_rf r0), some (.int i1), some (.int i2), some (.int i3), some (.int i4), some (.int v1), none, none, none]) rfl rfl rfl rfl ?_
  refine r_aload_n rfl rfl ?_
  refine r_iload_n rfl rfl ?_
  refine r_iload_n rfl rfl ?_
  refine r_iload_n rfl rfl ?_
  refine r_iload rfl rfl ?_
  refine r_cv_i (vs := [.int i1, .int i3, .int i2, .int i4]) rfl ml_12_515 rfl (rOk.of rfl) ⟨Nat.zero_le _, Nat.zero_le _⟩ rfl rfl rfl h s_X12_wonBy (fun v2 M2 h => ?_)
  refine r_istore (lo' := [some (va_rf r0), some (.int i1), some (.int i2), some (.int i3), some (.int i4), some (.int v1), some (.int v2), none, none]) rfl rfl rfl rfl ?_
  refine r_aload_n rfl rfl ?_
  refine r_iload_n rfl rfl ?_
  refine r_iload rfl rfl ?_
  refine r_iload_n rfl rfl ?_
  refine r_iload_n rfl rfl ?_
  refine r_cv_i (vs := [.int i1, .int i4, .int i2, .int i3]) rfl ml_12_515 rfl (rOk.of rfl) ⟨Nat.zero_le _, Nat.zero_le _⟩ rfl rfl rfl h s_X12_wonBy (fun v3 M3 h => ?_)
  refine r_istore (lo' := [some (va_rf r0), some (.int i1), some (.int i2), some (.int i3), some (.int i4), some (.int v1), some (.int v2), some (.int v3), none]) rfl rfl rfl rfl ?_
  refine r_iload rfl rfl ?_
  refine r_iload rfl rfl ?_
  refine r_ic_ge 45 rfl (by decide) h (fun h => ?_) (fun h => ?_)
  · refine r_iload rfl rfl ?_
    refine r_istore (lo' := [some (va_rf r0), some (.int i1), some (.int i2), some (.int i3), some (.int i4), some (.int v1), some (.int v2), some (.int v3), some (.int v2)]) rfl rfl rfl rfl ?_
    refine r_iload rfl rfl ?_
    refine r_iload rfl rfl ?_
    refine r_ic_ge 61 rfl (by decide) h (fun h => ?_) (fun h => ?_)
    · refine r_iload rfl rfl ?_
      exact r_iret rfl rfl ⟨Nat.le_of_ble_eq_true rfl, Nat.le_of_ble_eq_true rfl⟩ h
    · refine r_iload rfl rfl ?_
      refine r_goto 63 rfl (by decide) ?_
      exact r_iret rfl rfl ⟨Nat.le_of_ble_eq_true rfl, Nat.le_of_ble_eq_true rfl⟩ h
  · refine r_iload rfl rfl ?_
    refine r_goto 47 rfl (by decide) ?_
    refine r_istore (lo' := [some (va_rf r0), some (.int i1), some (.int i2), some (.int i3), some (.int i4), some (.int v1), some (.int v2), some (.int v3), some (.int v1)]) rfl rfl rfl rfl ?_
    refine r_iload rfl rfl ?_
    refine r_iload rfl rfl ?_
    refine r_ic_ge 61 rfl (by decide) h (fun h => ?_) (fun h => ?_)
    · refine r_iload rfl rfl ?_
      exact r_iret rfl rfl ⟨Nat.le_of_ble_eq_true rfl, Nat.le_of_ble_eq_true rfl⟩ h
    · refine r_iload rfl rfl ?_
      refine r_goto 63 rfl (by decide) ?_
      exact r_iret rfl rfl ⟨Nat.le_of_ble_eq_true rfl, Nat.le_of_ble_eq_true rfl⟩ h
set_option maxRecDepth 20000 in
theorem dk_X12_lostBy : ∀ pc i, L_X12_lostBy[pc]? = some (some i) → decode prog_14_method_94_code pc = .ok i := dk_of (by decide +kernel)
theorem s_X12_lostBy_61 {d : Nat} {P : Int32 → Mem → Prop}   (r0 : Option Nat) (i6 : Int32) (si0 : Int32) (M : Mem) (h : FQ (f_X12_lostBy_61  r0 i6 si0 M) P) : wp Y_X12_lostBy (rmD d 0 0) (FM (QI P) 0 0) 0 0 61 [some (va_rf r0), none, none, none, none, none, some (.int i6), none] [.int si0] M := by
  unfold f_X12_lostBy_61 at h
  refine r_istore (lo' := [some (va_rf r0), none, none, none, none, none, some (.int i6), some (.int si0)]) rfl rfl rfl rfl ?_
  refine r_aload_n rfl rfl ?_
  refine r_getR rfl fl_12_122 rfl h (fun v1 h => ?_)
  refine r_iload rfl rfl ?_
  refine r_iald rfl h (fun v2 h => ?_)
  refine r_iconst (v := 2) rfl (by decide) ?_
  refine r_ic_ne 96 rfl (by decide) h (fun h => ?_) (fun h => ?_)
  · refine r_aload_n rfl rfl ?_
    refine r_getR rfl fl_12_125 rfl h (fun v3 h => ?_)
    refine r_iload rfl rfl ?_
    refine r_iald rfl h (fun v4 h => ?_)
    refine r_iload rfl rfl ?_
    refine r_ic_ge 96 rfl (by decide) h (fun h => ?_) (fun h => ?_)
    · refine r_iload rfl rfl ?_
      exact r_iret rfl rfl ⟨Nat.le_of_ble_eq_true rfl, Nat.le_of_ble_eq_true rfl⟩ h
    · refine r_aload_n rfl rfl ?_
      refine r_getR rfl fl_12_125 rfl h (fun v5 h => ?_)
      refine r_iload rfl rfl ?_
      refine r_iald rfl h (fun v6 h => ?_)
      refine r_goto 98 rfl (by decide) ?_
      exact r_iret rfl rfl ⟨Nat.le_of_ble_eq_true rfl, Nat.le_of_ble_eq_true rfl⟩ h
  · refine r_iload rfl rfl ?_
    exact r_iret rfl rfl ⟨Nat.le_of_ble_eq_true rfl, Nat.le_of_ble_eq_true rfl⟩ h
theorem s_X12_lostBy {d : Nat} {P : Int32 → Mem → Prop} {r0 : Option Nat} {i1 : Int32} {i2 : Int32} {i3 : Int32} {i4 : Int32} {M : Mem} (h : FQ (f_X12_lostBy r0 i1 i2 i3 i4 M) P) : Con Y_X12_lostBy d 0 0 [va_rf r0, .int i1, .int i2, .int i3, .int i4] M (QI P) := by
  refine Con.of [some (va_rf r0), some (.int i1), some (.int i2), some (.int i3), some (.int i4), none, none, none] (by decide +kernel) dk_X12_lostBy (by simp [Y_X12_lostBy, cat_rf, cat_i, cat_l]) (by simp [loE, Y_X12_lostBy, cat_rf, cat_i, cat_l, List.replicate]) ?_
  unfold f_X12_lostBy at h
  refine r_aload_n rfl rfl ?_
  refine r_getR rfl fl_12_119 rfl h (fun v1 h => ?_)
  refine r_bipush (v := 64) rfl (by decide) ?_
  refine r_iload_n rfl rfl ?_
  refine r_imul rfl ?_
  refine r_bipush (v := 8) rfl (by decide) ?_
  refine r_iload_n rfl rfl ?_
  refine r_imul rfl ?_
  refine r_iadd rfl ?_
  refine r_iload_n rfl rfl ?_
  refine r_iadd rfl ?_
  refine r_iald rfl h (fun v2 h => ?_)
  refine r_istore (lo' := [some (va_rf r0), some (.int i1), some (.int i2), some (.int i3), some (.int i4), some (.int v2), none, none]) rfl rfl rfl rfl ?_
  refine r_aload_n rfl rfl ?_
  refine r_getR rfl fl_12_119 rfl h (fun v3 h => ?_)
  refine r_bipush (v := 64) rfl (by decide) ?_
  refine r_iload_n rfl rfl ?_
  refine r_imul rfl ?_
  refine r_bipush (v := 8) rfl (by decide) ?_
  refine r_iload_n rfl rfl ?_
  refine r_imul rfl ?_
  refine r_iadd rfl ?_
  refine r_iload rfl rfl ?_
  refine r_iadd rfl ?_
  refine r_iald rfl h (fun v4 h => ?_)
  refine r_istore (lo' := [some (va_rf r0), some (.int i1), some (.int i2), some (.int i3), some (.int i4), some (.int v2), some (.int v4), none]) rfl rfl rfl rfl ?_
  refine r_aload_n rfl rfl ?_
  refine r_getR rfl fl_12_122 rfl h (fun v5 h => ?_)
  refine r_iload rfl rfl ?_
  refine r_iald rfl h (fun v6 h => ?_)
  refine r_iconst (v := 2) rfl (by decide) ?_
  refine r_ic_ne 58 rfl (by decide) h (fun h => ?_) (fun h => ?_)
  · refine r_aload_n rfl rfl ?_
    refine r_getR rfl fl_12_125 rfl h (fun v7 h => ?_)
    refine r_iload rfl rfl ?_
    refine r_iald rfl h (fun v8 h => ?_)
    refine r_goto 61 rfl (by decide) ?_
    refine r_msk [true, false, false, false, false, false, true, true] rfl ?_
    exact s_X12_lostBy_61 _ _ _ _ h
  · refine r_ldcw rfl kc_12_510 ?_
    refine r_msk [true, false, false, false, false, false, true, true] rfl ?_
    exact s_X12_lostBy_61 _ _ _ _ h
set_option maxRecDepth 20000 in
theorem dk_X12_winsBy : ∀ pc i, L_X12_winsBy[pc]? = some (some i) → decode prog_14_method_96_code pc = .ok i := dk_of (by decide +kernel)
theorem s_X12_winsBy {d : Nat} {P : Int32 → Mem → Prop} {r0 : Option Nat} {i1 : Int32} {i2 : Int32} {i3 : Int32} {i4 : Int32} {M : Mem} (h : FQ (f_X12_winsBy r0 i1 i2 i3 i4 M) P) : Con Y_X12_winsBy (d + 1) 0 0 [va_rf r0, .int i1, .int i2, .int i3, .int i4] M (QI P) := by
  refine Con.of [some (va_rf r0), some (.int i1), some (.int i2), some (.int i3), some (.int i4), none, none, none, none] (by decide +kernel) dk_X12_winsBy (by simp [Y_X12_winsBy, cat_rf, cat_i, cat_l]) (by simp [loE, Y_X12_winsBy, cat_rf, cat_i, cat_l, List.replicate]) ?_
  unfold f_X12_winsBy at h
  refine r_aload_n rfl rfl ?_
  refine r_iload_n rfl rfl ?_
  refine r_iload_n rfl rfl ?_
  refine r_iload_n rfl rfl ?_
  refine r_iload rfl rfl ?_
  refine r_cv_i (vs := [.int i1, .int i2, .int i3, .int i4]) rfl ml_12_511 rfl (rOk.of rfl) ⟨Nat.zero_le _, Nat.zero_le _⟩ rfl rfl rfl h s_X12_lostBy (fun v1 M1 h => ?_)
  refine r_istore (lo' := [some (va_rf r0), some (.int i1), some (.int i2), some (.int i3), some (.int i4), some (.int v1), none, none, none]) rfl rfl rfl rfl ?_
  refine r_aload_n rfl rfl ?_
  refine r_iload_n rfl rfl ?_
  refine r_iload_n rfl rfl ?_
  refine r_iload_n rfl rfl ?_
  refine r_iload rfl rfl ?_
  refine r_cv_i (vs := [.int i1, .int i3, .int i2, .int i4]) rfl ml_12_511 rfl (rOk.of rfl) ⟨Nat.zero_le _, Nat.zero_le _⟩ rfl rfl rfl h s_X12_lostBy (fun v2 M2 h => ?_)
  refine r_istore (lo' := [some (va_rf r0), some (.int i1), some (.int i2), some (.int i3), some (.int i4), some (.int v1), some (.int v2), none, none]) rfl rfl rfl rfl ?_
  refine r_aload_n rfl rfl ?_
  refine r_iload_n rfl rfl ?_
  refine r_iload rfl rfl ?_
  refine r_iload_n rfl rfl ?_
  refine r_iload_n rfl rfl ?_
  refine r_cv_i (vs := [.int i1, .int i4, .int i2, .int i3]) rfl ml_12_511 rfl (rOk.of rfl) ⟨Nat.zero_le _, Nat.zero_le _⟩ rfl rfl rfl h s_X12_lostBy (fun v3 M3 h => ?_)
  refine r_istore (lo' := [some (va_rf r0), some (.int i1), some (.int i2), some (.int i3), some (.int i4), some (.int v1), some (.int v2), some (.int v3), none]) rfl rfl rfl rfl ?_
  refine r_iload rfl rfl ?_
  refine r_iload rfl rfl ?_
  refine r_ic_le 45 rfl (by decide) h (fun h => ?_) (fun h => ?_)
  · refine r_iload rfl rfl ?_
    refine r_istore (lo' := [some (va_rf r0), some (.int i1), some (.int i2), some (.int i3), some (.int i4), some (.int v1), some (.int v2), some (.int v3), some (.int v2)]) rfl rfl rfl rfl ?_
    refine r_iload rfl rfl ?_
    refine r_iload rfl rfl ?_
    refine r_ic_le 61 rfl (by decide) h (fun h => ?_) (fun h => ?_)
    · refine r_iload rfl rfl ?_
      exact r_iret rfl rfl ⟨Nat.le_of_ble_eq_true rfl, Nat.le_of_ble_eq_true rfl⟩ h
    · refine r_iload rfl rfl ?_
      refine r_goto 63 rfl (by decide) ?_
      exact r_iret rfl rfl ⟨Nat.le_of_ble_eq_true rfl, Nat.le_of_ble_eq_true rfl⟩ h
  · refine r_iload rfl rfl ?_
    refine r_goto 47 rfl (by decide) ?_
    refine r_istore (lo' := [some (va_rf r0), some (.int i1), some (.int i2), some (.int i3), some (.int i4), some (.int v1), some (.int v2), some (.int v3), some (.int v1)]) rfl rfl rfl rfl ?_
    refine r_iload rfl rfl ?_
    refine r_iload rfl rfl ?_
    refine r_ic_le 61 rfl (by decide) h (fun h => ?_) (fun h => ?_)
    · refine r_iload rfl rfl ?_
      exact r_iret rfl rfl ⟨Nat.le_of_ble_eq_true rfl, Nat.le_of_ble_eq_true rfl⟩ h
    · refine r_iload rfl rfl ?_
      refine r_goto 63 rfl (by decide) ?_
      exact r_iret rfl rfl ⟨Nat.le_of_ble_eq_true rfl, Nat.le_of_ble_eq_true rfl⟩ h
