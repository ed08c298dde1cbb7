/-! walked by program (wip/gen): X2_perform X4_heapBehind X2_advance X11_told X11_tryPly X4_take X11_again X11_piecesNow X7_take X8_forget -/
def L_X2_perform : List (Option (Instr × Nat)) := [some (.aload_n 2, 1), some (.getfield 126, 3), none, none, some (.aload_n 0, 1), some (.getfield 18, 3), none, none, some (.iload_n 3, 1), some (.iaload, 1), some (.aaload, 1), some (.astore 4, 2), none, some (.aload_n 0, 1), some (.getfield 9, 3), none, none, some (.iload_n 3, 1), some (.iaload, 1), some (.istore 5, 2), none, some (.aload_n 0, 1), some (.getfield 15, 3), none, none, some (.iload_n 3, 1), some (.iaload, 1), some (.istore 6, 2), none, some (.aload_n 1, 1), some (.iload 5, 2), none, some (.invokevirtual 50, 3), none, none, some (.istore 7, 2), none, some (.aload 4, 2), none, some (.getfield 106, 3), none, none, some (.bipush 10, 2), none, some (.if_icmp .ne 25, 3), none, none, some (.aload_n 1, 1), some (.iload 5, 2), none, some (.iconst 1, 1), some (.aload 4, 2), none, some (.getfield 109, 3), none, none, some (.iadd, 1), some (.iconst 4, 1), some (.iload 7, 2), none, some (.invokestatic 55, 3), none, none, some (.imul, 1), some (.iadd, 1), some (.invokevirtual 129, 3), none, none, some (.return_, 1), some (.aload_n 0, 1), some (.iload 5, 2), none, some (.aload 4, 2), none, some (.getfield 109, 3), none, none, some (.invokevirtual 112, 3), none, none, some (.istore 8, 2), none, some (.iload 8, 2), none, some (.iconst (-1), 1), some (.if_icmp .ne 7, 3), none, none, some (.iconst (-1), 1), some (.goto 14, 3), none, none, some (.aload_n 0, 1), some (.iload 8, 2), none, some (.aload 4, 2), none, some (.getfield 109, 3), none, none, some (.invokevirtual 112, 3), none, none, some (.istore 9, 2), none, some (.aload 4, 2), none, some (.getfield 106, 3), none, none, some (.bipush 9, 2), none, some (.if_icmp .ne 21, 3), none, none, some (.iload 9, 2), none, some (.iconst (-1), 1), some (.if_icmp .eq 15, 3), none, none, some (.aload_n 1, 1), some (.iload 9, 2), none, some (.aload_n 1, 1), some (.iload 6, 2), none, some (.invokevirtual 50, 3), none, none, some (.invokevirtual 129, 3), none, none, some (.aload 4, 2), none, some (.getfield 106, 3), none, none, some (.bipush 8, 2), none, some (.if_icmp .ne 32, 3), none, none, some (.iload 8, 2), none, some (.iconst (-1), 1), some (.if_icmp .eq 26, 3), none, none, some (.aload_n 1, 1), some (.iload 8, 2), none, some (.invokevirtual 50, 3), none, none, some (.invokestatic 55, 3), none, none, some (.aload_n 1, 1), some (.getfield 58, 3), none, none, some (.if_icmp .eq 10, 3), none, none, some (.aload_n 1, 1), some (.iload 8, 2), none, some (.iconst 0, 1), some (.invokevirtual 129, 3), none, none, some (.aload_n 1, 1), some (.iload 5, 2), none, some (.iconst 0, 1), some (.invokevirtual 129, 3), none, none, some (.aload_n 1, 1), some (.iload 6, 2), none, some (.iload 7, 2), none, some (.invokevirtual 129, 3), none, none, some (.return_, 1)]
def Y_X2_perform : YM := (⟨RX2, "perform", "(LGameOfNoes$Position;LGameOfNoes$Rules;I)V"⟩, prog_4_method_8_code, L_X2_perform, 10, none)
def f_X2_perform_133  (r1 : Option Nat) (r4 : Option Nat) (i5 : Int32) (i6 : Int32) (i7 : Int32) (i8 : Int32) (M : Mem) : Option (Unit × Mem) :=
gI M r4 1 3 fun v1 =>
(if v1 = (8 : Int32) then
(if i8 = (-1 : Int32) then
cR M r1 (1, 4) (cA (f_X4_setCell r1 i5 (0 : Int32) M) fun _ M1 =>
cR M1 r1 (1, 4) (cA (f_X4_setCell r1 i6 i7 M1) fun _ M2 =>
some ((), M2)))
else
cR M r1 (1, 4) (cA (f_X4_cell r1 i8 M) fun v2 M3 =>
cA (f_X4_sideOf v2 M3) fun v3 M4 =>
gI M4 r1 4 2 fun v4 =>
(if v3 = v4 then
cR M4 r1 (1, 4) (cA (f_X4_setCell r1 i5 (0 : Int32) M4) fun _ M5 =>
cR M5 r1 (1, 4) (cA (f_X4_setCell r1 i6 i7 M5) fun _ M6 =>
some ((), M6)))
else
cR M4 r1 (1, 4) (cA (f_X4_setCell r1 i8 (0 : Int32) M4) fun _ M7 =>
cR M7 r1 (1, 4) (cA (f_X4_setCell r1 i5 (0 : Int32) M7) fun _ M8 =>
cR M8 r1 (1, 4) (cA (f_X4_setCell r1 i6 i7 M8) fun _ M9 =>
some ((), M9)))))))
else
cR M r1 (1, 4) (cA (f_X4_setCell r1 i5 (0 : Int32) M) fun _ M10 =>
cR M10 r1 (1, 4) (cA (f_X4_setCell r1 i6 i7 M10) fun _ M11 =>
some ((), M11))))
def f_X2_perform_103  (r1 : Option Nat) (r4 : Option Nat) (i5 : Int32) (i6 : Int32) (i7 : Int32) (i8 : Int32) (si0 : Int32) (M : Mem) : Option (Unit × Mem) :=
gI M r4 1 3 fun v1 =>
(if v1 = (9 : Int32) then
(if si0 = (-1 : Int32) then
f_X2_perform_133 r1 r4 i5 i6 i7 i8 M
else
cR M r1 (1, 4) (cA (f_X4_cell r1 i6 M) fun v2 M1 =>
cR M1 r1 (1, 4) (cA (f_X4_setCell r1 si0 v2 M1) fun _ M2 =>
f_X2_perform_133 r1 r4 i5 i6 i7 i8 M2)))
else
f_X2_perform_133 r1 r4 i5 i6 i7 i8 M)
def f_X2_perform (r0 : Option Nat) (r1 : Option Nat) (r2 : Option Nat) (i3 : Int32) (M : Mem) : Option (Unit × Mem) :=
gR M r2 6 0 fun v1 =>
gR M r0 2 2 fun v2 =>
aI M v2 2 i3 fun v3 =>
aR M v1 6 v3 fun v4 =>
gR M r0 2 0 fun v5 =>
aI M v5 2 i3 fun v6 =>
gR M r0 2 1 fun v7 =>
aI M v7 2 i3 fun v8 =>
cR M r1 (1, 4) (cA (f_X4_cell r1 v6 M) fun v9 M1 =>
gI M1 v4 1 3 fun v10 =>
(if v10 = (10 : Int32) then
gI M1 v4 1 5 fun v11 =>
cA (f_X4_sideOf v9 M1) fun v12 M2 =>
cR M2 r1 (1, 4) (cA (f_X4_setCell r1 v6 (((1 : Int32) + v11) + ((4 : Int32) * v12)) M2) fun _ M3 =>
some ((), M3))
else
gI M1 v4 1 5 fun v13 =>
cR M1 r0 (1, 2) (cA (f_X2_besideOf r0 v6 v13 M1) fun v14 M4 =>
(if v14 = (-1 : Int32) then
f_X2_perform_103 r1 v4 v6 v8 v9 v14 (-1 : Int32) M4
else
gI M4 v4 1 5 fun v15 =>
cR M4 r0 (1, 2) (cA (f_X2_besideOf r0 v14 v15 M4) fun v16 M5 =>
f_X2_perform_103 r1 v4 v6 v8 v9 v14 v16 M5)))))
def L_X4_heapBehind : List (Option (Instr × Nat)) := [some (.aload_n 0, 1), some (.iload_n 1, 1), some (.invokevirtual 35, 3), none, none, some (.iconst 3, 1), some (.if_icmp .ge 16, 3), none, none, some (.aload_n 0, 1), some (.getfield 15, 3), none, none, some (.iconst 1, 1), some (.iconst 2, 1), some (.iload_n 1, 1), some (.imul, 1), some (.ishl, 1), some (.iadd, 1), some (.goto 7, 3), none, none, some (.aload_n 0, 1), some (.getfield 15, 3), none, none, some (.istore_n 3, 1), some (.aload_n 0, 1), some (.iload_n 2, 1), some (.invokevirtual 35, 3), none, none, some (.ifCond .le 13, 3), none, none, some (.iload_n 3, 1), some (.iconst 1, 1), some (.iconst 2, 1), some (.iload_n 2, 1), some (.imul, 1), some (.ishl, 1), some (.isub, 1), some (.goto 4, 3), none, none, some (.iload_n 3, 1), some (.ireturn, 1)]
def Y_X4_heapBehind : YM := (⟨RX4, "heapBehind", "(II)I"⟩, prog_6_method_12_code, L_X4_heapBehind, 4, some .int)
def f_X4_heapBehind_26  (r0 : Option Nat) (i2 : Int32) (si0 : Int32) (M : Mem) : Option (Int32 × Mem) :=
cR M r0 (1, 4) (cA (f_X4_count r0 i2 M) fun v1 M1 =>
(if v1 ≤ 0 then
some (si0, M1)
else
some ((si0 - ((1 : Int32) <<< (((2 : Int32) * i2) &&& 31))), M1)))
def f_X4_heapBehind (r0 : Option Nat) (i1 : Int32) (i2 : Int32) (M : Mem) : Option (Int32 × Mem) :=
cR M r0 (1, 4) (cA (f_X4_count r0 i1 M) fun v1 M1 =>
(if (3 : Int32) ≤ v1 then
gI M1 r0 4 1 fun v2 =>
f_X4_heapBehind_26 r0 i2 v2 M1
else
gI M1 r0 4 1 fun v3 =>
f_X4_heapBehind_26 r0 i2 (v3 + ((1 : Int32) <<< (((2 : Int32) * i1) &&& 31))) M1))
def L_X2_advance : List (Option (Instr × Nat)) := [some (.aload_n 1, 1), some (.iload_n 3, 1), some (.iload 4, 2), none, some (.invokevirtual 116, 3), none, none, some (.istore 5, 2), none, some (.aload_n 0, 1), some (.aload_n 1, 1), some (.aload_n 2, 1), some (.iload 4, 2), none, some (.invokevirtual 119, 3), none, none, some (.aload_n 1, 1), some (.iload 5, 2), none, some (.putfield 123, 3), none, none, some (.aload_n 1, 1), some (.iconst 1, 1), some (.aload_n 1, 1), some (.getfield 58, 3), none, none, some (.isub, 1), some (.putfield 58, 3), none, none, some (.return_, 1)]
def Y_X2_advance : YM := (⟨RX2, "advance", "(LGameOfNoes$Position;LGameOfNoes$Rules;II)V"⟩, prog_4_method_7_code, L_X2_advance, 6, none)
def f_X2_advance (r0 : Option Nat) (r1 : Option Nat) (r2 : Option Nat) (i3 : Int32) (i4 : Int32) (M : Mem) : Option (Unit × Mem) :=
cR M r1 (1, 4) (cA (f_X4_heapBehind r1 i3 i4 M) fun v1 M1 =>
cR M1 r0 (1, 2) (cA (f_X2_perform r0 r1 r2 i4 M1) fun _ M2 =>
pI M2 r1 4 1 v1 fun M3 =>
gI M3 r1 4 2 fun v2 =>
pI M3 r1 4 2 ((1 : Int32) - v2) fun M4 =>
some ((), M4)))
def L_X11_told : List (Option (Instr × Nat)) := [some (.iload_n 3, 1), some (.invokestatic 125, 3), none, none, some (.ifCond .eq 19, 3), none, none, some (.iload 4, 2), none, some (.invokestatic 125, 3), none, none, some (.ifCond .eq 11, 3), none, none, some (.aload_n 0, 1), some (.aload_n 1, 1), some (.invokevirtual 246, 3), none, none, some (.ifCond .eq 5, 3), none, none, some (.iconst 0, 1), some (.ireturn, 1), some (.iload_n 2, 1), some (.iconst 1, 1), some (.iload_n 3, 1), some (.ishl, 1), some (.iconst 1, 1), some (.iload 4, 2), none, some (.ishl, 1), some (.ior, 1), some (.iand, 1), some (.istore 5, 2), none, some (.iload_n 2, 1), some (.aload_n 0, 1), some (.getfield 83, 3), none, none, some (.getfield 170, 3), none, none, some (.iand, 1), some (.iload_n 2, 1), some (.if_icmp .ne 12, 3), none, none, some (.iload 5, 2), none, some (.invokestatic 298, 3), none, none, some (.iconst 2, 1), some (.if_icmp .eq 5, 3), none, none, some (.iconst 0, 1), some (.ireturn, 1), some (.aload_n 0, 1), some (.getfield 83, 3), none, none, some (.aload_n 1, 1), some (.aload_n 0, 1), some (.aload_n 0, 1), some (.getfield 10, 3), none, none, some (.getfield 156, 3), none, none, some (.invokevirtual 162, 3), none, none, some (.iload_n 3, 1), some (.iload 4, 2), none, some (.invokevirtual 303, 3), none, none, some (.iconst 1, 1), some (.ireturn, 1)]
def Y_X11_told : YM := (⟨RX11, "told", "(LGameOfNoes$Position;III)Z"⟩, prog_1_method_39_code, L_X11_told, 6, some .boolean)
def f_X11_told (r0 : Option Nat) (r1 : Option Nat) (i2 : Int32) (i3 : Int32) (i4 : Int32) (M : Mem) : Option (Int32 × Mem) :=
cA (f_X11_isMove i3 M) fun v1 M1 =>
(if v1 = 0 then
tv (0 : Int32) (some ((0 : Int32), M1))
else
cA (f_X11_isMove i4 M1) fun v2 M2 =>
(if v2 = 0 then
tv (0 : Int32) (some ((0 : Int32), M2))
else
cR M2 r0 (1, 11) (cA (f_X11_isOver r0 r1 M2) fun v3 M3 =>
(if v3 = 0 then
gR M3 r0 11 8 fun v4 =>
gI M3 v4 2 3 fun v5 =>
(if (i2 &&& v5) = i2 then
cA (f_J6_bitCount_0f7a4 (i2 &&& (((1 : Int32) <<< (i3 &&& 31)) ||| ((1 : Int32) <<< (i4 &&& 31)))) M3) fun v6 M4 =>
(if v6 = (2 : Int32) then
gR M4 r0 11 8 fun v7 =>
gR M4 r0 11 2 fun v8 =>
gI M4 v8 7 5 fun v9 =>
cR M4 r0 (1, 11) (cA (f_X11_rules r0 v9 M4) fun v10 M5 =>
cR M5 v7 (1, 2) (cA (f_X2_advance v7 r1 v10 i3 i4 M5) fun _ M6 =>
tv (1 : Int32) (some ((1 : Int32), M6))))
else
tv (0 : Int32) (some ((0 : Int32), M4)))
else
tv (0 : Int32) (some ((0 : Int32), M3)))
else
tv (0 : Int32) (some ((0 : Int32), M3))))))
def L_X11_tryPly : List (Option (Instr × Nat)) := [some (.iload_n 1, 1), some (.iconst 5, 1), some (.imul, 1), some (.istore_n 2, 1), some (.iload_n 2, 1), some (.ifCond .lt 17, 3), none, none, some (.iload_n 2, 1), some (.iconst 5, 1), some (.iadd, 1), some (.aload_n 0, 1), some (.getfield 10, 3), none, none, some (.getfield 208, 3), none, none, some (.arraylength, 1), some (.if_icmp .le 5, 3), none, none, some (.iconst 0, 1), some (.ireturn, 1), some (.aload_n 0, 1), some (.getfield 10, 3), none, none, some (.getfield 208, 3), none, none, some (.iload_n 2, 1), some (.iaload, 1), some (.aload_n 0, 1), some (.getfield 10, 3), none, none, some (.getfield 208, 3), none, none, some (.iload_n 2, 1), some (.iconst 1, 1), some (.iadd, 1), some (.iaload, 1), some (.aload_n 0, 1), some (.getfield 10, 3), none, none, some (.getfield 208, 3), none, none, some (.iload_n 2, 1), some (.iconst 2, 1), some (.iadd, 1), some (.iaload, 1), some (.invokestatic 189, 3), none, none, some (.istore_n 3, 1), some (.aload_n 0, 1), some (.aload_n 0, 1), some (.getfield 47, 3), none, none, some (.iload_n 3, 1), some (.aload_n 0, 1), some (.getfield 10, 3), none, none, some (.getfield 208, 3), none, none, some (.iload_n 2, 1), some (.iconst 3, 1), some (.iadd, 1), some (.iaload, 1), some (.aload_n 0, 1), some (.getfield 10, 3), none, none, some (.getfield 208, 3), none, none, some (.iload_n 2, 1), some (.iconst 4, 1), some (.iadd, 1), some (.iaload, 1), some (.invokevirtual 193, 3), none, none, some (.ireturn, 1)]
def Y_X11_tryPly : YM := (⟨RX11, "tryPly", "(I)Z"⟩, prog_1_method_40_code, L_X11_tryPly, 4, some .boolean)
def f_X11_tryPly (r0 : Option Nat) (i1 : Int32) (M : Mem) : Option (Int32 × Mem) :=
(if (i1 * (5 : Int32)) < 0 then
tv (0 : Int32) (some ((0 : Int32), M))
else
gR M r0 11 2 fun v1 =>
gR M v1 7 2 fun v2 =>
aN M v2 fun v3 =>
(if ((i1 * (5 : Int32)) + (5 : Int32)) ≤ v3 then
gR M r0 11 2 fun v4 =>
gR M v4 7 2 fun v5 =>
aI M v5 2 (i1 * (5 : Int32)) fun v6 =>
gR M r0 11 2 fun v7 =>
gR M v7 7 2 fun v8 =>
aI M v8 2 ((i1 * (5 : Int32)) + (1 : Int32)) fun v9 =>
gR M r0 11 2 fun v10 =>
gR M v10 7 2 fun v11 =>
aI M v11 2 ((i1 * (5 : Int32)) + (2 : Int32)) fun v12 =>
cA (f_X10_bitsOf v6 v9 v12 M) fun v13 M1 =>
gR M1 r0 11 12 fun v14 =>
gR M1 r0 11 2 fun v15 =>
gR M1 v15 7 2 fun v16 =>
aI M1 v16 2 ((i1 * (5 : Int32)) + (3 : Int32)) fun v17 =>
gR M1 r0 11 2 fun v18 =>
gR M1 v18 7 2 fun v19 =>
aI M1 v19 2 ((i1 * (5 : Int32)) + (4 : Int32)) fun v20 =>
cR M1 r0 (1, 11) (cA (f_X11_told r0 v14 v13 v17 v20 M1) fun v21 M2 =>
tv v21 (some (v21, M2)))
else
tv (0 : Int32) (some ((0 : Int32), M))))
def L_X4_take : List (Option (Instr × Nat)) := [some (.aload_n 0, 1), some (.aload_n 1, 1), some (.getfield 9, 3), none, none, some (.putfield 9, 3), none, none, some (.aload_n 0, 1), some (.aload_n 1, 1), some (.getfield 15, 3), none, none, some (.putfield 15, 3), none, none, some (.aload_n 0, 1), some (.aload_n 1, 1), some (.getfield 19, 3), none, none, some (.putfield 19, 3), none, none, some (.return_, 1)]
def Y_X4_take : YM := (⟨RX4, "take", "(LGameOfNoes$Position;)V"⟩, prog_6_method_2_code, L_X4_take, 2, none)
def f_X4_take (r0 : Option Nat) (r1 : Option Nat) (M : Mem) : Option (Unit × Mem) :=
gL M r1 4 0 fun v1 =>
pL M r0 4 0 v1 fun M1 =>
gI M1 r1 4 1 fun v2 =>
pI M1 r0 4 1 v2 fun M2 =>
gI M2 r1 4 2 fun v3 =>
pI M2 r0 4 2 v3 fun M3 =>
some ((), M3)
def L_X11_again : List (Option (Instr × Nat)) := [some (.aload_n 0, 1), some (.getfield 47, 3), none, none, some (.aload_n 0, 1), some (.getfield 10, 3), none, none, some (.getfield 114, 3), none, none, some (.invokevirtual 211, 3), none, none, some (.aload_n 0, 1), some (.iconst 0, 1), some (.invokevirtual 218, 3), none, none, some (.iconst 0, 1), some (.istore_n 1, 1), some (.iload_n 1, 1), some (.aload_n 0, 1), some (.getfield 10, 3), none, none, some (.getfield 205, 3), none, none, some (.if_icmp .ge 44, 3), none, none, some (.iload_n 1, 1), some (.bipush 40, 2), none, some (.if_icmp .ge 38, 3), none, none, some (.aload_n 0, 1), some (.iload_n 1, 1), some (.invokevirtual 215, 3), none, none, some (.ifCond .ne 5, 3), none, none, some (.iconst (-1), 1), some (.ireturn, 1), some (.aload_n 0, 1), some (.iload_n 1, 1), some (.iconst 1, 1), some (.iadd, 1), some (.invokevirtual 218, 3), none, none, some (.aload_n 0, 1), some (.iload_n 1, 1), some (.iconst 1, 1), some (.iadd, 1), some (.invokevirtual 221, 3), none, none, some (.ifCond .eq 5, 3), none, none, some (.iload_n 1, 1), some (.ireturn, 1), some (.iinc 1 1, 3), none, none, some (.goto (-49), 3), none, none, some (.iconst (-1), 1), some (.ireturn, 1)]
def Y_X11_again : YM := (⟨RX11, "again", "()I"⟩, prog_1_method_18_code, L_X11_again, 2, some .int)
def b_X11_again_21 (q21 : Option Nat → Int32 → Mem → Option (Int32 × Mem)) (r0 : Option Nat) (i1 : Int32) (M : Mem) : Option (Int32 × Mem) :=
gR M r0 11 2 fun v1 =>
gI M v1 7 3 fun v2 =>
(if v2 ≤ i1 then
some ((-1 : Int32), M)
else
(if (40 : Int32) ≤ i1 then
some ((-1 : Int32), M)
else
cR M r0 (1, 11) (cA (f_X11_tryPly r0 i1 M) fun v3 M1 =>
(if v3 = 0 then
some ((-1 : Int32), M1)
else
cR M1 r0 (1, 11) (cA (f_X11_remember r0 (i1 + (1 : Int32)) M1) fun _ M2 =>
cR M2 r0 (1, 11) (cA (f_X11_cameByAnotherHeap r0 (i1 + (1 : Int32)) M2) fun v4 M3 =>
(if v4 = 0 then
q21 r0 (i1 + (1 : Int32)) M3
else
some (i1, M3))))))))
def f_X11_again_21 (n : Nat) : Option Nat → Int32 → Mem → Option (Int32 × Mem) := lpN (fun _ _ _ => none) (b_X11_again_21 ) n
def f_X11_again (r0 : Option Nat) (M : Mem) : Option (Int32 × Mem) :=
gR M r0 11 12 fun v1 =>
gR M r0 11 2 fun v2 =>
gR M v2 7 0 fun v3 =>
cR M v1 (1, 4) (cA (f_X4_take v1 v3 M) fun _ M1 =>
cR M1 r0 (1, 11) (cA (f_X11_remember r0 (0 : Int32) M1) fun _ M2 =>
f_X11_again_21 FU r0 (0 : Int32) M2))
def L_X11_piecesNow : List (Option (Instr × Nat)) := [some (.aload_n 0, 1), some (.getfield 10, 3), none, none, some (.getfield 114, 3), none, none, some (.iconst 0, 1), some (.invokevirtual 274, 3), none, none, some (.aload_n 0, 1), some (.getfield 10, 3), none, none, some (.getfield 114, 3), none, none, some (.iconst 1, 1), some (.invokevirtual 274, 3), none, none, some (.iadd, 1), some (.ireturn, 1)]
def Y_X11_piecesNow : YM := (⟨RX11, "piecesNow", "()I"⟩, prog_1_method_35_code, L_X11_piecesNow, 1, some .int)
def f_X11_piecesNow (r0 : Option Nat) (M : Mem) : Option (Int32 × Mem) :=
gR M r0 11 2 fun v1 =>
gR M v1 7 0 fun v2 =>
cR M v2 (1, 4) (cA (f_X4_pieces v2 (0 : Int32) M) fun v3 M1 =>
gR M1 r0 11 2 fun v4 =>
gR M1 v4 7 0 fun v5 =>
cR M1 v5 (1, 4) (cA (f_X4_pieces v5 (1 : Int32) M1) fun v6 M2 =>
some ((v3 + v6), M2)))
def L_X7_take : List (Option (Instr × Nat)) := [some (.aload_n 0, 1), some (.getfield 12, 3), none, none, some (.aload_n 1, 1), some (.getfield 12, 3), none, none, some (.invokevirtual 35, 3), none, none, some (.aload_n 0, 1), some (.getfield 18, 3), none, none, some (.iconst 0, 1), some (.aload_n 1, 1), some (.getfield 18, 3), none, none, some (.iconst 0, 1), some (.iaload, 1), some (.iastore, 1), some (.aload_n 0, 1), some (.getfield 18, 3), none, none, some (.iconst 1, 1), some (.aload_n 1, 1), some (.getfield 18, 3), none, none, some (.iconst 1, 1), some (.iaload, 1), some (.iastore, 1), some (.aload_n 1, 1), some (.getfield 22, 3), none, none, some (.iconst 0, 1), some (.aload_n 0, 1), some (.getfield 22, 3), none, none, some (.iconst 0, 1), some (.aload_n 0, 1), some (.getfield 22, 3), none, none, some (.arraylength, 1), some (.invokestatic 39, 3), none, none, some (.aload_n 0, 1), some (.aload_n 1, 1), some (.getfield 25, 3), none, none, some (.putfield 25, 3), none, none, some (.aload_n 0, 1), some (.aload_n 1, 1), some (.getfield 29, 3), none, none, some (.putfield 29, 3), none, none, some (.aload_n 0, 1), some (.aload_n 1, 1), some (.getfield 32, 3), none, none, some (.putfield 32, 3), none, none, some (.return_, 1)]
def Y_X7_take : YM := (⟨RX7, "take", "(LGameOfNoes$Stand;)V"⟩, prog_9_method_2_code, L_X7_take, 2, none)
def f_X7_take (r0 : Option Nat) (r1 : Option Nat) (M : Mem) : Option (Unit × Mem) :=
gR M r0 7 0 fun v1 =>
gR M r1 7 0 fun v2 =>
cR M v1 (1, 4) (cA (f_X4_take v1 v2 M) fun _ M1 =>
gR M1 r0 7 1 fun v3 =>
gR M1 r1 7 1 fun v4 =>
aI M1 v4 2 (0 : Int32) fun v5 =>
wI M1 v3 2 (0 : Int32) v5 fun M2 =>
gR M2 r0 7 1 fun v6 =>
gR M2 r1 7 1 fun v7 =>
aI M2 v7 2 (1 : Int32) fun v8 =>
wI M2 v6 2 (1 : Int32) v8 fun M3 =>
gR M3 r1 7 2 fun v9 =>
gR M3 r0 7 2 fun v10 =>
gR M3 r0 7 2 fun v11 =>
aN M3 v11 fun v12 =>
cP M3 v9 (0 : Int32) v10 (0 : Int32) v12 fun M4 =>
gI M4 r1 7 3 fun v13 =>
pI M4 r0 7 3 v13 fun M5 =>
gI M5 r1 7 4 fun v14 =>
pI M5 r0 7 4 v14 fun M6 =>
gI M6 r1 7 5 fun v15 =>
pI M6 r0 7 5 v15 fun M7 =>
some ((), M7))
def L_X8_forget : List (Option (Instr × Nat)) := [some (.aload_n 0, 1), some (.aconst_null, 1), some (.putfield 54, 3), none, none, some (.return_, 1)]
def Y_X8_forget : YM := (⟨RX8, "forget", "()V"⟩, prog_10_method_2_code, L_X8_forget, 1, none)
def f_X8_forget (r0 : Option Nat) (M : Mem) : Option (Unit × Mem) :=
pR M r0 8 11 none fun M1 =>
some ((), M1)
set_option maxRecDepth 30000 in
theorem ok_X4_setCell : okY Y_X4_setCell := ⟨(gw_in 457 rfl rfl), (gw_in 3 (by decide +kernel) (by decide +kernel)), by decide +kernel, by decide +kernel⟩
theorem ml_2_129 : MLv RX2 129 Y_X4_setCell 2 := ⟨(gw_in 835 (by decide +kernel) (by decide +kernel)), (gw_in 455 (by decide +kernel) (by decide +kernel)), (gw_in 456 (by decide +kernel) (by decide +kernel)), ok_X4_setCell, by decide +kernel⟩
theorem fl_2_126 : FLk RX2 126 6 0 true := ⟨_, rfl, by decide, (gw_in 141 (by decide +kernel) (by decide +kernel)), rfl⟩
set_option maxRecDepth 30000 in
theorem ok_X4_heapBehind : okY Y_X4_heapBehind := ⟨(gw_in 830 rfl rfl), (gw_in 3 (by decide +kernel) (by decide +kernel)), by decide +kernel, by decide +kernel⟩
theorem ml_2_116 : MLv RX2 116 Y_X4_heapBehind 2 := ⟨(gw_in 827 (by decide +kernel) (by decide +kernel)), (gw_in 828 (by decide +kernel) (by decide +kernel)), (gw_in 829 (by decide +kernel) (by decide +kernel)), ok_X4_heapBehind, by decide +kernel⟩
set_option maxRecDepth 30000 in
theorem ok_X2_perform : okY Y_X2_perform := ⟨(gw_in 834 rfl rfl), (gw_in 10 (by decide +kernel) (by decide +kernel)), by decide +kernel, by decide +kernel⟩
theorem ml_2_119 : MLv RX2 119 Y_X2_perform 3 := ⟨(gw_in 831 (by decide +kernel) (by decide +kernel)), (gw_in 832 (by decide +kernel) (by decide +kernel)), (gw_in 833 (by decide +kernel) (by decide +kernel)), ok_X2_perform, by decide +kernel⟩
theorem fl_2_123 : FLk RX2 123 4 1 false := ⟨_, rfl, by decide, (gw_in 46 (by decide +kernel) (by decide +kernel)), rfl⟩
set_option maxRecDepth 30000 in
theorem ok_X11_isMove : okY Y_X11_isMove := ⟨(gw_in 469 rfl rfl), (gw_in 1 (by decide +kernel) (by decide +kernel)), by decide +kernel, by decide +kernel⟩
theorem ml_11_125 : MLs RX11 125 Y_X11_isMove 1 := ⟨(gw_in 467 (by decide +kernel) (by decide +kernel)), (gw_in 468 (by decide +kernel) (by decide +kernel)), ok_X11_isMove, by decide +kernel⟩
set_option maxRecDepth 30000 in
theorem ok_X11_isOver : okY Y_X11_isOver := ⟨(gw_in 811 rfl rfl), (gw_in 1 (by decide +kernel) (by decide +kernel)), by decide +kernel, by decide +kernel⟩
theorem ml_11_246 : MLv RX11 246 Y_X11_isOver 1 := ⟨(gw_in 808 (by decide +kernel) (by decide +kernel)), (gw_in 810 (by decide +kernel) (by decide +kernel)), (gw_sel (n := 16) 18 (by decide +kernel) (by decide +kernel)), ok_X11_isOver, by decide +kernel⟩
theorem fl_11_170 : FLk RX11 170 2 3 false := ⟨_, rfl, by decide, (gw_in 252 (by decide +kernel) (by decide +kernel)), rfl⟩
theorem ml_11_298 : MLs RX11 298 Y_J6_bitCount_0f7a4 1 := ⟨(gw_in 822 (by decide +kernel) (by decide +kernel)), (gw_in 817 (by decide +kernel) (by decide +kernel)), ok_J6_bitCount_0f7a4, by decide +kernel⟩
set_option maxRecDepth 30000 in
theorem ok_X2_advance : okY Y_X2_advance := ⟨(gw_in 826 rfl rfl), (gw_in 10 (by decide +kernel) (by decide +kernel)), by decide +kernel, by decide +kernel⟩
theorem ml_11_303 : MLv RX11 303 Y_X2_advance 4 := ⟨(gw_in 823 (by decide +kernel) (by decide +kernel)), (gw_in 824 (by decide +kernel) (by decide +kernel)), (gw_in 825 (by decide +kernel) (by decide +kernel)), ok_X2_advance, by decide +kernel⟩
theorem fl_11_208 : FLk RX11 208 7 2 true := ⟨_, rfl, by decide, (gw_in 65 (by decide +kernel) (by decide +kernel)), rfl⟩
set_option maxRecDepth 30000 in
theorem ok_X10_bitsOf : okY Y_X10_bitsOf := ⟨(gw_in 803 rfl rfl), (gw_in 7 (by decide +kernel) (by decide +kernel)), by decide +kernel, by decide +kernel⟩
theorem ml_11_189 : MLs RX11 189 Y_X10_bitsOf 3 := ⟨(gw_in 801 (by decide +kernel) (by decide +kernel)), (gw_in 802 (by decide +kernel) (by decide +kernel)), ok_X10_bitsOf, by decide +kernel⟩
set_option maxRecDepth 30000 in
theorem ok_X11_told : okY Y_X11_told := ⟨(gw_in 807 rfl rfl), (gw_in 1 (by decide +kernel) (by decide +kernel)), by decide +kernel, by decide +kernel⟩
theorem ml_11_193 : MLv RX11 193 Y_X11_told 4 := ⟨(gw_in 804 (by decide +kernel) (by decide +kernel)), (gw_in 806 (by decide +kernel) (by decide +kernel)), (gw_sel (n := 16) 17 (by decide +kernel) (by decide +kernel)), ok_X11_told, by decide +kernel⟩
set_option maxRecDepth 30000 in
theorem ok_X11_tryPly : okY Y_X11_tryPly := ⟨(gw_in 896 rfl rfl), (gw_in 1 (by decide +kernel) (by decide +kernel)), by decide +kernel, by decide +kernel⟩
theorem ml_11_215 : MLv RX11 215 Y_X11_tryPly 1 := ⟨(gw_in 893 (by decide +kernel) (by decide +kernel)), (gw_in 895 (by decide +kernel) (by decide +kernel)), (gw_sel (n := 16) 26 (by decide +kernel) (by decide +kernel)), ok_X11_tryPly, by decide +kernel⟩
set_option maxRecDepth 30000 in
theorem ok_X11_remember : okY Y_X11_remember := ⟨(gw_in 904 rfl rfl), (gw_in 1 (by decide +kernel) (by decide +kernel)), by decide +kernel, by decide +kernel⟩
theorem ml_11_218 : MLv RX11 218 Y_X11_remember 1 := ⟨(gw_in 901 (by decide +kernel) (by decide +kernel)), (gw_in 903 (by decide +kernel) (by decide +kernel)), (gw_sel (n := 16) 27 (by decide +kernel) (by decide +kernel)), ok_X11_remember, by decide +kernel⟩
set_option maxRecDepth 30000 in
theorem ok_X11_cameByAnotherHeap : okY Y_X11_cameByAnotherHeap := ⟨(gw_in 912 rfl rfl), (gw_in 1 (by decide +kernel) (by decide +kernel)), by decide +kernel, by decide +kernel⟩
theorem ml_11_221 : MLv RX11 221 Y_X11_cameByAnotherHeap 1 := ⟨(gw_in 909 (by decide +kernel) (by decide +kernel)), (gw_in 911 (by decide +kernel) (by decide +kernel)), (gw_sel (n := 16) 28 (by decide +kernel) (by decide +kernel)), ok_X11_cameByAnotherHeap, by decide +kernel⟩
set_option maxRecDepth 30000 in
theorem ok_X4_take : okY Y_X4_take := ⟨(gw_in 892 rfl rfl), (gw_in 3 (by decide +kernel) (by decide +kernel)), by decide +kernel, by decide +kernel⟩
theorem ml_11_211 : MLv RX11 211 Y_X4_take 1 := ⟨(gw_in 889 (by decide +kernel) (by decide +kernel)), (gw_in 890 (by decide +kernel) (by decide +kernel)), (gw_in 891 (by decide +kernel) (by decide +kernel)), ok_X4_take, by decide +kernel⟩
theorem ml_11_274 : MLv RX11 274 Y_X4_pieces 1 := ⟨(gw_in 1087 (by decide +kernel) (by decide +kernel)), (gw_in 722 (by decide +kernel) (by decide +kernel)), (gw_in 723 (by decide +kernel) (by decide +kernel)), ok_X4_pieces, by decide +kernel⟩
theorem fl_7_12 : FLk RX7 12 7 0 true := ⟨_, rfl, by decide, (gw_in 60 (by decide +kernel) (by decide +kernel)), rfl⟩
theorem ml_7_35 : MLv RX7 35 Y_X4_take 1 := ⟨(gw_in 1079 (by decide +kernel) (by decide +kernel)), (gw_in 890 (by decide +kernel) (by decide +kernel)), (gw_in 891 (by decide +kernel) (by decide +kernel)), ok_X4_take, by decide +kernel⟩
theorem fl_7_18 : FLk RX7 18 7 1 true := ⟨_, rfl, by decide, (gw_in 62 (by decide +kernel) (by decide +kernel)), rfl⟩
theorem fl_7_22 : FLk RX7 22 7 2 true := ⟨_, rfl, by decide, (gw_in 64 (by decide +kernel) (by decide +kernel)), rfl⟩
theorem mk_7_39 : Jvm.Cond.methodLink RX7 39 arraycopyName ∈ gw := gw_in 1080 (by decide +kernel) (by decide +kernel)
theorem fl_7_25 : FLk RX7 25 7 3 false := ⟨_, rfl, by decide, (gw_in 66 (by decide +kernel) (by decide +kernel)), rfl⟩
theorem fl_7_29 : FLk RX7 29 7 4 false := ⟨_, rfl, by decide, (gw_in 68 (by decide +kernel) (by decide +kernel)), rfl⟩
theorem fl_7_32 : FLk RX7 32 7 5 false := ⟨_, rfl, by decide, (gw_in 70 (by decide +kernel) (by decide +kernel)), rfl⟩
theorem fl_8_54 : FLk RX8 54 8 11 false := ⟨_, rfl, by decide, (gw_in 326 (by decide +kernel) (by decide +kernel)), rfl⟩
set_option maxRecDepth 20000 in
theorem dk_X2_perform : ∀ pc i, L_X2_perform[pc]? = some (some i) → decode prog_4_method_8_code pc = .ok i := dk_of (by decide +kernel)
theorem s_X2_perform_133 {d : Nat} {P : Unit → Mem → Prop}   (r1 : Option Nat) (r4 : Option Nat) (i5 : Int32) (i6 : Int32) (i7 : Int32) (i8 : Int32) (M : Mem) (h : FQ (f_X2_perform_133  r1 r4 i5 i6 i7 i8 M) P) : wp Y_X2_perform (rmD (d + 1) 0 0) (FM (QV P) 0 0) 0 0 133 [none, some (va_rf r1), none, none, some (va_rf r4), some (.int i5), some (.int i6), some (.int i7), some (.int i8), none] [] M := by
  unfold f_X2_perform_133 at h
  refine r_aload rfl rfl ?_
  refine r_getI rfl fl_2_106 rfl h (fun v1 h => ?_)
  refine r_bipush (v := 8) rfl (by decide) ?_
  refine r_ic_ne 172 rfl (by decide) h (fun h => ?_) (fun h => ?_)
  · refine r_iload rfl rfl ?_
    refine r_iconst (v := -1) rfl (by decide) ?_
    refine r_ic_eq 172 rfl (by decide) h (fun h => ?_) (fun h => ?_)
    · refine r_aload_n rfl rfl ?_
      refine r_iload rfl rfl ?_
      refine r_iconst (v := 0) rfl (by decide) ?_
      refine r_cv_v (vs := [.int i5, .int (0 : Int32)]) rfl ml_2_129 rfl (rOk.of rfl) ⟨Nat.zero_le _, Nat.zero_le _⟩ rfl rfl rfl h s_X4_setCell (fun _ M1 h => ?_)
      refine r_aload_n rfl rfl ?_
      refine r_iload rfl rfl ?_
      refine r_iload rfl rfl ?_
      refine r_cv_v (vs := [.int i6, .int i7]) rfl ml_2_129 rfl (rOk.of rfl) ⟨Nat.zero_le _, Nat.zero_le _⟩ rfl rfl rfl h s_X4_setCell (fun _ M2 h => ?_)
      exact r_vret rfl rfl ⟨Nat.le_of_ble_eq_true rfl, Nat.le_of_ble_eq_true rfl⟩ h
    · refine r_aload_n rfl rfl ?_
      refine r_iload rfl rfl ?_
      refine r_cv_i (vs := [.int i8]) rfl ml_2_50 rfl (rOk.of rfl) ⟨Nat.zero_le _, Nat.zero_le _⟩ rfl rfl rfl h s_X4_cell (fun v2 M3 h => ?_)
      refine r_cs_i (vs := [.int v2]) rfl ml_2_55 (rOk.of rfl) ⟨Nat.zero_le _, Nat.zero_le _⟩ rfl rfl rfl h s_X4_sideOf (fun v3 M4 h => ?_)
      refine r_aload_n rfl rfl ?_
      refine r_getI rfl fl_2_58 rfl h (fun v4 h => ?_)
      refine r_ic_eq 172 rfl (by decide) h (fun h => ?_) (fun h => ?_)
      · refine r_aload_n rfl rfl ?_
        refine r_iload rfl rfl ?_
        refine r_iconst (v := 0) rfl (by decide) ?_
        refine r_cv_v (vs := [.int i5, .int (0 : Int32)]) rfl ml_2_129 rfl (rOk.of rfl) ⟨Nat.zero_le _, Nat.zero_le _⟩ rfl rfl rfl h s_X4_setCell (fun _ M5 h => ?_)
        refine r_aload_n rfl rfl ?_
        refine r_iload rfl rfl ?_
        refine r_iload rfl rfl ?_
        refine r_cv_v (vs := [.int i6, .int i7]) rfl ml_2_129 rfl (rOk.of rfl) ⟨Nat.zero_le _, Nat.zero_le _⟩ rfl rfl rfl h s_X4_setCell (fun _ M6 h => ?_)
        exact r_vret rfl rfl ⟨Nat.le_of_ble_eq_true rfl, Nat.le_of_ble_eq_true rfl⟩ h
      · refine r_aload_n rfl rfl ?_
        refine r_iload rfl rfl ?_
        refine r_iconst (v := 0) rfl (by decide) ?_
        refine r_cv_v (vs := [.int i8, .int (0 : Int32)]) rfl ml_2_129 rfl (rOk.of rfl) ⟨Nat.zero_le _, Nat.zero_le _⟩ rfl rfl rfl h s_X4_setCell (fun _ M7 h => ?_)
        refine r_aload_n rfl rfl ?_
        refine r_iload rfl rfl ?_
        refine r_iconst (v := 0) rfl (by decide) ?_
        refine r_cv_v (vs := [.int i5, .int (0 : Int32)]) rfl ml_2_129 rfl (rOk.of rfl) ⟨Nat.zero_le _, Nat.zero_le _⟩ rfl rfl rfl h s_X4_setCell (fun _ M8 h => ?_)
        refine r_aload_n rfl rfl ?_
        refine r_iload rfl rfl ?_
        refine r_iload rfl rfl ?_
        refine r_cv_v (vs := [.int i6, .int i7]) rfl ml_2_129 rfl (rOk.of rfl) ⟨Nat.zero_le _, Nat.zero_le _⟩ rfl rfl rfl h s_X4_setCell (fun _ M9 h => ?_)
        exact r_vret rfl rfl ⟨Nat.le_of_ble_eq_true rfl, Nat.le_of_ble_eq_true rfl⟩ h
  · refine r_aload_n rfl rfl ?_
    refine r_iload rfl rfl ?_
    refine r_iconst (v := 0) rfl (by decide) ?_
    refine r_cv_v (vs := [.int i5, .int (0 : Int32)]) rfl ml_2_129 rfl (rOk.of rfl) ⟨Nat.zero_le _, Nat.zero_le _⟩ rfl rfl rfl h s_X4_setCell (fun _ M10 h => ?_)
    refine r_aload_n rfl rfl ?_
    refine r_iload rfl rfl ?_
    refine r_iload rfl rfl ?_
    refine r_cv_v (vs := [.int i6, .int i7]) rfl ml_2_129 rfl (rOk.of rfl) ⟨Nat.zero_le _, Nat.zero_le _⟩ rfl rfl rfl h s_X4_setCell (fun _ M11 h => ?_)
    exact r_vret rfl rfl ⟨Nat.le_of_ble_eq_true rfl, Nat.le_of_ble_eq_true rfl⟩ h
theorem s_X2_perform_103 {d : Nat} {P : Unit → Mem → Prop}   (r1 : Option Nat) (r4 : Option Nat) (i5 : Int32) (i6 : Int32) (i7 : Int32) (i8 : Int32) (si0 : Int32) (M : Mem) (h : FQ (f_X2_perform_103  r1 r4 i5 i6 i7 i8 si0 M) P) : wp Y_X2_perform (rmD (d + 1) 0 0) (FM (QV P) 0 0) 0 0 103 [none, some (va_rf r1), none, none, some (va_rf r4), some (.int i5), some (.int i6), some (.int i7), some (.int i8), none] [.int si0] M := by
  unfold f_X2_perform_103 at h
  refine r_istore (lo' := [none, some (va_rf r1), none, none, some (va_rf r4), some (.int i5), some (.int i6), some (.int i7), some (.int i8), some (.int si0)]) rfl rfl rfl rfl ?_
  refine r_aload rfl rfl ?_
  refine r_getI rfl fl_2_106 rfl h (fun v1 h => ?_)
  refine r_bipush (v := 9) rfl (by decide) ?_
  refine r_ic_ne 133 rfl (by decide) h (fun h => ?_) (fun h => ?_)
  · refine r_iload rfl rfl ?_
    refine r_iconst (v := -1) rfl (by decide) ?_
    refine r_ic_eq 133 rfl (by decide) h (fun h => ?_) (fun h => ?_)
    · refine r_msk [true, true, true, true, true, true, true, true, true, false] rfl ?_
      exact s_X2_perform_133 _ _ _ _ _ _ _ h
    · refine r_aload_n rfl rfl ?_
      refine r_iload rfl rfl ?_
      refine r_aload_n rfl rfl ?_
      refine r_iload rfl rfl ?_
      refine r_cv_i (vs := [.int i6]) rfl ml_2_50 rfl (rOk.of rfl) ⟨Nat.zero_le _, Nat.zero_le _⟩ rfl rfl rfl h s_X4_cell (fun v2 M1 h => ?_)
      refine r_cv_v (vs := [.int si0, .int v2]) rfl ml_2_129 rfl (rOk.of rfl) ⟨Nat.zero_le _, Nat.zero_le _⟩ rfl rfl rfl h s_X4_setCell (fun _ M2 h => ?_)
      refine r_msk [true, true, true, true, true, true, true, true, true, false] rfl ?_
      exact s_X2_perform_133 _ _ _ _ _ _ _ h
  · refine r_msk [true, true, true, true, true, true, true, true, true, false] rfl ?_
    exact s_X2_perform_133 _ _ _ _ _ _ _ h
theorem s_X2_perform {d : Nat} {P : Unit → Mem → Prop} {r0 : Option Nat} {r1 : Option Nat} {r2 : Option Nat} {i3 : Int32} {M : Mem} (h : FQ (f_X2_perform r0 r1 r2 i3 M) P) : Con Y_X2_perform (d + 1) 0 0 [va_rf r0, va_rf r1, va_rf r2, .int i3] M (QV P) := by
  refine Con.of [some (va_rf r0), some (va_rf r1), some (va_rf r2), some (.int i3), none, none, none, none, none, none] (by decide +kernel) dk_X2_perform (by simp [Y_X2_perform, cat_rf, cat_i, cat_l]) (by simp [loE, Y_X2_perform, cat_rf, cat_i, cat_l, List.replicate]) ?_
  unfold f_X2_perform at h
  refine r_aload_n rfl rfl ?_
  refine r_getR rfl fl_2_126 rfl h (fun v1 h => ?_)
  refine r_aload_n rfl rfl ?_
  refine r_getR rfl fl_2_18 rfl h (fun v2 h => ?_)
  refine r_iload_n rfl rfl ?_
  refine r_iald rfl h (fun v3 h => ?_)
  refine r_aald6 rfl h (fun v4 h => ?_)
  refine r_astore (lo' := [some (va_rf r0), some (va_rf r1), some (va_rf r2), some (.int i3), some (va_rf v4), none, none, none, none, none]) rfl rfl rfl rfl ?_
  refine r_aload_n rfl rfl ?_
  refine r_getR rfl fl_2_9 rfl h (fun v5 h => ?_)
  refine r_iload_n rfl rfl ?_
  refine r_iald rfl h (fun v6 h => ?_)
  refine r_istore (lo' := [some (va_rf r0), some (va_rf r1), some (va_rf r2), some (.int i3), some (va_rf v4), some (.int v6), none, none, none, none]) rfl rfl (by simp [stOk, cat_rf]) rfl ?_
  refine r_aload_n rfl rfl ?_
  refine r_getR rfl fl_2_15 rfl h (fun v7 h => ?_)
  refine r_iload_n rfl rfl ?_
  refine r_iald rfl h (fun v8 h => ?_)
  refine r_istore (lo' := [some (va_rf r0), some (va_rf r1), some (va_rf r2), some (.int i3), some (va_rf v4), some (.int v6), some (.int v8), none, none, none]) rfl rfl rfl rfl ?_
  refine r_aload_n rfl rfl ?_
  refine r_iload rfl rfl ?_
  refine r_cv_i (vs := [.int v6]) rfl ml_2_50 rfl (rOk.of rfl) ⟨Nat.zero_le _, Nat.zero_le _⟩ rfl rfl rfl h s_X4_cell (fun v9 M1 h => ?_)
  refine r_istore (lo' := [some (va_rf r0), some (va_rf r1), some (va_rf r2), some (.int i3), some (va_rf v4), some (.int v6), some (.int v8), some (.int v9), none, none]) rfl rfl rfl rfl ?_
  refine r_aload rfl rfl ?_
  refine r_getI rfl fl_2_106 rfl h (fun v10 h => ?_)
  refine r_bipush (v := 10) rfl (by decide) ?_
  refine r_ic_ne 69 rfl (by decide) h (fun h => ?_) (fun h => ?_)
  · refine r_aload_n rfl rfl ?_
    refine r_iload rfl rfl ?_
    refine r_iconst (v := 1) rfl (by decide) ?_
    refine r_aload rfl rfl ?_
    refine r_getI rfl fl_2_109 rfl h (fun v11 h => ?_)
    refine r_iadd rfl ?_
    refine r_iconst (v := 4) rfl (by decide) ?_
    refine r_iload rfl rfl ?_
    refine r_cs_i (vs := [.int v9]) rfl ml_2_55 (rOk.of rfl) ⟨Nat.zero_le _, Nat.zero_le _⟩ rfl rfl rfl h s_X4_sideOf (fun v12 M2 h => ?_)
    refine r_imul rfl ?_
    refine r_iadd rfl ?_
    refine r_cv_v (vs := [.int v6, .int (((1 : Int32) + v11) + ((4 : Int32) * v12))]) rfl ml_2_129 rfl (rOk.of rfl) ⟨Nat.zero_le _, Nat.zero_le _⟩ rfl rfl rfl h s_X4_setCell (fun _ M3 h => ?_)
    exact r_vret rfl rfl ⟨Nat.le_of_ble_eq_true rfl, Nat.le_of_ble_eq_true rfl⟩ h
  · refine r_aload_n rfl rfl ?_
    refine r_iload rfl rfl ?_
    refine r_aload rfl rfl ?_
    refine r_getI rfl fl_2_109 rfl h (fun v13 h => ?_)
    refine r_cv_i (vs := [.int v6, .int v13]) rfl ml_2_112 rfl (rOk.of rfl) ⟨Nat.zero_le _, Nat.zero_le _⟩ rfl rfl rfl h s_X2_besideOf (fun v14 M4 h => ?_)
    refine r_istore (lo' := [some (va_rf r0), some (va_rf r1), some (va_rf r2), some (.int i3), some (va_rf v4), some (.int v6), some (.int v8), some (.int v9), some (.int v14), none]) rfl rfl rfl rfl ?_
    refine r_iload rfl rfl ?_
    refine r_iconst (v := -1) rfl (by decide) ?_
    refine r_ic_ne 92 rfl (by decide) h (fun h => ?_) (fun h => ?_)
    · refine r_iconst (v := -1) rfl (by decide) ?_
      refine r_goto 103 rfl (by decide) ?_
      refine r_msk [false, true, false, false, true, true, true, true, true, true] rfl ?_
      exact s_X2_perform_103 _ _ _ _ _ _ _ _ h
    · refine r_aload_n rfl rfl ?_
      refine r_iload rfl rfl ?_
      refine r_aload rfl rfl ?_
      refine r_getI rfl fl_2_109 rfl h (fun v15 h => ?_)
      refine r_cv_i (vs := [.int v14, .int v15]) rfl ml_2_112 rfl (rOk.of rfl) ⟨Nat.zero_le _, Nat.zero_le _⟩ rfl rfl rfl h s_X2_besideOf (fun v16 M5 h => ?_)
      refine r_msk [false, true, false, false, true, true, true, true, true, true] rfl ?_
      exact s_X2_perform_103 _ _ _ _ _ _ _ _ h
set_option maxRecDepth 20000 in
theorem dk_X4_heapBehind : ∀ pc i, L_X4_heapBehind[pc]? = some (some i) → decode prog_6_method_12_code pc = .ok i := dk_of (by decide +kernel)
theorem s_X4_heapBehind_26 {d : Nat} {P : Int32 → Mem → Prop}   (r0 : Option Nat) (i2 : Int32) (si0 : Int32) (M : Mem) (h : FQ (f_X4_heapBehind_26  r0 i2 si0 M) P) : wp Y_X4_heapBehind (rmD (d + 1) 0 0) (FM (QI P) 0 0) 0 0 26 [some (va_rf r0), none, some (.int i2), none] [.int si0] M := by
  unfold f_X4_heapBehind_26 at h
  refine r_istore_n (lo' := [some (va_rf r0), none, some (.int i2), some (.int si0)]) rfl rfl rfl rfl ?_
  refine r_aload_n rfl rfl ?_
  refine r_iload_n rfl rfl ?_
  refine r_cv_i (vs := [.int i2]) rfl ml_4_35 rfl (rOk.of rfl) ⟨Nat.zero_le _, Nat.zero_le _⟩ rfl rfl rfl h s_X4_count (fun v1 M1 h => ?_)
  refine r_if_le 45 rfl (by decide) h (fun h => ?_) (fun h => ?_)
  · refine r_iload_n rfl rfl ?_
    exact r_iret rfl rfl ⟨Nat.le_of_ble_eq_true rfl, Nat.le_of_ble_eq_true rfl⟩ h
  · refine r_iload_n rfl rfl ?_
    refine r_iconst (v := 1) rfl (by decide) ?_
    refine r_iconst (v := 2) rfl (by decide) ?_
    refine r_iload_n rfl rfl ?_
    refine r_imul rfl ?_
    refine r_ishl rfl ?_
    refine r_isub rfl ?_
    refine r_goto 46 rfl (by decide) ?_
    exact r_iret rfl rfl ⟨Nat.le_of_ble_eq_true rfl, Nat.le_of_ble_eq_true rfl⟩ h
theorem s_X4_heapBehind {d : Nat} {P : Int32 → Mem → Prop} {r0 : Option Nat} {i1 : Int32} {i2 : Int32} {M : Mem} (h : FQ (f_X4_heapBehind r0 i1 i2 M) P) : Con Y_X4_heapBehind (d + 1) 0 0 [va_rf r0, .int i1, .int i2] M (QI P) := by
  refine Con.of [some (va_rf r0), some (.int i1), some (.int i2), none] (by decide +kernel) dk_X4_heapBehind (by simp [Y_X4_heapBehind, cat_rf, cat_i, cat_l]) (by simp [loE, Y_X4_heapBehind, cat_rf, cat_i, cat_l, List.replicate]) ?_
  unfold f_X4_heapBehind at h
  refine r_aload_n rfl rfl ?_
  refine r_iload_n rfl rfl ?_
  refine r_cv_i (vs := [.int i1]) rfl ml_4_35 rfl (rOk.of rfl) ⟨Nat.zero_le _, Nat.zero_le _⟩ rfl rfl rfl h s_X4_count (fun v1 M1 h => ?_)
  refine r_iconst (v := 3) rfl (by decide) ?_
  refine r_ic_ge 22 rfl (by decide) h (fun h => ?_) (fun h => ?_)
  · refine r_aload_n rfl rfl ?_
    refine r_getI rfl fl_4_15 rfl h (fun v2 h => ?_)
    refine r_msk [true, false, true, true] rfl ?_
    exact s_X4_heapBehind_26 _ _ _ _ h
  · refine r_aload_n rfl rfl ?_
    refine r_getI rfl fl_4_15 rfl h (fun v3 h => ?_)
    refine r_iconst (v := 1) rfl (by decide) ?_
    refine r_iconst (v := 2) rfl (by decide) ?_
    refine r_iload_n rfl rfl ?_
    refine r_imul rfl ?_
    refine r_ishl rfl ?_
    refine r_iadd rfl ?_
    refine r_goto 26 rfl (by decide) ?_
    refine r_msk [true, false, true, true] rfl ?_
    exact s_X4_heapBehind_26 _ _ _ _ h
set_option maxRecDepth 20000 in
theorem dk_X2_advance : ∀ pc i, L_X2_advance[pc]? = some (some i) → decode prog_4_method_7_code pc = .ok i := dk_of (by decide +kernel)
theorem s_X2_advance {d : Nat} {P : Unit → Mem → Prop} {r0 : Option Nat} {r1 : Option Nat} {r2 : Option Nat} {i3 : Int32} {i4 : Int32} {M : Mem} (h : FQ (f_X2_advance r0 r1 r2 i3 i4 M) P) : Con Y_X2_advance (d + 2) 0 0 [va_rf r0, va_rf r1, va_rf r2, .int i3, .int i4] M (QV P) := by
  refine Con.of [some (va_rf r0), some (va_rf r1), some (va_rf r2), some (.int i3), some (.int i4), none] (by decide +kernel) dk_X2_advance (by simp [Y_X2_advance, cat_rf, cat_i, cat_l]) (by simp [loE, Y_X2_advance, cat_rf, cat_i, cat_l, List.replicate]) ?_
  unfold f_X2_advance at h
  refine r_aload_n rfl rfl ?_
  refine r_iload_n rfl rfl ?_
  refine r_iload rfl rfl ?_
  refine r_cv_i (vs := [.int i3, .int i4]) rfl ml_2_116 rfl (rOk.of rfl) ⟨Nat.zero_le _, Nat.zero_le _⟩ rfl rfl rfl h s_X4_heapBehind (fun v1 M1 h => ?_)
  refine r_istore (lo' := [some (va_rf r0), some (va_rf r1), some (va_rf r2), some (.int i3), some (.int i4), some (.int v1)]) rfl rfl rfl rfl ?_
  refine r_aload_n rfl rfl ?_
  refine r_aload_n rfl rfl ?_
  refine r_aload_n rfl rfl ?_
  refine r_iload rfl rfl ?_
  refine r_cv_v (vs := [va_rf r1, va_rf r2, .int i4]) rfl ml_2_119 rfl (rOk.of rfl) ⟨Nat.zero_le _, Nat.zero_le _⟩ rfl rfl rfl h s_X2_perform (fun _ M2 h => ?_)
  refine r_aload_n rfl rfl ?_
  refine r_iload rfl rfl ?_
  refine r_putI rfl fl_2_123 (fun z => by cases z) rfl h (fun M3 h => ?_)
  refine r_aload_n rfl rfl ?_
  refine r_iconst (v := 1) rfl (by decide) ?_
  refine r_aload_n rfl rfl ?_
  refine r_getI rfl fl_2_58 rfl h (fun v2 h => ?_)
  refine r_isub rfl ?_
  refine r_putI rfl fl_2_58 (fun z => by cases z) rfl h (fun M4 h => ?_)
  exact r_vret rfl rfl ⟨Nat.le_of_ble_eq_true rfl, Nat.le_of_ble_eq_true rfl⟩ h
set_option maxRecDepth 20000 in
theorem dk_X11_told : ∀ pc i, L_X11_told[pc]? = some (some i) → decode prog_1_method_39_code pc = .ok i := dk_of (by decide +kernel)
theorem s_X11_told {d : Nat} {P : Int32 → Mem → Prop} {r0 : Option Nat} {r1 : Option Nat} {i2 : Int32} {i3 : Int32} {i4 : Int32} {M : Mem} (h : FQ (f_X11_told r0 r1 i2 i3 i4 M) P) : Con Y_X11_told (d + 5) 0 0 [va_rf r0, va_rf r1, .int i2, .int i3, .int i4] M (QI P) := by
  refine Con.of [some (va_rf r0), some (va_rf r1), some (.int i2), some (.int i3), some (.int i4), none] (by decide +kernel) dk_X11_told (by simp [Y_X11_told, cat_rf, cat_i, cat_l]) (by simp [loE, Y_X11_told, cat_rf, cat_i, cat_l, List.replicate]) ?_
  unfold f_X11_told at h
  refine r_iload_n rfl rfl ?_
  refine r_cs_i (vs := [.int i3]) rfl ml_11_125 (rOk.of rfl) ⟨Nat.zero_le _, Nat.zero_le _⟩ rfl rfl rfl h s_X11_isMove (fun v1 M1 h => ?_)
  refine r_if_eq 23 rfl (by decide) h (fun h => ?_) (fun h => ?_)
  · refine r_iconst (v := 0) rfl (by decide) ?_
    exact r_zret rfl rfl ⟨Nat.le_of_ble_eq_true rfl, Nat.le_of_ble_eq_true rfl⟩ h
  · refine r_iload rfl rfl ?_
    refine r_cs_i (vs := [.int i4]) rfl ml_11_125 (rOk.of rfl) ⟨Nat.zero_le _, Nat.zero_le _⟩ rfl rfl rfl h s_X11_isMove (fun v2 M2 h => ?_)
    refine r_if_eq 23 rfl (by decide) h (fun h => ?_) (fun h => ?_)
    · refine r_iconst (v := 0) rfl (by decide) ?_
      exact r_zret rfl rfl ⟨Nat.le_of_ble_eq_true rfl, Nat.le_of_ble_eq_true rfl⟩ h
    · refine r_aload_n rfl rfl ?_
      refine r_aload_n rfl rfl ?_
      refine r_cv_i (vs := [va_rf r1]) rfl ml_11_246 rfl (rOk.of rfl) ⟨Nat.zero_le _, Nat.zero_le _⟩ rfl rfl rfl h s_X11_isOver (fun v3 M3 h => ?_)
      refine r_if_eq 25 rfl (by decide) h (fun h => ?_) (fun h => ?_)
      · refine r_iload_n rfl rfl ?_
        refine r_iconst (v := 1) rfl (by decide) ?_
        refine r_iload_n rfl rfl ?_
        refine r_ishl rfl ?_
        refine r_iconst (v := 1) rfl (by decide) ?_
        refine r_iload rfl rfl ?_
        refine r_ishl rfl ?_
        refine r_ior rfl ?_
        refine r_iand rfl ?_
        refine r_istore (lo' := [some (va_rf r0), some (va_rf r1), some (.int i2), some (.int i3), some (.int i4), some (.int (i2 &&& (((1 : Int32) <<< (i3 &&& 31)) ||| ((1 : Int32) <<< (i4 &&& 31)))))]) rfl rfl rfl rfl ?_
        refine r_iload_n rfl rfl ?_
        refine r_aload_n rfl rfl ?_
        refine r_getR rfl fl_11_83 rfl h (fun v4 h => ?_)
        refine r_getI rfl fl_11_170 rfl h (fun v5 h => ?_)
        refine r_iand rfl ?_
        refine r_iload_n rfl rfl ?_
        refine r_ic_ne 59 rfl (by decide) h (fun h => ?_) (fun h => ?_)
        · refine r_iload rfl rfl ?_
          refine r_cs_i (vs := [.int (i2 &&& (((1 : Int32) <<< (i3 &&& 31)) ||| ((1 : Int32) <<< (i4 &&& 31))))]) rfl ml_11_298 (rOk.of rfl) ⟨Nat.zero_le _, Nat.zero_le _⟩ rfl rfl rfl h s_J6_bitCount_0f7a4 (fun v6 M4 h => ?_)
          refine r_iconst (v := 2) rfl (by decide) ?_
          refine r_ic_eq 61 rfl (by decide) h (fun h => ?_) (fun h => ?_)
          · refine r_aload_n rfl rfl ?_
            refine r_getR rfl fl_11_83 rfl h (fun v7 h => ?_)
            refine r_aload_n rfl rfl ?_
            refine r_aload_n rfl rfl ?_
            refine r_aload_n rfl rfl ?_
            refine r_getR rfl fl_11_10 rfl h (fun v8 h => ?_)
            refine r_getI rfl fl_11_156 rfl h (fun v9 h => ?_)
            refine r_cv_r (vs := [.int v9]) rfl ml_11_162 rfl (rOk.of rfl) ⟨Nat.zero_le _, Nat.zero_le _⟩ rfl rfl rfl h s_X11_rules (fun v10 M5 h => ?_)
            refine r_iload_n rfl rfl ?_
            refine r_iload rfl rfl ?_
            refine r_cv_v (vs := [va_rf r1, va_rf v10, .int i3, .int i4]) rfl ml_11_303 rfl (rOk.of rfl) ⟨Nat.zero_le _, Nat.zero_le _⟩ rfl rfl rfl h s_X2_advance (fun _ M6 h => ?_)
            refine r_iconst (v := 1) rfl (by decide) ?_
            exact r_zret rfl rfl ⟨Nat.le_of_ble_eq_true rfl, Nat.le_of_ble_eq_true rfl⟩ h
          · refine r_iconst (v := 0) rfl (by decide) ?_
            exact r_zret rfl rfl ⟨Nat.le_of_ble_eq_true rfl, Nat.le_of_ble_eq_true rfl⟩ h
        · refine r_iconst (v := 0) rfl (by decide) ?_
          exact r_zret rfl rfl ⟨Nat.le_of_ble_eq_true rfl, Nat.le_of_ble_eq_true rfl⟩ h
      · refine r_iconst (v := 0) rfl (by decide) ?_
        exact r_zret rfl rfl ⟨Nat.le_of_ble_eq_true rfl, Nat.le_of_ble_eq_true rfl⟩ h
set_option maxRecDepth 20000 in
theorem dk_X11_tryPly : ∀ pc i, L_X11_tryPly[pc]? = some (some i) → decode prog_1_method_40_code pc = .ok i := dk_of (by decide +kernel)
theorem s_X11_tryPly {d : Nat} {P : Int32 → Mem → Prop} {r0 : Option Nat} {i1 : Int32} {M : Mem} (h : FQ (f_X11_tryPly r0 i1 M) P) : Con Y_X11_tryPly (d + 6) 0 0 [va_rf r0, .int i1] M (QI P) := by
  refine Con.of [some (va_rf r0), some (.int i1), none, none] (by decide +kernel) dk_X11_tryPly (by simp [Y_X11_tryPly, cat_rf, cat_i, cat_l]) (by simp [loE, Y_X11_tryPly, cat_rf, cat_i, cat_l, List.replicate]) ?_
  unfold f_X11_tryPly at h
  refine r_iload_n rfl rfl ?_
  refine r_iconst (v := 5) rfl (by decide) ?_
  refine r_imul rfl ?_
  refine r_istore_n (lo' := [some (va_rf r0), some (.int i1), some (.int (i1 * (5 : Int32))), none]) rfl rfl rfl rfl ?_
  refine r_iload_n rfl rfl ?_
  refine r_if_lt 22 rfl (by decide) h (fun h => ?_) (fun h => ?_)
  · refine r_iconst (v := 0) rfl (by decide) ?_
    exact r_zret rfl rfl ⟨Nat.le_of_ble_eq_true rfl, Nat.le_of_ble_eq_true rfl⟩ h
  · refine r_iload_n rfl rfl ?_
    refine r_iconst (v := 5) rfl (by decide) ?_
    refine r_iadd rfl ?_
    refine r_aload_n rfl rfl ?_
    refine r_getR rfl fl_11_10 rfl h (fun v1 h => ?_)
    refine r_getR rfl fl_11_208 rfl h (fun v2 h => ?_)
    refine r_alen rfl h (fun v3 h => ?_)
    refine r_ic_le 24 rfl (by decide) h (fun h => ?_) (fun h => ?_)
    · refine r_aload_n rfl rfl ?_
      refine r_getR rfl fl_11_10 rfl h (fun v4 h => ?_)
      refine r_getR rfl fl_11_208 rfl h (fun v5 h => ?_)
      refine r_iload_n rfl rfl ?_
      refine r_iald rfl h (fun v6 h => ?_)
      refine r_aload_n rfl rfl ?_
      refine r_getR rfl fl_11_10 rfl h (fun v7 h => ?_)
      refine r_getR rfl fl_11_208 rfl h (fun v8 h => ?_)
      refine r_iload_n rfl rfl ?_
      refine r_iconst (v := 1) rfl (by decide) ?_
      refine r_iadd rfl ?_
      refine r_iald rfl h (fun v9 h => ?_)
      refine r_aload_n rfl rfl ?_
      refine r_getR rfl fl_11_10 rfl h (fun v10 h => ?_)
      refine r_getR rfl fl_11_208 rfl h (fun v11 h => ?_)
      refine r_iload_n rfl rfl ?_
      refine r_iconst (v := 2) rfl (by decide) ?_
      refine r_iadd rfl ?_
      refine r_iald rfl h (fun v12 h => ?_)
      refine r_cs_i (vs := [.int v6, .int v9, .int v12]) rfl ml_11_189 (rOk.of rfl) ⟨Nat.zero_le _, Nat.zero_le _⟩ rfl rfl rfl h s_X10_bitsOf (fun v13 M1 h => ?_)
      refine r_istore_n (lo' := [some (va_rf r0), some (.int i1), some (.int (i1 * (5 : Int32))), some (.int v13)]) rfl rfl rfl rfl ?_
      refine r_aload_n rfl rfl ?_
      refine r_aload_n rfl rfl ?_
      refine r_getR rfl fl_11_47 rfl h (fun v14 h => ?_)
      refine r_iload_n rfl rfl ?_
      refine r_aload_n rfl rfl ?_
      refine r_getR rfl fl_11_10 rfl h (fun v15 h => ?_)
      refine r_getR rfl fl_11_208 rfl h (fun v16 h => ?_)
      refine r_iload_n rfl rfl ?_
      refine r_iconst (v := 3) rfl (by decide) ?_
      refine r_iadd rfl ?_
      refine r_iald rfl h (fun v17 h => ?_)
      refine r_aload_n rfl rfl ?_
      refine r_getR rfl fl_11_10 rfl h (fun v18 h => ?_)
      refine r_getR rfl fl_11_208 rfl h (fun v19 h => ?_)
      refine r_iload_n rfl rfl ?_
      refine r_iconst (v := 4) rfl (by decide) ?_
      refine r_iadd rfl ?_
      refine r_iald rfl h (fun v20 h => ?_)
      refine r_cv_i (vs := [va_rf v14, .int v13, .int v17, .int v20]) rfl ml_11_193 rfl (rOk.of rfl) ⟨Nat.zero_le _, Nat.zero_le _⟩ rfl rfl rfl h s_X11_told (fun v21 M2 h => ?_)
      exact r_zret rfl rfl ⟨Nat.le_of_ble_eq_true rfl, Nat.le_of_ble_eq_true rfl⟩ h
    · refine r_iconst (v := 0) rfl (by decide) ?_
      exact r_zret rfl rfl ⟨Nat.le_of_ble_eq_true rfl, Nat.le_of_ble_eq_true rfl⟩ h
set_option maxRecDepth 20000 in
theorem dk_X4_take : ∀ pc i, L_X4_take[pc]? = some (some i) → decode prog_6_method_2_code pc = .ok i := dk_of (by decide +kernel)
theorem s_X4_take {d : Nat} {P : Unit → Mem → Prop} {r0 : Option Nat} {r1 : Option Nat} {M : Mem} (h : FQ (f_X4_take r0 r1 M) P) : Con Y_X4_take d 0 0 [va_rf r0, va_rf r1] M (QV P) := by
  refine Con.of [some (va_rf r0), some (va_rf r1)] (by decide +kernel) dk_X4_take (by simp [Y_X4_take, cat_rf, cat_i, cat_l]) (by simp [loE, Y_X4_take, cat_rf, cat_i, cat_l, List.replicate]) ?_
  unfold f_X4_take at h
  refine r_aload_n rfl rfl ?_
  refine r_aload_n rfl rfl ?_
  refine r_getL rfl fl_4_9 rfl h (fun v1 h => ?_)
  refine r_putL rfl fl_4_9 (fun z => by cases z) rfl h (fun M1 h => ?_)
  refine r_aload_n rfl rfl ?_
  refine r_aload_n rfl rfl ?_
  refine r_getI rfl fl_4_15 rfl h (fun v2 h => ?_)
  refine r_putI rfl fl_4_15 (fun z => by cases z) rfl h (fun M2 h => ?_)
  refine r_aload_n rfl rfl ?_
  refine r_aload_n rfl rfl ?_
  refine r_getI rfl fl_4_19 rfl h (fun v3 h => ?_)
  refine r_putI rfl fl_4_19 (fun z => by cases z) rfl h (fun M3 h => ?_)
  exact r_vret rfl rfl ⟨Nat.le_of_ble_eq_true rfl, Nat.le_of_ble_eq_true rfl⟩ h
set_option maxRecDepth 20000 in
theorem dk_X11_again : ∀ pc i, L_X11_again[pc]? = some (some i) → decode prog_1_method_18_code pc = .ok i := dk_of (by decide +kernel)
theorem sb_X11_again_21 {d : Nat} {P : Int32 → Mem → Prop} {q21 : Option Nat → Int32 → Mem → Option (Int32 × Mem)} (hq21 : ∀ (r0 : Option Nat) (i1 : Int32) (M : Mem), FQ (q21 r0 i1 M) P → wp Y_X11_again (rmD (d + 7) 0 0) (FM (QI P) 0 0) 0 0 21 [some (va_rf r0), some (.int i1)] [] M) (r0 : Option Nat) (i1 : Int32) (M : Mem) (h : FQ (b_X11_again_21 q21 r0 i1 M) P) : wp Y_X11_again (rmD (d + 7) 0 0) (FM (QI P) 0 0) 0 0 21 [some (va_rf r0), some (.int i1)] [] M := by
  unfold b_X11_again_21 at h
  refine r_iload_n rfl rfl ?_
  refine r_aload_n rfl rfl ?_
  refine r_getR rfl fl_11_10 rfl h (fun v1 h => ?_)
  refine r_getI rfl fl_11_205 rfl h (fun v2 h => ?_)
  refine r_ic_ge 73 rfl (by decide) h (fun h => ?_) (fun h => ?_)
  · refine r_iconst (v := -1) rfl (by decide) ?_
    exact r_iret rfl rfl ⟨Nat.le_of_ble_eq_true rfl, Nat.le_of_ble_eq_true rfl⟩ h
  · refine r_iload_n rfl rfl ?_
    refine r_bipush (v := 40) rfl (by decide) ?_
    refine r_ic_ge 73 rfl (by decide) h (fun h => ?_) (fun h => ?_)
    · refine r_iconst (v := -1) rfl (by decide) ?_
      exact r_iret rfl rfl ⟨Nat.le_of_ble_eq_true rfl, Nat.le_of_ble_eq_true rfl⟩ h
    · refine r_aload_n rfl rfl ?_
      refine r_iload_n rfl rfl ?_
      refine r_cv_i (vs := [.int i1]) rfl ml_11_215 rfl (rOk.of rfl) ⟨Nat.zero_le _, Nat.zero_le _⟩ rfl rfl rfl h s_X11_tryPly (fun v3 M1 h => ?_)
      refine r_if_ne 48 rfl (by decide) h (fun h => ?_) (fun h => ?_)
      · refine r_iconst (v := -1) rfl (by decide) ?_
        exact r_iret rfl rfl ⟨Nat.le_of_ble_eq_true rfl, Nat.le_of_ble_eq_true rfl⟩ h
      · refine r_aload_n rfl rfl ?_
        refine r_iload_n rfl rfl ?_
        refine r_iconst (v := 1) rfl (by decide) ?_
        refine r_iadd rfl ?_
        refine r_cv_v (vs := [.int (i1 + (1 : Int32))]) rfl ml_11_218 rfl (rOk.of rfl) ⟨Nat.zero_le _, Nat.zero_le _⟩ rfl rfl rfl h s_X11_remember (fun _ M2 h => ?_)
        refine r_aload_n rfl rfl ?_
        refine r_iload_n rfl rfl ?_
        refine r_iconst (v := 1) rfl (by decide) ?_
        refine r_iadd rfl ?_
        refine r_cv_i (vs := [.int (i1 + (1 : Int32))]) rfl ml_11_221 rfl (rOk.of rfl) ⟨Nat.zero_le _, Nat.zero_le _⟩ rfl rfl rfl h s_X11_cameByAnotherHeap (fun v4 M3 h => ?_)
        refine r_if_eq 67 rfl (by decide) h (fun h => ?_) (fun h => ?_)
        · refine r_iinc (v := 1) (lo' := [some (va_rf r0), some (.int (i1 + (1 : Int32)))]) rfl rfl rfl (by decide) (by simp [stOk, cat_rf]) rfl ?_
          refine r_goto 21 rfl (by decide) ?_
          exact hq21 _ _ _ h
        · refine r_iload_n rfl rfl ?_
          exact r_iret rfl rfl ⟨Nat.le_of_ble_eq_true rfl, Nat.le_of_ble_eq_true rfl⟩ h
theorem s_X11_again_21 {d : Nat} {P : Int32 → Mem → Prop}   : ∀ (k : Nat) (r0 : Option Nat) (i1 : Int32) (M : Mem), FQ (f_X11_again_21  k r0 i1 M) P → wp Y_X11_again (rmD (d + 7) 0 0) (FM (QI P) 0 0) 0 0 21 [some (va_rf r0), some (.int i1)] [] M
  | 0, _, _, _, h => h.no
  | k + 1, r0, i1, M, h => sb_X11_again_21  (s_X11_again_21  k) r0 i1 M h
theorem s_X11_again {d : Nat} {P : Int32 → Mem → Prop} {r0 : Option Nat} {M : Mem} (h : FQ (f_X11_again r0 M) P) : Con Y_X11_again (d + 7) 0 0 [va_rf r0] M (QI P) := by
  refine Con.of [some (va_rf r0), none] (by decide +kernel) dk_X11_again (by simp [Y_X11_again, cat_rf, cat_i, cat_l]) (by simp [loE, Y_X11_again, cat_rf, cat_i, cat_l, List.replicate]) ?_
  unfold f_X11_again at h
  refine r_aload_n rfl rfl ?_
  refine r_getR rfl fl_11_47 rfl h (fun v1 h => ?_)
  refine r_aload_n rfl rfl ?_
  refine r_getR rfl fl_11_10 rfl h (fun v2 h => ?_)
  refine r_getR rfl fl_11_114 rfl h (fun v3 h => ?_)
  refine r_cv_v (vs := [va_rf v3]) rfl ml_11_211 rfl (rOk.of rfl) ⟨Nat.zero_le _, Nat.zero_le _⟩ rfl rfl rfl h s_X4_take (fun _ M1 h => ?_)
  refine r_aload_n rfl rfl ?_
  refine r_iconst (v := 0) rfl (by decide) ?_
  refine r_cv_v (vs := [.int (0 : Int32)]) rfl ml_11_218 rfl (rOk.of rfl) ⟨Nat.zero_le _, Nat.zero_le _⟩ rfl rfl rfl h s_X11_remember (fun _ M2 h => ?_)
  refine r_iconst (v := 0) rfl (by decide) ?_
  refine r_istore_n (lo' := [some (va_rf r0), some (.int (0 : Int32))]) rfl rfl (by simp [stOk, cat_rf]) rfl ?_
  exact s_X11_again_21 FU _ _ _ h
set_option maxRecDepth 20000 in
theorem dk_X11_piecesNow : ∀ pc i, L_X11_piecesNow[pc]? = some (some i) → decode prog_1_method_35_code pc = .ok i := dk_of (by decide +kernel)
theorem s_X11_piecesNow {d : Nat} {P : Int32 → Mem → Prop} {r0 : Option Nat} {M : Mem} (h : FQ (f_X11_piecesNow r0 M) P) : Con Y_X11_piecesNow (d + 2) 0 0 [va_rf r0] M (QI P) := by
  refine Con.of [some (va_rf r0)] (by decide +kernel) dk_X11_piecesNow (by simp [Y_X11_piecesNow, cat_rf, cat_i, cat_l]) (by simp [loE, Y_X11_piecesNow, cat_rf, cat_i, cat_l, List.replicate]) ?_
  unfold f_X11_piecesNow at h
  refine r_aload_n rfl rfl ?_
  refine r_getR rfl fl_11_10 rfl h (fun v1 h => ?_)
  refine r_getR rfl fl_11_114 rfl h (fun v2 h => ?_)
  refine r_iconst (v := 0) rfl (by decide) ?_
  refine r_cv_i (vs := [.int (0 : Int32)]) rfl ml_11_274 rfl (rOk.of rfl) ⟨Nat.zero_le _, Nat.zero_le _⟩ rfl rfl rfl h s_X4_pieces (fun v3 M1 h => ?_)
  refine r_aload_n rfl rfl ?_
  refine r_getR rfl fl_11_10 rfl h (fun v4 h => ?_)
  refine r_getR rfl fl_11_114 rfl h (fun v5 h => ?_)
  refine r_iconst (v := 1) rfl (by decide) ?_
  refine r_cv_i (vs := [.int (1 : Int32)]) rfl ml_11_274 rfl (rOk.of rfl) ⟨Nat.zero_le _, Nat.zero_le _⟩ rfl rfl rfl h s_X4_pieces (fun v6 M2 h => ?_)
  refine r_iadd rfl ?_
  exact r_iret rfl rfl ⟨Nat.le_of_ble_eq_true rfl, Nat.le_of_ble_eq_true rfl⟩ h
set_option maxRecDepth 20000 in
theorem dk_X7_take : ∀ pc i, L_X7_take[pc]? = some (some i) → decode prog_9_method_2_code pc = .ok i := dk_of (by decide +kernel)
theorem s_X7_take {d : Nat} {P : Unit → Mem → Prop} {r0 : Option Nat} {r1 : Option Nat} {M : Mem} (h : FQ (f_X7_take r0 r1 M) P) : Con Y_X7_take (d + 1) 0 0 [va_rf r0, va_rf r1] M (QV P) := by
  refine Con.of [some (va_rf r0), some (va_rf r1)] (by decide +kernel) dk_X7_take (by simp [Y_X7_take, cat_rf, cat_i, cat_l]) (by simp [loE, Y_X7_take, cat_rf, cat_i, cat_l, List.replicate]) ?_
  unfold f_X7_take at h
  refine r_aload_n rfl rfl ?_
  refine r_getR rfl fl_7_12 rfl h (fun v1 h => ?_)
  refine r_aload_n rfl rfl ?_
  refine r_getR rfl fl_7_12 rfl h (fun v2 h => ?_)
  refine r_cv_v (vs := [va_rf v2]) rfl ml_7_35 rfl (rOk.of rfl) ⟨Nat.zero_le _, Nat.zero_le _⟩ rfl rfl rfl h s_X4_take (fun _ M1 h => ?_)
  refine r_aload_n rfl rfl ?_
  refine r_getR rfl fl_7_18 rfl h (fun v3 h => ?_)
  refine r_iconst (v := 0) rfl (by decide) ?_
  refine r_aload_n rfl rfl ?_
  refine r_getR rfl fl_7_18 rfl h (fun v4 h => ?_)
  refine r_iconst (v := 0) rfl (by decide) ?_
  refine r_iald rfl h (fun v5 h => ?_)
  refine r_iast rfl h (fun M2 h => ?_)
  refine r_aload_n rfl rfl ?_
  refine r_getR rfl fl_7_18 rfl h (fun v6 h => ?_)
  refine r_iconst (v := 1) rfl (by decide) ?_
  refine r_aload_n rfl rfl ?_
  refine r_getR rfl fl_7_18 rfl h (fun v7 h => ?_)
  refine r_iconst (v := 1) rfl (by decide) ?_
  refine r_iald rfl h (fun v8 h => ?_)
  refine r_iast rfl h (fun M3 h => ?_)
  refine r_aload_n rfl rfl ?_
  refine r_getR rfl fl_7_22 rfl h (fun v9 h => ?_)
  refine r_iconst (v := 0) rfl (by decide) ?_
  refine r_aload_n rfl rfl ?_
  refine r_getR rfl fl_7_22 rfl h (fun v10 h => ?_)
  refine r_iconst (v := 0) rfl (by decide) ?_
  refine r_aload_n rfl rfl ?_
  refine r_getR rfl fl_7_22 rfl h (fun v11 h => ?_)
  refine r_alen rfl h (fun v12 h => ?_)
  refine r_copy rfl mk_7_39 ⟨by show 1 ≤ _ + 1; omega, by show 60 ≤ 64 * (_ + 1); omega⟩ rfl h (fun M4 h => ?_)
  refine r_aload_n rfl rfl ?_
  refine r_aload_n rfl rfl ?_
  refine r_getI rfl fl_7_25 rfl h (fun v13 h => ?_)
  refine r_putI rfl fl_7_25 (fun z => by cases z) rfl h (fun M5 h => ?_)
  refine r_aload_n rfl rfl ?_
  refine r_aload_n rfl rfl ?_
  refine r_getI rfl fl_7_29 rfl h (fun v14 h => ?_)
  refine r_putI rfl fl_7_29 (fun z => by cases z) rfl h (fun M6 h => ?_)
  refine r_aload_n rfl rfl ?_
  refine r_aload_n rfl rfl ?_
  refine r_getI rfl fl_7_32 rfl h (fun v15 h => ?_)
  refine r_putI rfl fl_7_32 (fun z => by cases z) rfl h (fun M7 h => ?_)
  exact r_vret rfl rfl ⟨Nat.le_of_ble_eq_true rfl, Nat.le_of_ble_eq_true rfl⟩ h
set_option maxRecDepth 20000 in
theorem dk_X8_forget : ∀ pc i, L_X8_forget[pc]? = some (some i) → decode prog_10_method_2_code pc = .ok i := dk_of (by decide +kernel)
theorem s_X8_forget {d : Nat} {P : Unit → Mem → Prop} {r0 : Option Nat} {M : Mem} (h : FQ (f_X8_forget r0 M) P) : Con Y_X8_forget d 0 0 [va_rf r0] M (QV P) := by
  refine Con.of [some (va_rf r0)] (by decide +kernel) dk_X8_forget (by simp [Y_X8_forget, cat_rf, cat_i, cat_l]) (by simp [loE, Y_X8_forget, cat_rf, cat_i, cat_l, List.replicate]) ?_
  unfold f_X8_forget at h
  refine r_aload_n rfl rfl ?_
  refine r_null rfl ?_
  refine r_putR rfl fl_8_54 (fun z => by cases z) (Or.inl ⟨_, rfl⟩) h (fun M1 h => ?_)
  exact r_vret rfl rfl ⟨Nat.le_of_ble_eq_true rfl, Nat.le_of_ble_eq_true rfl⟩ h
