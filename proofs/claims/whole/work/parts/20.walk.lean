/-! walked by program (wip/gen): L_cell X4_cell X4_count X11_about X11_cameByAnotherHeap X4_boardAndTurn X11_remember X10_bitsOf J6_bitCount_0f7a4 X11_isMove X11_rules X1_hasCode X2_besideOf -/
def L_L_cell : List (Option (Instr × Nat)) := [some (.iload_n 1, 1), some (.aload_n 0, 1), some (.arraylength, 1), some (.if_icmp .ge 9, 3), none, none, some (.aload_n 0, 1), some (.iload_n 1, 1), some (.iaload, 1), some (.goto 4, 3), none, none, some (.iconst 0, 1), some (.ireturn, 1)]
def Y_L_cell : YM := (⟨"GameOfNoesLaw", "cell", "([II)I"⟩, method_2_code, L_L_cell, 2, some .int)
def f_L_cell (r0 : Option Nat) (i1 : Int32) (M : Mem) : Option (Int32 × Mem) :=
aN M r0 fun v1 =>
(if v1 ≤ i1 then
some ((0 : Int32), M)
else
aI M r0 8 i1 fun v2 =>
some (v2, M))
def L_X4_cell : List (Option (Instr × Nat)) := [some (.aload_n 0, 1), some (.getfield 9, 3), none, none, some (.iconst 4, 1), some (.iload_n 1, 1), some (.imul, 1), some (.lushr, 1), some (.l2i, 1), some (.bipush 15, 2), none, some (.iand, 1), some (.ireturn, 1)]
def Y_X4_cell : YM := (⟨RX4, "cell", "(I)I"⟩, prog_6_method_5_code, L_X4_cell, 2, some .int)
def f_X4_cell (r0 : Option Nat) (i1 : Int32) (M : Mem) : Option (Int32 × Mem) :=
gL M r0 4 0 fun v1 =>
some (((v1.toUInt64 >>> (((4 : Int32) * i1).toInt64.toUInt64 &&& Int64.toUInt64 63)).toInt64.toInt32 &&& (15 : Int32)), M)
def L_X4_count : List (Option (Instr × Nat)) := [some (.aload_n 0, 1), some (.getfield 15, 3), none, none, some (.iconst 2, 1), some (.iload_n 1, 1), some (.imul, 1), some (.iushr, 1), some (.iconst 3, 1), some (.iand, 1), some (.ireturn, 1)]
def Y_X4_count : YM := (⟨RX4, "count", "(I)I"⟩, prog_6_method_9_code, L_X4_count, 2, some .int)
def f_X4_count (r0 : Option Nat) (i1 : Int32) (M : Mem) : Option (Int32 × Mem) :=
gI M r0 4 1 fun v1 =>
some (((v1.toUInt32 >>> (((2 : Int32) * i1).toUInt32 &&& Int32.toUInt32 31)).toInt32 &&& (3 : Int32)), M)
def L_X11_about : List (Option (Instr × Nat)) := [some (.iload_n 1, 1), some (.tableswitch 124 0 8 #[51, 56, 61, 72, 80, 88, 98, 108, 116], 51), none, none, none, none, none, none, none, none, none, none, none, none, none, none, none, none, none, none, none, none, none, none, none, none, none, none, none, none, none, none, none, none, none, none, none, none, none, none, none, none, none, none, none, none, none, none, none, none, none, none, some (.aload_n 0, 1), some (.getfield 68, 3), none, none, some (.ireturn, 1), some (.aload_n 0, 1), some (.getfield 72, 3), none, none, some (.ireturn, 1), some (.aload_n 0, 1), some (.getfield 10, 3), none, none, some (.getfield 114, 3), none, none, some (.getfield 131, 3), none, none, some (.ireturn, 1), some (.aload_n 0, 1), some (.getfield 10, 3), none, none, some (.getfield 141, 3), none, none, some (.ireturn, 1), some (.aload_n 0, 1), some (.getfield 10, 3), none, none, some (.getfield 156, 3), none, none, some (.ireturn, 1), some (.aload_n 0, 1), some (.getfield 10, 3), none, none, some (.getfield 159, 3), none, none, some (.iconst 0, 1), some (.iaload, 1), some (.ireturn, 1), some (.aload_n 0, 1), some (.getfield 10, 3), none, none, some (.getfield 159, 3), none, none, some (.iconst 1, 1), some (.iaload, 1), some (.ireturn, 1), some (.aload_n 0, 1), some (.getfield 10, 3), none, none, some (.getfield 205, 3), none, none, some (.ireturn, 1), some (.aload_n 0, 1), some (.getfield 33, 3), none, none, some (.getfield 134, 3), none, none, some (.ireturn, 1), some (.iload_n 1, 1), some (.bipush 10, 2), none, some (.if_icmp .lt 24, 3), none, none, some (.iload_n 1, 1), some (.bipush 18, 2), none, some (.if_icmp .ge 18, 3), none, none, some (.aload_n 0, 1), some (.getfield 10, 3), none, none, some (.getfield 114, 3), none, none, some (.iload_n 1, 1), some (.bipush 10, 2), none, some (.isub, 1), some (.invokevirtual 268, 3), none, none, some (.ireturn, 1), some (.iload_n 1, 1), some (.bipush 20, 2), none, some (.if_icmp .lt 34, 3), none, none, some (.iload_n 1, 1), some (.bipush 20, 2), none, some (.aload_n 0, 1), some (.getfield 68, 3), none, none, some (.aload_n 0, 1), some (.getfield 72, 3), none, none, some (.imul, 1), some (.iadd, 1), some (.if_icmp .ge 18, 3), none, none, some (.aload_n 0, 1), some (.getfield 10, 3), none, none, some (.getfield 114, 3), none, none, some (.iload_n 1, 1), some (.bipush 20, 2), none, some (.isub, 1), some (.invokevirtual 271, 3), none, none, some (.ireturn, 1), some (.bipush (-2), 2), none, some (.ireturn, 1)]
def Y_X11_about : YM := (⟨RX11, "about", "(I)I"⟩, prog_1_method_30_code, L_X11_about, 2, some .int)
def f_X11_about_152  (r0 : Option Nat) (i1 : Int32) (M : Mem) : Option (Int32 × Mem) :=
(if i1 < (20 : Int32) then
some ((-2 : Int32), M)
else
gI M r0 11 0 fun v1 =>
gI M r0 11 1 fun v2 =>
(if ((20 : Int32) + (v1 * v2)) ≤ i1 then
some ((-2 : Int32), M)
else
gR M r0 11 2 fun v3 =>
gR M v3 7 0 fun v4 =>
cR M v4 (1, 4) (cA (f_X4_cell v4 (i1 - (20 : Int32)) M) fun v5 M1 =>
some (v5, M1))))
def f_X11_about (r0 : Option Nat) (i1 : Int32) (M : Mem) : Option (Int32 × Mem) :=
(if i1 = (0 : Int32) then
gI M r0 11 0 fun v22 =>
some (v22, M)
else
(if i1 = (1 : Int32) then
gI M r0 11 1 fun v21 =>
some (v21, M)
else
(if i1 = (2 : Int32) then
gR M r0 11 2 fun v18 =>
gR M v18 7 0 fun v19 =>
gI M v19 4 2 fun v20 =>
some (v20, M)
else
(if i1 = (3 : Int32) then
gR M r0 11 2 fun v16 =>
gI M v16 7 4 fun v17 =>
some (v17, M)
else
(if i1 = (4 : Int32) then
gR M r0 11 2 fun v14 =>
gI M v14 7 5 fun v15 =>
some (v15, M)
else
(if i1 = (5 : Int32) then
gR M r0 11 2 fun v11 =>
gR M v11 7 1 fun v12 =>
aI M v12 2 (0 : Int32) fun v13 =>
some (v13, M)
else
(if i1 = (6 : Int32) then
gR M r0 11 2 fun v8 =>
gR M v8 7 1 fun v9 =>
aI M v9 2 (1 : Int32) fun v10 =>
some (v10, M)
else
(if i1 = (7 : Int32) then
gR M r0 11 2 fun v6 =>
gI M v6 7 3 fun v7 =>
some (v7, M)
else
(if i1 = (8 : Int32) then
gR M r0 11 6 fun v4 =>
gI M v4 5 1 fun v5 =>
some (v5, M)
else
(if i1 < (10 : Int32) then
f_X11_about_152 r0 i1 M
else
(if (18 : Int32) ≤ i1 then
f_X11_about_152 r0 i1 M
else
gR M r0 11 2 fun v1 =>
gR M v1 7 0 fun v2 =>
cR M v2 (1, 4) (cA (f_X4_count v2 (i1 - (10 : Int32)) M) fun v3 M1 =>
some (v3, M1)))))))))))))
def L_X11_cameByAnotherHeap : List (Option (Instr × Nat)) := [some (.iconst 0, 1), some (.istore_n 2, 1), some (.iload_n 2, 1), some (.iload_n 1, 1), some (.if_icmp .ge 42, 3), none, none, some (.aload_n 0, 1), some (.getfield 51, 3), none, none, some (.iload_n 2, 1), some (.laload, 1), some (.aload_n 0, 1), some (.getfield 51, 3), none, none, some (.iload_n 1, 1), some (.laload, 1), some (.lcmp, 1), some (.ifCond .ne 20, 3), none, none, some (.aload_n 0, 1), some (.getfield 55, 3), none, none, some (.iload_n 2, 1), some (.iaload, 1), some (.aload_n 0, 1), some (.getfield 55, 3), none, none, some (.iload_n 1, 1), some (.iaload, 1), some (.if_icmp .eq 5, 3), none, none, some (.iconst 1, 1), some (.ireturn, 1), some (.iinc 2 1, 3), none, none, some (.goto (-41), 3), none, none, some (.iconst 0, 1), some (.ireturn, 1)]
def Y_X11_cameByAnotherHeap : YM := (⟨RX11, "cameByAnotherHeap", "(I)Z"⟩, prog_1_method_42_code, L_X11_cameByAnotherHeap, 3, some .boolean)
def b_X11_cameByAnotherHeap_2 (q2 : Option Nat → Int32 → Int32 → Mem → Option (Int32 × Mem)) (r0 : Option Nat) (i1 : Int32) (i2 : Int32) (M : Mem) : Option (Int32 × Mem) :=
(if i1 ≤ i2 then
tv (0 : Int32) (some ((0 : Int32), M))
else
gR M r0 11 13 fun v1 =>
aL M v1 i2 fun v2 =>
gR M r0 11 13 fun v3 =>
aL M v3 i1 fun v4 =>
(if (lg_cmp v2 v4) = 0 then
gR M r0 11 14 fun v5 =>
aI M v5 2 i2 fun v6 =>
gR M r0 11 14 fun v7 =>
aI M v7 2 i1 fun v8 =>
(if v6 = v8 then
q2 r0 i1 (i2 + (1 : Int32)) M
else
tv (1 : Int32) (some ((1 : Int32), M)))
else
q2 r0 i1 (i2 + (1 : Int32)) M))
def f_X11_cameByAnotherHeap_2 (n : Nat) : Option Nat → Int32 → Int32 → Mem → Option (Int32 × Mem) := lpN (fun _ _ _ _ => none) (b_X11_cameByAnotherHeap_2 ) n
def f_X11_cameByAnotherHeap (r0 : Option Nat) (i1 : Int32) (M : Mem) : Option (Int32 × Mem) :=
f_X11_cameByAnotherHeap_2 FU r0 i1 (0 : Int32) M
def L_X4_boardAndTurn : List (Option (Instr × Nat)) := [some (.aload_n 0, 1), some (.getfield 9, 3), none, none, some (.aload_n 0, 1), some (.getfield 19, 3), none, none, some (.i2l, 1), some (.bipush 48, 2), none, some (.lshl, 1), some (.lor, 1), some (.lreturn, 1)]
def Y_X4_boardAndTurn : YM := (⟨RX4, "boardAndTurn", "()J"⟩, prog_6_method_3_code, L_X4_boardAndTurn, 1, some .long)
def f_X4_boardAndTurn (r0 : Option Nat) (M : Mem) : Option (Int64 × Mem) :=
gL M r0 4 0 fun v1 =>
gI M r0 4 2 fun v2 =>
some ((v1 ||| (v2.toInt64 <<< ((48 : Int32).toInt64 &&& 63))), M)
def L_X11_remember : List (Option (Instr × Nat)) := [some (.aload_n 0, 1), some (.getfield 51, 3), none, none, some (.iload_n 1, 1), some (.aload_n 0, 1), some (.getfield 47, 3), none, none, some (.invokevirtual 307, 3), none, none, some (.lastore, 1), some (.aload_n 0, 1), some (.getfield 55, 3), none, none, some (.iload_n 1, 1), some (.aload_n 0, 1), some (.getfield 47, 3), none, none, some (.getfield 311, 3), none, none, some (.iastore, 1), some (.return_, 1)]
def Y_X11_remember : YM := (⟨RX11, "remember", "(I)V"⟩, prog_1_method_41_code, L_X11_remember, 2, none)
def f_X11_remember (r0 : Option Nat) (i1 : Int32) (M : Mem) : Option (Unit × Mem) :=
gR M r0 11 13 fun v1 =>
gR M r0 11 12 fun v2 =>
cR M v2 (1, 4) (cA (f_X4_boardAndTurn v2 M) fun v3 M1 =>
wL M1 v1 i1 v3 fun M2 =>
gR M2 r0 11 14 fun v4 =>
gR M2 r0 11 12 fun v5 =>
gI M2 v5 4 1 fun v6 =>
wI M2 v4 2 i1 v6 fun M3 =>
some ((), M3))
def L_X10_bitsOf : List (Option (Instr × Nat)) := [some (.iconst 0, 1), some (.iload_n 0, 1), some (.if_icmp .gt 33, 3), none, none, some (.iload_n 0, 1), some (.iload_n 1, 1), some (.if_icmp .ge 28, 3), none, none, some (.iload_n 1, 1), some (.iload_n 2, 1), some (.if_icmp .ge 23, 3), none, none, some (.iload_n 2, 1), some (.bipush 8, 2), none, some (.if_icmp .ge 17, 3), none, none, some (.iconst 1, 1), some (.iload_n 0, 1), some (.ishl, 1), some (.iconst 1, 1), some (.iload_n 1, 1), some (.ishl, 1), some (.ior, 1), some (.iconst 1, 1), some (.iload_n 2, 1), some (.ishl, 1), some (.ior, 1), some (.goto 4, 3), none, none, some (.iconst 0, 1), some (.ireturn, 1)]
def Y_X10_bitsOf : YM := (⟨RX10, "bitsOf", "(III)I"⟩, prog_12_method_2_code, L_X10_bitsOf, 3, some .int)
def f_X10_bitsOf (i0 : Int32) (i1 : Int32) (i2 : Int32) (M : Mem) : Option (Int32 × Mem) :=
(if i0 < (0 : Int32) then
some ((0 : Int32), M)
else
(if i1 ≤ i0 then
some ((0 : Int32), M)
else
(if i2 ≤ i1 then
some ((0 : Int32), M)
else
(if (8 : Int32) ≤ i2 then
some ((0 : Int32), M)
else
some (((((1 : Int32) <<< (i0 &&& 31)) ||| ((1 : Int32) <<< (i1 &&& 31))) ||| ((1 : Int32) <<< (i2 &&& 31))), M)))))
def L_J6_bitCount_0f7a4 : List (Option (Instr × Nat)) := [some (.iload_n 0, 1), some (.iload_n 0, 1), some (.iconst 1, 1), some (.iushr, 1), some (.ldc_w 265, 3), none, none, some (.iand, 1), some (.isub, 1), some (.istore_n 0, 1), some (.iload_n 0, 1), some (.ldc_w 266, 3), none, none, some (.iand, 1), some (.iload_n 0, 1), some (.iconst 2, 1), some (.iushr, 1), some (.ldc_w 266, 3), none, none, some (.iand, 1), some (.iadd, 1), some (.istore_n 0, 1), some (.iload_n 0, 1), some (.iload_n 0, 1), some (.iconst 4, 1), some (.iushr, 1), some (.iadd, 1), some (.ldc_w 267, 3), none, none, some (.iand, 1), some (.istore_n 0, 1), some (.iload_n 0, 1), some (.iload_n 0, 1), some (.bipush 8, 2), none, some (.iushr, 1), some (.iadd, 1), some (.istore_n 0, 1), some (.iload_n 0, 1), some (.iload_n 0, 1), some (.bipush 16, 2), none, some (.iushr, 1), some (.iadd, 1), some (.istore_n 0, 1), some (.iload_n 0, 1), some (.bipush 63, 2), none, some (.iand, 1), some (.ireturn, 1)]
def Y_J6_bitCount_0f7a4 : YM := (⟨"java/lang/Integer", "bitCount", "(I)I"⟩, prog_16_method_49_code, L_J6_bitCount_0f7a4, 1, some .int)
def f_J6_bitCount_0f7a4 (i0 : Int32) (M : Mem) : Option (Int32 × Mem) :=
some (((((((((i0 - ((i0.toUInt32 >>> ((1 : Int32).toUInt32 &&& Int32.toUInt32 31)).toInt32 &&& (1431655765 : Int32))) &&& (858993459 : Int32)) + (((i0 - ((i0.toUInt32 >>> ((1 : Int32).toUInt32 &&& Int32.toUInt32 31)).toInt32 &&& (1431655765 : Int32))).toUInt32 >>> ((2 : Int32).toUInt32 &&& Int32.toUInt32 31)).toInt32 &&& (858993459 : Int32))) + ((((i0 - ((i0.toUInt32 >>> ((1 : Int32).toUInt32 &&& Int32.toUInt32 31)).toInt32 &&& (1431655765 : Int32))) &&& (858993459 : Int32)) + (((i0 - ((i0.toUInt32 >>> ((1 : Int32).toUInt32 &&& Int32.toUInt32 31)).toInt32 &&& (1431655765 : Int32))).toUInt32 >>> ((2 : Int32).toUInt32 &&& Int32.toUInt32 31)).toInt32 &&& (858993459 : Int32))).toUInt32 >>> ((4 : Int32).toUInt32 &&& Int32.toUInt32 31)).toInt32) &&& (252645135 : Int32)) + ((((((i0 - ((i0.toUInt32 >>> ((1 : Int32).toUInt32 &&& Int32.toUInt32 31)).toInt32 &&& (1431655765 : Int32))) &&& (858993459 : Int32)) + (((i0 - ((i0.toUInt32 >>> ((1 : Int32).toUInt32 &&& Int32.toUInt32 31)).toInt32 &&& (1431655765 : Int32))).toUInt32 >>> ((2 : Int32).toUInt32 &&& Int32.toUInt32 31)).toInt32 &&& (858993459 : Int32))) + ((((i0 - ((i0.toUInt32 >>> ((1 : Int32).toUInt32 &&& Int32.toUInt32 31)).toInt32 &&& (1431655765 : Int32))) &&& (858993459 : Int32)) + (((i0 - ((i0.toUInt32 >>> ((1 : Int32).toUInt32 &&& Int32.toUInt32 31)).toInt32 &&& (1431655765 : Int32))).toUInt32 >>> ((2 : Int32).toUInt32 &&& Int32.toUInt32 31)).toInt32 &&& (858993459 : Int32))).toUInt32 >>> ((4 : Int32).toUInt32 &&& Int32.toUInt32 31)).toInt32) &&& (252645135 : Int32)).toUInt32 >>> ((8 : Int32).toUInt32 &&& Int32.toUInt32 31)).toInt32) + (((((((i0 - ((i0.toUInt32 >>> ((1 : Int32).toUInt32 &&& Int32.toUInt32 31)).toInt32 &&& (1431655765 : Int32))) &&& (858993459 : Int32)) + (((i0 - ((i0.toUInt32 >>> ((1 : Int32).toUInt32 &&& Int32.toUInt32 31)).toInt32 &&& (1431655765 : Int32))).toUInt32 >>> ((2 : Int32).toUInt32 &&& Int32.toUInt32 31)).toInt32 &&& (858993459 : Int32))) + ((((i0 - ((i0.toUInt32 >>> ((1 : Int32).toUInt32 &&& Int32.toUInt32 31)).toInt32 &&& (1431655765 : Int32))) &&& (858993459 : Int32)) + (((i0 - ((i0.toUInt32 >>> ((1 : Int32).toUInt32 &&& Int32.toUInt32 31)).toInt32 &&& (1431655765 : Int32))).toUInt32 >>> ((2 : Int32).toUInt32 &&& Int32.toUInt32 31)).toInt32 &&& (858993459 : Int32))).toUInt32 >>> ((4 : Int32).toUInt32 &&& Int32.toUInt32 31)).toInt32) &&& (252645135 : Int32)) + ((((((i0 - ((i0.toUInt32 >>> ((1 : Int32).toUInt32 &&& Int32.toUInt32 31)).toInt32 &&& (1431655765 : Int32))) &&& (858993459 : Int32)) + (((i0 - ((i0.toUInt32 >>> ((1 : Int32).toUInt32 &&& Int32.toUInt32 31)).toInt32 &&& (1431655765 : Int32))).toUInt32 >>> ((2 : Int32).toUInt32 &&& Int32.toUInt32 31)).toInt32 &&& (858993459 : Int32))) + ((((i0 - ((i0.toUInt32 >>> ((1 : Int32).toUInt32 &&& Int32.toUInt32 31)).toInt32 &&& (1431655765 : Int32))) &&& (858993459 : Int32)) + (((i0 - ((i0.toUInt32 >>> ((1 : Int32).toUInt32 &&& Int32.toUInt32 31)).toInt32 &&& (1431655765 : Int32))).toUInt32 >>> ((2 : Int32).toUInt32 &&& Int32.toUInt32 31)).toInt32 &&& (858993459 : Int32))).toUInt32 >>> ((4 : Int32).toUInt32 &&& Int32.toUInt32 31)).toInt32) &&& (252645135 : Int32)).toUInt32 >>> ((8 : Int32).toUInt32 &&& Int32.toUInt32 31)).toInt32).toUInt32 >>> ((16 : Int32).toUInt32 &&& Int32.toUInt32 31)).toInt32) &&& (63 : Int32)), M)
def L_X11_isMove : List (Option (Instr × Nat)) := [some (.iload_n 0, 1), some (.ifCond .lt 13, 3), none, none, some (.iload_n 0, 1), some (.bipush 8, 2), none, some (.if_icmp .ge 7, 3), none, none, some (.iconst 1, 1), some (.goto 4, 3), none, none, some (.iconst 0, 1), some (.ireturn, 1)]
def Y_X11_isMove : YM := (⟨RX11, "isMove", "(I)Z"⟩, prog_1_method_32_code, L_X11_isMove, 1, some .boolean)
def f_X11_isMove (i0 : Int32) (M : Mem) : Option (Int32 × Mem) :=
(if i0 < 0 then
tv (0 : Int32) (some ((0 : Int32), M))
else
(if (8 : Int32) ≤ i0 then
tv (0 : Int32) (some ((0 : Int32), M))
else
tv (1 : Int32) (some ((1 : Int32), M))))
def L_X11_rules : List (Option (Instr × Nat)) := [some (.iload_n 1, 1), some (.ifCond .lt 18, 3), none, none, some (.iload_n 1, 1), some (.bipush 6, 2), none, some (.if_icmp .ge 12, 3), none, none, some (.aload_n 0, 1), some (.getfield 21, 3), none, none, some (.iload_n 1, 1), some (.aaload, 1), some (.goto 7, 3), none, none, some (.aload_n 0, 1), some (.getfield 26, 3), none, none, some (.areturn, 1)]
def Y_X11_rules : YM := (⟨RX11, "rules", "(I)LGameOfNoes$Rules;"⟩, prog_1_method_34_code, L_X11_rules, 2, some (.object "GameOfNoes$Rules"))
def f_X11_rules (r0 : Option Nat) (i1 : Int32) (M : Mem) : Option (Option Nat × Mem) :=
(if i1 < 0 then
gR M r0 11 5 fun v1 =>
some (v1, M)
else
(if (6 : Int32) ≤ i1 then
gR M r0 11 5 fun v2 =>
some (v2, M)
else
gR M r0 11 4 fun v3 =>
aR M v3 7 i1 fun v4 =>
some (v4, M)))
def L_X1_hasCode : List (Option (Instr × Nat)) := [some (.aload_n 0, 1), some (.getfield 13, 3), none, none, some (.aload_n 0, 1), some (.getfield 16, 3), none, none, some (.if_icmp .le 7, 3), none, none, some (.iconst 1, 1), some (.goto 4, 3), none, none, some (.iconst 0, 1), some (.ireturn, 1)]
def Y_X1_hasCode : YM := (⟨RX1, "hasCode", "()Z"⟩, prog_3_method_2_code, L_X1_hasCode, 1, some .boolean)
def f_X1_hasCode (r0 : Option Nat) (M : Mem) : Option (Int32 × Mem) :=
gI M r0 1 7 fun v1 =>
gI M r0 1 6 fun v2 =>
(if v1 ≤ v2 then
tv (0 : Int32) (some ((0 : Int32), M))
else
tv (1 : Int32) (some ((1 : Int32), M)))
def L_X2_besideOf : List (Option (Instr × Nat)) := [some (.iload_n 1, 1), some (.iconst 4, 1), some (.imul, 1), some (.iload_n 2, 1), some (.iadd, 1), some (.istore_n 3, 1), some (.iload_n 3, 1), some (.ifCond .lt 21, 3), none, none, some (.iload_n 3, 1), some (.aload_n 0, 1), some (.getfield 28, 3), none, none, some (.arraylength, 1), some (.if_icmp .ge 12, 3), none, none, some (.aload_n 0, 1), some (.getfield 28, 3), none, none, some (.iload_n 3, 1), some (.iaload, 1), some (.goto 4, 3), none, none, some (.iconst (-1), 1), some (.ireturn, 1)]
def Y_X2_besideOf : YM := (⟨RX2, "besideOf", "(II)I"⟩, prog_4_method_6_code, L_X2_besideOf, 4, some .int)
def f_X2_besideOf (r0 : Option Nat) (i1 : Int32) (i2 : Int32) (M : Mem) : Option (Int32 × Mem) :=
(if ((i1 * (4 : Int32)) + i2) < 0 then
some ((-1 : Int32), M)
else
gR M r0 2 5 fun v1 =>
aN M v1 fun v2 =>
(if v2 ≤ ((i1 * (4 : Int32)) + i2) then
some ((-1 : Int32), M)
else
gR M r0 2 5 fun v3 =>
aI M v3 2 ((i1 * (4 : Int32)) + i2) fun v4 =>
some (v4, M)))
theorem fl_4_9 : FLk RX4 9 4 0 false := ⟨_, rfl, by decide, (gw_in 43 (by decide +kernel) (by decide +kernel)), rfl⟩
theorem fl_4_15 : FLk RX4 15 4 1 false := ⟨_, rfl, by decide, (gw_in 44 (by decide +kernel) (by decide +kernel)), rfl⟩
theorem fl_11_68 : FLk RX11 68 11 0 true := ⟨_, rfl, by decide, (gw_in 401 (by decide +kernel) (by decide +kernel)), rfl⟩
theorem fl_11_72 : FLk RX11 72 11 1 true := ⟨_, rfl, by decide, (gw_in 402 (by decide +kernel) (by decide +kernel)), rfl⟩
theorem fl_11_10 : FLk RX11 10 11 2 true := ⟨_, rfl, by decide, (gw_in 403 (by decide +kernel) (by decide +kernel)), rfl⟩
theorem fl_11_114 : FLk RX11 114 7 0 true := ⟨_, rfl, by decide, (gw_in 61 (by decide +kernel) (by decide +kernel)), rfl⟩
set_option maxRecDepth 30000 in
theorem ok_X4_cell : okY Y_X4_cell := ⟨(gw_in 728 rfl rfl), (gw_in 3 (by decide +kernel) (by decide +kernel)), by decide +kernel, by decide +kernel⟩
theorem ml_11_271 : MLv RX11 271 Y_X4_cell 1 := ⟨(gw_in 1101 (by decide +kernel) (by decide +kernel)), (gw_in 726 (by decide +kernel) (by decide +kernel)), (gw_in 727 (by decide +kernel) (by decide +kernel)), ok_X4_cell, by decide +kernel⟩
set_option maxRecDepth 30000 in
theorem ok_X4_count : okY Y_X4_count := ⟨(gw_in 749 rfl rfl), (gw_in 3 (by decide +kernel) (by decide +kernel)), by decide +kernel, by decide +kernel⟩
theorem ml_11_268 : MLv RX11 268 Y_X4_count 1 := ⟨(gw_in 1100 (by decide +kernel) (by decide +kernel)), (gw_in 747 (by decide +kernel) (by decide +kernel)), (gw_in 748 (by decide +kernel) (by decide +kernel)), ok_X4_count, by decide +kernel⟩
theorem fl_11_33 : FLk RX11 33 11 6 true := ⟨_, rfl, by decide, (gw_in 407 (by decide +kernel) (by decide +kernel)), rfl⟩
theorem fl_11_134 : FLk RX11 134 5 1 false := ⟨_, rfl, by decide, (gw_in 172 (by decide +kernel) (by decide +kernel)), rfl⟩
theorem fl_11_205 : FLk RX11 205 7 3 false := ⟨_, rfl, by decide, (gw_in 67 (by decide +kernel) (by decide +kernel)), rfl⟩
theorem fl_11_159 : FLk RX11 159 7 1 true := ⟨_, rfl, by decide, (gw_in 63 (by decide +kernel) (by decide +kernel)), rfl⟩
theorem fl_11_156 : FLk RX11 156 7 5 false := ⟨_, rfl, by decide, (gw_in 71 (by decide +kernel) (by decide +kernel)), rfl⟩
theorem fl_11_141 : FLk RX11 141 7 4 false := ⟨_, rfl, by decide, (gw_in 69 (by decide +kernel) (by decide +kernel)), rfl⟩
theorem fl_11_131 : FLk RX11 131 4 2 false := ⟨_, rfl, by decide, (gw_in 51 (by decide +kernel) (by decide +kernel)), rfl⟩
theorem fl_11_51 : FLk RX11 51 11 13 true := ⟨_, rfl, by decide, (gw_in 414 (by decide +kernel) (by decide +kernel)), rfl⟩
theorem fl_11_55 : FLk RX11 55 11 14 true := ⟨_, rfl, by decide, (gw_in 415 (by decide +kernel) (by decide +kernel)), rfl⟩
theorem fl_4_19 : FLk RX4 19 4 2 false := ⟨_, rfl, by decide, (gw_in 48 (by decide +kernel) (by decide +kernel)), rfl⟩
theorem fl_11_47 : FLk RX11 47 11 12 true := ⟨_, rfl, by decide, (gw_in 413 (by decide +kernel) (by decide +kernel)), rfl⟩
set_option maxRecDepth 30000 in
theorem ok_X4_boardAndTurn : okY Y_X4_boardAndTurn := ⟨(gw_in 908 rfl rfl), (gw_in 3 (by decide +kernel) (by decide +kernel)), by decide +kernel, by decide +kernel⟩
theorem ml_11_307 : MLv RX11 307 Y_X4_boardAndTurn 0 := ⟨(gw_in 905 (by decide +kernel) (by decide +kernel)), (gw_in 906 (by decide +kernel) (by decide +kernel)), (gw_in 907 (by decide +kernel) (by decide +kernel)), ok_X4_boardAndTurn, by decide +kernel⟩
theorem fl_11_311 : FLk RX11 311 4 1 false := ⟨_, rfl, by decide, (gw_in 47 (by decide +kernel) (by decide +kernel)), rfl⟩
theorem kc_RJ6_265 : Jvm.Cond.constant "java/lang/Integer" 265 (1431655765) ∈ gw := gw_in 819 (by decide +kernel) (by decide +kernel)
theorem kc_RJ6_266 : Jvm.Cond.constant "java/lang/Integer" 266 (858993459) ∈ gw := gw_in 820 (by decide +kernel) (by decide +kernel)
theorem kc_RJ6_267 : Jvm.Cond.constant "java/lang/Integer" 267 (252645135) ∈ gw := gw_in 821 (by decide +kernel) (by decide +kernel)
theorem fl_11_26 : FLk RX11 26 11 5 true := ⟨_, rfl, by decide, (gw_in 406 (by decide +kernel) (by decide +kernel)), rfl⟩
theorem fl_11_21 : FLk RX11 21 11 4 true := ⟨_, rfl, by decide, (gw_in 405 (by decide +kernel) (by decide +kernel)), rfl⟩
theorem fl_1_13 : FLk RX1 13 1 7 false := ⟨_, rfl, by decide, (gw_in 115 (by decide +kernel) (by decide +kernel)), rfl⟩
theorem fl_1_16 : FLk RX1 16 1 6 false := ⟨_, rfl, by decide, (gw_in 112 (by decide +kernel) (by decide +kernel)), rfl⟩
theorem fl_2_28 : FLk RX2 28 2 5 true := ⟨_, rfl, by decide, (gw_in 254 (by decide +kernel) (by decide +kernel)), rfl⟩
set_option maxRecDepth 20000 in
theorem dk_L_cell : ∀ pc i, L_L_cell[pc]? = some (some i) → decode method_2_code pc = .ok i := dk_of (by decide +kernel)
theorem s_L_cell {d : Nat} {P : Int32 → Mem → Prop} {r0 : Option Nat} {i1 : Int32} {M : Mem} (h : FQ (f_L_cell r0 i1 M) P) : Con Y_L_cell d 0 0 [va_rf r0, .int i1] M (QI P) := by
  refine Con.of [some (va_rf r0), some (.int i1)] (by decide +kernel) dk_L_cell (by simp [Y_L_cell, cat_rf, cat_i, cat_l]) (by simp [loE, Y_L_cell, cat_rf, cat_i, cat_l, List.replicate]) ?_
  unfold f_L_cell at h
  refine r_iload_n rfl rfl ?_
  refine r_aload_n rfl rfl ?_
  refine r_alen rfl h (fun v1 h => ?_)
  refine r_ic_ge 12 rfl (by decide) h (fun h => ?_) (fun h => ?_)
  · refine r_iconst (v := 0) rfl (by decide) ?_
    exact r_iret rfl rfl ⟨Nat.le_of_ble_eq_true rfl, Nat.le_of_ble_eq_true rfl⟩ h
  · refine r_aload_n rfl rfl ?_
    refine r_iload_n rfl rfl ?_
    refine r_iald8 rfl h (fun v2 h => ?_)
    refine r_goto 13 rfl (by decide) ?_
    exact r_iret rfl rfl ⟨Nat.le_of_ble_eq_true rfl, Nat.le_of_ble_eq_true rfl⟩ h
set_option maxRecDepth 20000 in
theorem dk_X4_cell : ∀ pc i, L_X4_cell[pc]? = some (some i) → decode prog_6_method_5_code pc = .ok i := dk_of (by decide +kernel)
theorem s_X4_cell {d : Nat} {P : Int32 → Mem → Prop} {r0 : Option Nat} {i1 : Int32} {M : Mem} (h : FQ (f_X4_cell r0 i1 M) P) : Con Y_X4_cell d 0 0 [va_rf r0, .int i1] M (QI P) := by
  refine Con.of [some (va_rf r0), some (.int i1)] (by decide +kernel) dk_X4_cell (by simp [Y_X4_cell, cat_rf, cat_i, cat_l]) (by simp [loE, Y_X4_cell, cat_rf, cat_i, cat_l, List.replicate]) ?_
  unfold f_X4_cell at h
  refine r_aload_n rfl rfl ?_
  refine r_getL rfl fl_4_9 rfl h (fun v1 h => ?_)
  refine r_iconst (v := 4) rfl (by decide) ?_
  refine r_iload_n rfl rfl ?_
  refine r_imul rfl ?_
  refine r_lushr rfl ?_
  refine r_l2i rfl ?_
  refine r_bipush (v := 15) rfl (by decide) ?_
  refine r_iand rfl ?_
  exact r_iret rfl rfl ⟨Nat.le_of_ble_eq_true rfl, Nat.le_of_ble_eq_true rfl⟩ h
set_option maxRecDepth 20000 in
theorem dk_X4_count : ∀ pc i, L_X4_count[pc]? = some (some i) → decode prog_6_method_9_code pc = .ok i := dk_of (by decide +kernel)
theorem s_X4_count {d : Nat} {P : Int32 → Mem → Prop} {r0 : Option Nat} {i1 : Int32} {M : Mem} (h : FQ (f_X4_count r0 i1 M) P) : Con Y_X4_count d 0 0 [va_rf r0, .int i1] M (QI P) := by
  refine Con.of [some (va_rf r0), some (.int i1)] (by decide +kernel) dk_X4_count (by simp [Y_X4_count, cat_rf, cat_i, cat_l]) (by simp [loE, Y_X4_count, cat_rf, cat_i, cat_l, List.replicate]) ?_
  unfold f_X4_count at h
  refine r_aload_n rfl rfl ?_
  refine r_getI rfl fl_4_15 rfl h (fun v1 h => ?_)
  refine r_iconst (v := 2) rfl (by decide) ?_
  refine r_iload_n rfl rfl ?_
  refine r_imul rfl ?_
  refine r_iushr rfl ?_
  refine r_iconst (v := 3) rfl (by decide) ?_
  refine r_iand rfl ?_
  exact r_iret rfl rfl ⟨Nat.le_of_ble_eq_true rfl, Nat.le_of_ble_eq_true rfl⟩ h
set_option maxRecDepth 20000 in
theorem dk_X11_about : ∀ pc i, L_X11_about[pc]? = some (some i) → decode prog_1_method_30_code pc = .ok i := dk_of (by decide +kernel)
theorem s_X11_about_152 {d : Nat} {P : Int32 → Mem → Prop}   (r0 : Option Nat) (i1 : Int32) (M : Mem) (h : FQ (f_X11_about_152  r0 i1 M) P) : wp Y_X11_about (rmD (d + 1) 0 0) (FM (QI P) 0 0) 0 0 152 [some (va_rf r0), some (.int i1)] [] M := by
  unfold f_X11_about_152 at h
  refine r_iload_n rfl rfl ?_
  refine r_bipush (v := 20) rfl (by decide) ?_
  refine r_ic_lt 189 rfl (by decide) h (fun h => ?_) (fun h => ?_)
  · refine r_bipush (v := -2) rfl (by decide) ?_
    exact r_iret rfl rfl ⟨Nat.le_of_ble_eq_true rfl, Nat.le_of_ble_eq_true rfl⟩ h
  · refine r_iload_n rfl rfl ?_
    refine r_bipush (v := 20) rfl (by decide) ?_
    refine r_aload_n rfl rfl ?_
    refine r_getI rfl fl_11_68 rfl h (fun v1 h => ?_)
    refine r_aload_n rfl rfl ?_
    refine r_getI rfl fl_11_72 rfl h (fun v2 h => ?_)
    refine r_imul rfl ?_
    refine r_iadd rfl ?_
    refine r_ic_ge 189 rfl (by decide) h (fun h => ?_) (fun h => ?_)
    · refine r_bipush (v := -2) rfl (by decide) ?_
      exact r_iret rfl rfl ⟨Nat.le_of_ble_eq_true rfl, Nat.le_of_ble_eq_true rfl⟩ h
    · refine r_aload_n rfl rfl ?_
      refine r_getR rfl fl_11_10 rfl h (fun v3 h => ?_)
      refine r_getR rfl fl_11_114 rfl h (fun v4 h => ?_)
      refine r_iload_n rfl rfl ?_
      refine r_bipush (v := 20) rfl (by decide) ?_
      refine r_isub rfl ?_
      refine r_cv_i (vs := [.int (i1 - (20 : Int32))]) rfl ml_11_271 rfl (rOk.of rfl) ⟨Nat.zero_le _, Nat.zero_le _⟩ rfl rfl rfl h s_X4_cell (fun v5 M1 h => ?_)
      exact r_iret rfl rfl ⟨Nat.le_of_ble_eq_true rfl, Nat.le_of_ble_eq_true rfl⟩ h
theorem s_X11_about {d : Nat} {P : Int32 → Mem → Prop} {r0 : Option Nat} {i1 : Int32} {M : Mem} (h : FQ (f_X11_about r0 i1 M) P) : Con Y_X11_about (d + 1) 0 0 [va_rf r0, .int i1] M (QI P) := by
  refine Con.of [some (va_rf r0), some (.int i1)] (by decide +kernel) dk_X11_about (by simp [Y_X11_about, cat_rf, cat_i, cat_l]) (by simp [loE, Y_X11_about, cat_rf, cat_i, cat_l, List.replicate]) ?_
  unfold f_X11_about at h
  refine r_iload_n rfl rfl ?_
  refine r_table (ks := [(0, 52), (1, 57), (2, 62), (3, 73), (4, 81), (5, 89), (6, 99), (7, 109), (8, 117)]) (dt := 125) rfl (by decide) (by decide) ?_
  refine r_swc h (fun h => ?_) (fun h => ?_)
  · refine r_aload_n rfl rfl ?_
    refine r_getI rfl fl_11_68 rfl h (fun v22 h => ?_)
    exact r_iret rfl rfl ⟨Nat.le_of_ble_eq_true rfl, Nat.le_of_ble_eq_true rfl⟩ h
  · refine r_swc h (fun h => ?_) (fun h => ?_)
    · refine r_aload_n rfl rfl ?_
      refine r_getI rfl fl_11_72 rfl h (fun v21 h => ?_)
      exact r_iret rfl rfl ⟨Nat.le_of_ble_eq_true rfl, Nat.le_of_ble_eq_true rfl⟩ h
    · refine r_swc h (fun h => ?_) (fun h => ?_)
      · refine r_aload_n rfl rfl ?_
        refine r_getR rfl fl_11_10 rfl h (fun v18 h => ?_)
        refine r_getR rfl fl_11_114 rfl h (fun v19 h => ?_)
        refine r_getI rfl fl_11_131 rfl h (fun v20 h => ?_)
        exact r_iret rfl rfl ⟨Nat.le_of_ble_eq_true rfl, Nat.le_of_ble_eq_true rfl⟩ h
      · refine r_swc h (fun h => ?_) (fun h => ?_)
        · refine r_aload_n rfl rfl ?_
          refine r_getR rfl fl_11_10 rfl h (fun v16 h => ?_)
          refine r_getI rfl fl_11_141 rfl h (fun v17 h => ?_)
          exact r_iret rfl rfl ⟨Nat.le_of_ble_eq_true rfl, Nat.le_of_ble_eq_true rfl⟩ h
        · refine r_swc h (fun h => ?_) (fun h => ?_)
          · refine r_aload_n rfl rfl ?_
            refine r_getR rfl fl_11_10 rfl h (fun v14 h => ?_)
            refine r_getI rfl fl_11_156 rfl h (fun v15 h => ?_)
            exact r_iret rfl rfl ⟨Nat.le_of_ble_eq_true rfl, Nat.le_of_ble_eq_true rfl⟩ h
          · refine r_swc h (fun h => ?_) (fun h => ?_)
            · refine r_aload_n rfl rfl ?_
              refine r_getR rfl fl_11_10 rfl h (fun v11 h => ?_)
              refine r_getR rfl fl_11_159 rfl h (fun v12 h => ?_)
              refine r_iconst (v := 0) rfl (by decide) ?_
              refine r_iald rfl h (fun v13 h => ?_)
              exact r_iret rfl rfl ⟨Nat.le_of_ble_eq_true rfl, Nat.le_of_ble_eq_true rfl⟩ h
            · refine r_swc h (fun h => ?_) (fun h => ?_)
              · refine r_aload_n rfl rfl ?_
                refine r_getR rfl fl_11_10 rfl h (fun v8 h => ?_)
                refine r_getR rfl fl_11_159 rfl h (fun v9 h => ?_)
                refine r_iconst (v := 1) rfl (by decide) ?_
                refine r_iald rfl h (fun v10 h => ?_)
                exact r_iret rfl rfl ⟨Nat.le_of_ble_eq_true rfl, Nat.le_of_ble_eq_true rfl⟩ h
              · refine r_swc h (fun h => ?_) (fun h => ?_)
                · refine r_aload_n rfl rfl ?_
                  refine r_getR rfl fl_11_10 rfl h (fun v6 h => ?_)
                  refine r_getI rfl fl_11_205 rfl h (fun v7 h => ?_)
                  exact r_iret rfl rfl ⟨Nat.le_of_ble_eq_true rfl, Nat.le_of_ble_eq_true rfl⟩ h
                · refine r_swc h (fun h => ?_) (fun h => ?_)
                  · refine r_aload_n rfl rfl ?_
                    refine r_getR rfl fl_11_33 rfl h (fun v4 h => ?_)
                    refine r_getI rfl fl_11_134 rfl h (fun v5 h => ?_)
                    exact r_iret rfl rfl ⟨Nat.le_of_ble_eq_true rfl, Nat.le_of_ble_eq_true rfl⟩ h
                  · refine r_swd ?_
                    refine r_iload_n rfl rfl ?_
                    refine r_bipush (v := 10) rfl (by decide) ?_
                    refine r_ic_lt 152 rfl (by decide) h (fun h => ?_) (fun h => ?_)
                    · exact s_X11_about_152 _ _ _ h
                    · refine r_iload_n rfl rfl ?_
                      refine r_bipush (v := 18) rfl (by decide) ?_
                      refine r_ic_ge 152 rfl (by decide) h (fun h => ?_) (fun h => ?_)
                      · exact s_X11_about_152 _ _ _ h
                      · refine r_aload_n rfl rfl ?_
                        refine r_getR rfl fl_11_10 rfl h (fun v1 h => ?_)
                        refine r_getR rfl fl_11_114 rfl h (fun v2 h => ?_)
                        refine r_iload_n rfl rfl ?_
                        refine r_bipush (v := 10) rfl (by decide) ?_
                        refine r_isub rfl ?_
                        refine r_cv_i (vs := [.int (i1 - (10 : Int32))]) rfl ml_11_268 rfl (rOk.of rfl) ⟨Nat.zero_le _, Nat.zero_le _⟩ rfl rfl rfl h s_X4_count (fun v3 M1 h => ?_)
                        exact r_iret rfl rfl ⟨Nat.le_of_ble_eq_true rfl, Nat.le_of_ble_eq_true rfl⟩ h
set_option maxRecDepth 20000 in
theorem dk_X11_cameByAnotherHeap : ∀ pc i, L_X11_cameByAnotherHeap[pc]? = some (some i) → decode prog_1_method_42_code pc = .ok i := dk_of (by decide +kernel)
theorem sb_X11_cameByAnotherHeap_2 {d : Nat} {P : Int32 → Mem → Prop} {q2 : Option Nat → Int32 → Int32 → Mem → Option (Int32 × Mem)} (hq2 : ∀ (r0 : Option Nat) (i1 : Int32) (i2 : Int32) (M : Mem), FQ (q2 r0 i1 i2 M) P → wp Y_X11_cameByAnotherHeap (rmD d 0 0) (FM (QI P) 0 0) 0 0 2 [some (va_rf r0), some (.int i1), some (.int i2)] [] M) (r0 : Option Nat) (i1 : Int32) (i2 : Int32) (M : Mem) (h : FQ (b_X11_cameByAnotherHeap_2 q2 r0 i1 i2 M) P) : wp Y_X11_cameByAnotherHeap (rmD d 0 0) (FM (QI P) 0 0) 0 0 2 [some (va_rf r0), some (.int i1), some (.int i2)] [] M := by
  unfold b_X11_cameByAnotherHeap_2 at h
  refine r_iload_n rfl rfl ?_
  refine r_iload_n rfl rfl ?_
  refine r_ic_ge 46 rfl (by decide) h (fun h => ?_) (fun h => ?_)
  · refine r_iconst (v := 0) rfl (by decide) ?_
    exact r_zret rfl rfl ⟨Nat.le_of_ble_eq_true rfl, Nat.le_of_ble_eq_true rfl⟩ h
  · refine r_aload_n rfl rfl ?_
    refine r_getR rfl fl_11_51 rfl h (fun v1 h => ?_)
    refine r_iload_n rfl rfl ?_
    refine r_lald rfl h (fun v2 h => ?_)
    refine r_aload_n rfl rfl ?_
    refine r_getR rfl fl_11_51 rfl h (fun v3 h => ?_)
    refine r_iload_n rfl rfl ?_
    refine r_lald rfl h (fun v4 h => ?_)
    refine r_lcmp rfl ?_
    refine r_if_ne 40 rfl (by decide) h (fun h => ?_) (fun h => ?_)
    · refine r_aload_n rfl rfl ?_
      refine r_getR rfl fl_11_55 rfl h (fun v5 h => ?_)
      refine r_iload_n rfl rfl ?_
      refine r_iald rfl h (fun v6 h => ?_)
      refine r_aload_n rfl rfl ?_
      refine r_getR rfl fl_11_55 rfl h (fun v7 h => ?_)
      refine r_iload_n rfl rfl ?_
      refine r_iald rfl h (fun v8 h => ?_)
      refine r_ic_eq 40 rfl (by decide) h (fun h => ?_) (fun h => ?_)
      · refine r_iinc (v := 1) (lo' := [some (va_rf r0), some (.int i1), some (.int (i2 + (1 : Int32)))]) rfl rfl rfl (by decide) rfl rfl ?_
        refine r_goto 2 rfl (by decide) ?_
        exact hq2 _ _ _ _ h
      · refine r_iconst (v := 1) rfl (by decide) ?_
        exact r_zret rfl rfl ⟨Nat.le_of_ble_eq_true rfl, Nat.le_of_ble_eq_true rfl⟩ h
    · refine r_iinc (v := 1) (lo' := [some (va_rf r0), some (.int i1), some (.int (i2 + (1 : Int32)))]) rfl rfl rfl (by decide) rfl rfl ?_
      refine r_goto 2 rfl (by decide) ?_
      exact hq2 _ _ _ _ h
theorem s_X11_cameByAnotherHeap_2 {d : Nat} {P : Int32 → Mem → Prop}   : ∀ (k : Nat) (r0 : Option Nat) (i1 : Int32) (i2 : Int32) (M : Mem), FQ (f_X11_cameByAnotherHeap_2  k r0 i1 i2 M) P → wp Y_X11_cameByAnotherHeap (rmD d 0 0) (FM (QI P) 0 0) 0 0 2 [some (va_rf r0), some (.int i1), some (.int i2)] [] M
  | 0, _, _, _, _, h => h.no
  | k + 1, r0, i1, i2, M, h => sb_X11_cameByAnotherHeap_2  (s_X11_cameByAnotherHeap_2  k) r0 i1 i2 M h
theorem s_X11_cameByAnotherHeap {d : Nat} {P : Int32 → Mem → Prop} {r0 : Option Nat} {i1 : Int32} {M : Mem} (h : FQ (f_X11_cameByAnotherHeap r0 i1 M) P) : Con Y_X11_cameByAnotherHeap d 0 0 [va_rf r0, .int i1] M (QI P) := by
  refine Con.of [some (va_rf r0), some (.int i1), none] (by decide +kernel) dk_X11_cameByAnotherHeap (by simp [Y_X11_cameByAnotherHeap, cat_rf, cat_i, cat_l]) (by simp [loE, Y_X11_cameByAnotherHeap, cat_rf, cat_i, cat_l, List.replicate]) ?_
  unfold f_X11_cameByAnotherHeap at h
  refine r_iconst (v := 0) rfl (by decide) ?_
  refine r_istore_n (lo' := [some (va_rf r0), some (.int i1), some (.int (0 : Int32))]) rfl rfl rfl rfl ?_
  exact s_X11_cameByAnotherHeap_2 FU _ _ _ _ h
set_option maxRecDepth 20000 in
theorem dk_X4_boardAndTurn : ∀ pc i, L_X4_boardAndTurn[pc]? = some (some i) → decode prog_6_method_3_code pc = .ok i := dk_of (by decide +kernel)
theorem s_X4_boardAndTurn {d : Nat} {P : Int64 → Mem → Prop} {r0 : Option Nat} {M : Mem} (h : FQ (f_X4_boardAndTurn r0 M) P) : Con Y_X4_boardAndTurn d 0 0 [va_rf r0] M (QL P) := by
  refine Con.of [some (va_rf r0)] (by decide +kernel) dk_X4_boardAndTurn (by simp [Y_X4_boardAndTurn, cat_rf, cat_i, cat_l]) (by simp [loE, Y_X4_boardAndTurn, cat_rf, cat_i, cat_l, List.replicate]) ?_
  unfold f_X4_boardAndTurn at h
  refine r_aload_n rfl rfl ?_
  refine r_getL rfl fl_4_9 rfl h (fun v1 h => ?_)
  refine r_aload_n rfl rfl ?_
  refine r_getI rfl fl_4_19 rfl h (fun v2 h => ?_)
  refine r_i2l rfl ?_
  refine r_bipush (v := 48) rfl (by decide) ?_
  refine r_lshl rfl ?_
  refine r_lor rfl ?_
  exact r_lret rfl rfl ⟨Nat.le_of_ble_eq_true rfl, Nat.le_of_ble_eq_true rfl⟩ h
set_option maxRecDepth 20000 in
theorem dk_X11_remember : ∀ pc i, L_X11_remember[pc]? = some (some i) → decode prog_1_method_41_code pc = .ok i := dk_of (by decide +kernel)
theorem s_X11_remember {d : Nat} {P : Unit → Mem → Prop} {r0 : Option Nat} {i1 : Int32} {M : Mem} (h : FQ (f_X11_remember r0 i1 M) P) : Con Y_X11_remember (d + 1) 0 0 [va_rf r0, .int i1] M (QV P) := by
  refine Con.of [some (va_rf r0), some (.int i1)] (by decide +kernel) dk_X11_remember (by simp [Y_X11_remember, cat_rf, cat_i, cat_l]) (by simp [loE, Y_X11_remember, cat_rf, cat_i, cat_l, List.replicate]) ?_
  unfold f_X11_remember at h
  refine r_aload_n rfl rfl ?_
  refine r_getR rfl fl_11_51 rfl h (fun v1 h => ?_)
  refine r_iload_n rfl rfl ?_
  refine r_aload_n rfl rfl ?_
  refine r_getR rfl fl_11_47 rfl h (fun v2 h => ?_)
  refine r_cv_l (vs := []) rfl ml_11_307 rfl (rOk.of rfl) ⟨Nat.zero_le _, Nat.zero_le _⟩ rfl rfl rfl h s_X4_boardAndTurn (fun v3 M1 h => ?_)
  refine r_last rfl h (fun M2 h => ?_)
  refine r_aload_n rfl rfl ?_
  refine r_getR rfl fl_11_55 rfl h (fun v4 h => ?_)
  refine r_iload_n rfl rfl ?_
  refine r_aload_n rfl rfl ?_
  refine r_getR rfl fl_11_47 rfl h (fun v5 h => ?_)
  refine r_getI rfl fl_11_311 rfl h (fun v6 h => ?_)
  refine r_iast rfl h (fun M3 h => ?_)
  exact r_vret rfl rfl ⟨Nat.le_of_ble_eq_true rfl, Nat.le_of_ble_eq_true rfl⟩ h
set_option maxRecDepth 20000 in
theorem dk_X10_bitsOf : ∀ pc i, L_X10_bitsOf[pc]? = some (some i) → decode prog_12_method_2_code pc = .ok i := dk_of (by decide +kernel)
theorem s_X10_bitsOf {d : Nat} {P : Int32 → Mem → Prop} {i0 : Int32} {i1 : Int32} {i2 : Int32} {M : Mem} (h : FQ (f_X10_bitsOf i0 i1 i2 M) P) : Con Y_X10_bitsOf d 0 0 [.int i0, .int i1, .int i2] M (QI P) := by
  refine Con.of [some (.int i0), some (.int i1), some (.int i2)] (by decide +kernel) dk_X10_bitsOf (by simp [Y_X10_bitsOf, cat_rf, cat_i, cat_l]) (by simp [loE, Y_X10_bitsOf, cat_rf, cat_i, cat_l, List.replicate]) ?_
  unfold f_X10_bitsOf at h
  refine r_iconst (v := 0) rfl (by decide) ?_
  refine r_iload_n rfl rfl ?_
  refine r_ic_gt 35 rfl (by decide) h (fun h => ?_) (fun h => ?_)
  · refine r_iconst (v := 0) rfl (by decide) ?_
    exact r_iret rfl rfl ⟨Nat.le_of_ble_eq_true rfl, Nat.le_of_ble_eq_true rfl⟩ h
  · refine r_iload_n rfl rfl ?_
    refine r_iload_n rfl rfl ?_
    refine r_ic_ge 35 rfl (by decide) h (fun h => ?_) (fun h => ?_)
    · refine r_iconst (v := 0) rfl (by decide) ?_
      exact r_iret rfl rfl ⟨Nat.le_of_ble_eq_true rfl, Nat.le_of_ble_eq_true rfl⟩ h
    · refine r_iload_n rfl rfl ?_
      refine r_iload_n rfl rfl ?_
      refine r_ic_ge 35 rfl (by decide) h (fun h => ?_) (fun h => ?_)
      · refine r_iconst (v := 0) rfl (by decide) ?_
        exact r_iret rfl rfl ⟨Nat.le_of_ble_eq_true rfl, Nat.le_of_ble_eq_true rfl⟩ h
      · refine r_iload_n rfl rfl ?_
        refine r_bipush (v := 8) rfl (by decide) ?_
        refine r_ic_ge 35 rfl (by decide) h (fun h => ?_) (fun h => ?_)
        · refine r_iconst (v := 0) rfl (by decide) ?_
          exact r_iret rfl rfl ⟨Nat.le_of_ble_eq_true rfl, Nat.le_of_ble_eq_true rfl⟩ h
        · refine r_iconst (v := 1) rfl (by decide) ?_
          refine r_iload_n rfl rfl ?_
          refine r_ishl rfl ?_
          refine r_iconst (v := 1) rfl (by decide) ?_
          refine r_iload_n rfl rfl ?_
          refine r_ishl rfl ?_
          refine r_ior rfl ?_
          refine r_iconst (v := 1) rfl (by decide) ?_
          refine r_iload_n rfl rfl ?_
          refine r_ishl rfl ?_
          refine r_ior rfl ?_
          refine r_goto 36 rfl (by decide) ?_
          exact r_iret rfl rfl ⟨Nat.le_of_ble_eq_true rfl, Nat.le_of_ble_eq_true rfl⟩ h
set_option maxRecDepth 20000 in
theorem dk_J6_bitCount_0f7a4 : ∀ pc i, L_J6_bitCount_0f7a4[pc]? = some (some i) → decode prog_16_method_49_code pc = .ok i := dk_of (by decide +kernel)
theorem s_J6_bitCount_0f7a4 {d : Nat} {P : Int32 → Mem → Prop} {i0 : Int32} {M : Mem} (h : FQ (f_J6_bitCount_0f7a4 i0 M) P) : Con Y_J6_bitCount_0f7a4 d 0 0 [.int i0] M (QI P) := by
  refine Con.of [some (.int i0)] (by decide +kernel) dk_J6_bitCount_0f7a4 (by simp [Y_J6_bitCount_0f7a4, cat_rf, cat_i, cat_l]) (by simp [loE, Y_J6_bitCount_0f7a4, cat_rf, cat_i, cat_l, List.replicate]) ?_
  unfold f_J6_bitCount_0f7a4 at h
  refine r_iload_n rfl rfl ?_
  refine r_iload_n rfl rfl ?_
  refine r_iconst (v := 1) rfl (by decide) ?_
  refine r_iushr rfl ?_
  refine r_ldcw rfl kc_RJ6_265 ?_
  refine r_iand rfl ?_
  refine r_isub rfl ?_
  refine r_istore_n (lo' := [some (.int (i0 - ((i0.toUInt32 >>> ((1 : Int32).toUInt32 &&& Int32.toUInt32 31)).toInt32 &&& (1431655765 : Int32))))]) rfl rfl rfl rfl ?_
  refine r_iload_n rfl rfl ?_
  refine r_ldcw rfl kc_RJ6_266 ?_
  refine r_iand rfl ?_
  refine r_iload_n rfl rfl ?_
  refine r_iconst (v := 2) rfl (by decide) ?_
  refine r_iushr rfl ?_
  refine r_ldcw rfl kc_RJ6_266 ?_
  refine r_iand rfl ?_
  refine r_iadd rfl ?_
  refine r_istore_n (lo' := [some (.int (((i0 - ((i0.toUInt32 >>> ((1 : Int32).toUInt32 &&& Int32.toUInt32 31)).toInt32 &&& (1431655765 : Int32))) &&& (858993459 : Int32)) + (((i0 - ((i0.toUInt32 >>> ((1 : Int32).toUInt32 &&& Int32.toUInt32 31)).toInt32 &&& (1431655765 : Int32))).toUInt32 >>> ((2 : Int32).toUInt32 &&& Int32.toUInt32 31)).toInt32 &&& (858993459 : Int32))))]) rfl rfl rfl rfl ?_
  refine r_iload_n rfl rfl ?_
  refine r_iload_n rfl rfl ?_
  refine r_iconst (v := 4) rfl (by decide) ?_
  refine r_iushr rfl ?_
  refine r_iadd rfl ?_
  refine r_ldcw rfl kc_RJ6_267 ?_
  refine r_iand rfl ?_
  refine r_istore_n (lo' := [some (.int (((((i0 - ((i0.toUInt32 >>> ((1 : Int32).toUInt32 &&& Int32.toUInt32 31)).toInt32 &&& (1431655765 : Int32))) &&& (858993459 : Int32)) + (((i0 - ((i0.toUInt32 >>> ((1 : Int32).toUInt32 &&& Int32.toUInt32 31)).toInt32 &&& (1431655765 : Int32))).toUInt32 >>> ((2 : Int32).toUInt32 &&& Int32.toUInt32 31)).toInt32 &&& (858993459 : Int32))) + ((((i0 - ((i0.toUInt32 >>> ((1 : Int32).toUInt32 &&& Int32.toUInt32 31)).toInt32 &&& (1431655765 : Int32))) &&& (858993459 : Int32)) + (((i0 - ((i0.toUInt32 >>> ((1 : Int32).toUInt32 &&& Int32.toUInt32 31)).toInt32 &&& (1431655765 : Int32))).toUInt32 >>> ((2 : Int32).toUInt32 &&& Int32.toUInt32 31)).toInt32 &&& (858993459 : Int32))).toUInt32 >>> ((4 : Int32).toUInt32 &&& Int32.toUInt32 31)).toInt32) &&& (252645135 : Int32)))]) rfl rfl rfl rfl ?_
  refine r_iload_n rfl rfl ?_
  refine r_iload_n rfl rfl ?_
  refine r_bipush (v := 8) rfl (by decide) ?_
  refine r_iushr rfl ?_
  refine r_iadd rfl ?_
  refine r_istore_n (lo' := [some (.int ((((((i0 - ((i0.toUInt32 >>> ((1 : Int32).toUInt32 &&& Int32.toUInt32 31)).toInt32 &&& (1431655765 : Int32))) &&& (858993459 : Int32)) + (((i0 - ((i0.toUInt32 >>> ((1 : Int32).toUInt32 &&& Int32.toUInt32 31)).toInt32 &&& (1431655765 : Int32))).toUInt32 >>> ((2 : Int32).toUInt32 &&& Int32.toUInt32 31)).toInt32 &&& (858993459 : Int32))) + ((((i0 - ((i0.toUInt32 >>> ((1 : Int32).toUInt32 &&& Int32.toUInt32 31)).toInt32 &&& (1431655765 : Int32))) &&& (858993459 : Int32)) + (((i0 - ((i0.toUInt32 >>> ((1 : Int32).toUInt32 &&& Int32.toUInt32 31)).toInt32 &&& (1431655765 : Int32))).toUInt32 >>> ((2 : Int32).toUInt32 &&& Int32.toUInt32 31)).toInt32 &&& (858993459 : Int32))).toUInt32 >>> ((4 : Int32).toUInt32 &&& Int32.toUInt32 31)).toInt32) &&& (252645135 : Int32)) + ((((((i0 - ((i0.toUInt32 >>> ((1 : Int32).toUInt32 &&& Int32.toUInt32 31)).toInt32 &&& (1431655765 : Int32))) &&& (858993459 : Int32)) + (((i0 - ((i0.toUInt32 >>> ((1 : Int32).toUInt32 &&& Int32.toUInt32 31)).toInt32 &&& (1431655765 : Int32))).toUInt32 >>> ((2 : Int32).toUInt32 &&& Int32.toUInt32 31)).toInt32 &&& (858993459 : Int32))) + ((((i0 - ((i0.toUInt32 >>> ((1 : Int32).toUInt32 &&& Int32.toUInt32 31)).toInt32 &&& (1431655765 : Int32))) &&& (858993459 : Int32)) + (((i0 - ((i0.toUInt32 >>> ((1 : Int32).toUInt32 &&& Int32.toUInt32 31)).toInt32 &&& (1431655765 : Int32))).toUInt32 >>> ((2 : Int32).toUInt32 &&& Int32.toUInt32 31)).toInt32 &&& (858993459 : Int32))).toUInt32 >>> ((4 : Int32).toUInt32 &&& Int32.toUInt32 31)).toInt32) &&& (252645135 : Int32)).toUInt32 >>> ((8 : Int32).toUInt32 &&& Int32.toUInt32 31)).toInt32))]) rfl rfl rfl rfl ?_
  refine r_iload_n rfl rfl ?_
  refine r_iload_n rfl rfl ?_
  refine r_bipush (v := 16) rfl (by decide) ?_
  refine r_iushr rfl ?_
  refine r_iadd rfl ?_
  refine r_istore_n (lo' := [some (.int (((((((i0 - ((i0.toUInt32 >>> ((1 : Int32).toUInt32 &&& Int32.toUInt32 31)).toInt32 &&& (1431655765 : Int32))) &&& (858993459 : Int32)) + (((i0 - ((i0.toUInt32 >>> ((1 : Int32).toUInt32 &&& Int32.toUInt32 31)).toInt32 &&& (1431655765 : Int32))).toUInt32 >>> ((2 : Int32).toUInt32 &&& Int32.toUInt32 31)).toInt32 &&& (858993459 : Int32))) + ((((i0 - ((i0.toUInt32 >>> ((1 : Int32).toUInt32 &&& Int32.toUInt32 31)).toInt32 &&& (1431655765 : Int32))) &&& (858993459 : Int32)) + (((i0 - ((i0.toUInt32 >>> ((1 : Int32).toUInt32 &&& Int32.toUInt32 31)).toInt32 &&& (1431655765 : Int32))).toUInt32 >>> ((2 : Int32).toUInt32 &&& Int32.toUInt32 31)).toInt32 &&& (858993459 : Int32))).toUInt32 >>> ((4 : Int32).toUInt32 &&& Int32.toUInt32 31)).toInt32) &&& (252645135 : Int32)) + ((((((i0 - ((i0.toUInt32 >>> ((1 : Int32).toUInt32 &&& Int32.toUInt32 31)).toInt32 &&& (1431655765 : Int32))) &&& (858993459 : Int32)) + (((i0 - ((i0.toUInt32 >>> ((1 : Int32).toUInt32 &&& Int32.toUInt32 31)).toInt32 &&& (1431655765 : Int32))).toUInt32 >>> ((2 : Int32).toUInt32 &&& Int32.toUInt32 31)).toInt32 &&& (858993459 : Int32))) + ((((i0 - ((i0.toUInt32 >>> ((1 : Int32).toUInt32 &&& Int32.toUInt32 31)).toInt32 &&& (1431655765 : Int32))) &&& (858993459 : Int32)) + (((i0 - ((i0.toUInt32 >>> ((1 : Int32).toUInt32 &&& Int32.toUInt32 31)).toInt32 &&& (1431655765 : Int32))).toUInt32 >>> ((2 : Int32).toUInt32 &&& Int32.toUInt32 31)).toInt32 &&& (858993459 : Int32))).toUInt32 >>> ((4 : Int32).toUInt32 &&& Int32.toUInt32 31)).toInt32) &&& (252645135 : Int32)).toUInt32 >>> ((8 : Int32).toUInt32 &&& Int32.toUInt32 31)).toInt32) + (((((((i0 - ((i0.toUInt32 >>> ((1 : Int32).toUInt32 &&& Int32.toUInt32 31)).toInt32 &&& (1431655765 : Int32))) &&& (858993459 : Int32)) + (((i0 - ((i0.toUInt32 >>> ((1 : Int32).toUInt32 &&& Int32.toUInt32 31)).toInt32 &&& (1431655765 : Int32))).toUInt32 >>> ((2 : Int32).toUInt32 &&& Int32.toUInt32 31)).toInt32 &&& (858993459 : Int32))) + ((((i0 - ((i0.toUInt32 >>> ((1 : Int32).toUInt32 &&& Int32.toUInt32 31)).toInt32 &&& (1431655765 : Int32))) &&& (858993459 : Int32)) + (((i0 - ((i0.toUInt32 >>> ((1 : Int32).toUInt32 &&& Int32.toUInt32 31)).toInt32 &&& (1431655765 : Int32))).toUInt32 >>> ((2 : Int32).toUInt32 &&& Int32.toUInt32 31)).toInt32 &&& (858993459 : Int32))).toUInt32 >>> ((4 : Int32).toUInt32 &&& Int32.toUInt32 31)).toInt32) &&& (252645135 : Int32)) + ((((((i0 - ((i0.toUInt32 >>> ((1 : Int32).toUInt32 &&& Int32.toUInt32 31)).toInt32 &&& (1431655765 : Int32))) &&& (858993459 : Int32)) + (((i0 - ((i0.toUInt32 >>> ((1 : Int32).toUInt32 &&& Int32.toUInt32 31)).toInt32 &&& (1431655765 : Int32))).toUInt32 >>> ((2 : Int32).toUInt32 &&& Int32.toUInt32 31)).toInt32 &&& (858993459 : Int32))) + ((((i0 - ((i0.toUInt32 >>> ((1 : Int32).toUInt32 &&& Int32.toUInt32 31)).toInt32 &&& (1431655765 : Int32))) &&& (858993459 : Int32)) + (((i0 - ((i0.toUInt32 >>> ((1 : Int32).toUInt32 &&& Int32.toUInt32 31)).toInt32 &&& (1431655765 : Int32))).toUInt32 >>> ((2 : Int32).toUInt32 &&& Int32.toUInt32 31)).toInt32 &&& (858993459 : Int32))).toUInt32 >>> ((4 : Int32).toUInt32 &&& Int32.toUInt32 31)).toInt32) &&& (252645135 : Int32)).toUInt32 >>> ((8 : Int32).toUInt32 &&& Int32.toUInt32 31)).toInt32).toUInt32 >>> ((16 : Int32).toUInt32 &&& Int32.toUInt32 31)).toInt32))]) rfl rfl rfl rfl ?_
  refine r_iload_n rfl rfl ?_
  refine r_bipush (v := 63) rfl (by decide) ?_
  refine r_iand rfl ?_
  exact r_iret rfl rfl ⟨Nat.le_of_ble_eq_true rfl, Nat.le_of_ble_eq_true rfl⟩ h
set_option maxRecDepth 20000 in
theorem dk_X11_isMove : ∀ pc i, L_X11_isMove[pc]? = some (some i) → decode prog_1_method_32_code pc = .ok i := dk_of (by decide +kernel)
theorem s_X11_isMove {d : Nat} {P : Int32 → Mem → Prop} {i0 : Int32} {M : Mem} (h : FQ (f_X11_isMove i0 M) P) : Con Y_X11_isMove d 0 0 [.int i0] M (QI P) := by
  refine Con.of [some (.int i0)] (by decide +kernel) dk_X11_isMove (by simp [Y_X11_isMove, cat_rf, cat_i, cat_l]) (by simp [loE, Y_X11_isMove, cat_rf, cat_i, cat_l, List.replicate]) ?_
  unfold f_X11_isMove at h
  refine r_iload_n rfl rfl ?_
  refine r_if_lt 14 rfl (by decide) h (fun h => ?_) (fun h => ?_)
  · refine r_iconst (v := 0) rfl (by decide) ?_
    exact r_zret rfl rfl ⟨Nat.le_of_ble_eq_true rfl, Nat.le_of_ble_eq_true rfl⟩ h
  · refine r_iload_n rfl rfl ?_
    refine r_bipush (v := 8) rfl (by decide) ?_
    refine r_ic_ge 14 rfl (by decide) h (fun h => ?_) (fun h => ?_)
    · refine r_iconst (v := 0) rfl (by decide) ?_
      exact r_zret rfl rfl ⟨Nat.le_of_ble_eq_true rfl, Nat.le_of_ble_eq_true rfl⟩ h
    · refine r_iconst (v := 1) rfl (by decide) ?_
      refine r_goto 15 rfl (by decide) ?_
      exact r_zret rfl rfl ⟨Nat.le_of_ble_eq_true rfl, Nat.le_of_ble_eq_true rfl⟩ h
set_option maxRecDepth 20000 in
theorem dk_X11_rules : ∀ pc i, L_X11_rules[pc]? = some (some i) → decode prog_1_method_34_code pc = .ok i := dk_of (by decide +kernel)
theorem s_X11_rules {d : Nat} {P : Option Nat → Mem → Prop} {r0 : Option Nat} {i1 : Int32} {M : Mem} (h : FQ (f_X11_rules r0 i1 M) P) : Con Y_X11_rules d 0 0 [va_rf r0, .int i1] M (QR P) := by
  refine Con.of [some (va_rf r0), some (.int i1)] (by decide +kernel) dk_X11_rules (by simp [Y_X11_rules, cat_rf, cat_i, cat_l]) (by simp [loE, Y_X11_rules, cat_rf, cat_i, cat_l, List.replicate]) ?_
  unfold f_X11_rules at h
  refine r_iload_n rfl rfl ?_
  refine r_if_lt 19 rfl (by decide) h (fun h => ?_) (fun h => ?_)
  · refine r_aload_n rfl rfl ?_
    refine r_getR rfl fl_11_26 rfl h (fun v1 h => ?_)
    exact r_aret rfl rfl ⟨Nat.le_of_ble_eq_true rfl, Nat.le_of_ble_eq_true rfl⟩ h
  · refine r_iload_n rfl rfl ?_
    refine r_bipush (v := 6) rfl (by decide) ?_
    refine r_ic_ge 19 rfl (by decide) h (fun h => ?_) (fun h => ?_)
    · refine r_aload_n rfl rfl ?_
      refine r_getR rfl fl_11_26 rfl h (fun v2 h => ?_)
      exact r_aret rfl rfl ⟨Nat.le_of_ble_eq_true rfl, Nat.le_of_ble_eq_true rfl⟩ h
    · refine r_aload_n rfl rfl ?_
      refine r_getR rfl fl_11_21 rfl h (fun v3 h => ?_)
      refine r_iload_n rfl rfl ?_
      refine r_aald7 rfl h (fun v4 h => ?_)
      refine r_goto 23 rfl (by decide) ?_
      exact r_aret rfl rfl ⟨Nat.le_of_ble_eq_true rfl, Nat.le_of_ble_eq_true rfl⟩ h
set_option maxRecDepth 20000 in
theorem dk_X1_hasCode : ∀ pc i, L_X1_hasCode[pc]? = some (some i) → decode prog_3_method_2_code pc = .ok i := dk_of (by decide +kernel)
theorem s_X1_hasCode {d : Nat} {P : Int32 → Mem → Prop} {r0 : Option Nat} {M : Mem} (h : FQ (f_X1_hasCode r0 M) P) : Con Y_X1_hasCode d 0 0 [va_rf r0] M (QI P) := by
  refine Con.of [some (va_rf r0)] (by decide +kernel) dk_X1_hasCode (by simp [Y_X1_hasCode, cat_rf, cat_i, cat_l]) (by simp [loE, Y_X1_hasCode, cat_rf, cat_i, cat_l, List.replicate]) ?_
  unfold f_X1_hasCode at h
  refine r_aload_n rfl rfl ?_
  refine r_getI rfl fl_1_13 rfl h (fun v1 h => ?_)
  refine r_aload_n rfl rfl ?_
  refine r_getI rfl fl_1_16 rfl h (fun v2 h => ?_)
  refine r_ic_le 15 rfl (by decide) h (fun h => ?_) (fun h => ?_)
  · refine r_iconst (v := 0) rfl (by decide) ?_
    exact r_zret rfl rfl ⟨Nat.le_of_ble_eq_true rfl, Nat.le_of_ble_eq_true rfl⟩ h
  · refine r_iconst (v := 1) rfl (by decide) ?_
    refine r_goto 16 rfl (by decide) ?_
    exact r_zret rfl rfl ⟨Nat.le_of_ble_eq_true rfl, Nat.le_of_ble_eq_true rfl⟩ h
set_option maxRecDepth 20000 in
theorem dk_X2_besideOf : ∀ pc i, L_X2_besideOf[pc]? = some (some i) → decode prog_4_method_6_code pc = .ok i := dk_of (by decide +kernel)
theorem s_X2_besideOf {d : Nat} {P : Int32 → Mem → Prop} {r0 : Option Nat} {i1 : Int32} {i2 : Int32} {M : Mem} (h : FQ (f_X2_besideOf r0 i1 i2 M) P) : Con Y_X2_besideOf d 0 0 [va_rf r0, .int i1, .int i2] M (QI P) := by
  refine Con.of [some (va_rf r0), some (.int i1), some (.int i2), none] (by decide +kernel) dk_X2_besideOf (by simp [Y_X2_besideOf, cat_rf, cat_i, cat_l]) (by simp [loE, Y_X2_besideOf, cat_rf, cat_i, cat_l, List.replicate]) ?_
  unfold f_X2_besideOf at h
  refine r_iload_n rfl rfl ?_
  refine r_iconst (v := 4) rfl (by decide) ?_
  refine r_imul rfl ?_
  refine r_iload_n rfl rfl ?_
  refine r_iadd rfl ?_
  refine r_istore_n (lo' := [some (va_rf r0), some (.int i1), some (.int i2), some (.int ((i1 * (4 : Int32)) + i2))]) rfl rfl rfl rfl ?_
  refine r_iload_n rfl rfl ?_
  refine r_if_lt 28 rfl (by decide) h (fun h => ?_) (fun h => ?_)
  · refine r_iconst (v := -1) rfl (by decide) ?_
    exact r_iret rfl rfl ⟨Nat.le_of_ble_eq_true rfl, Nat.le_of_ble_eq_true rfl⟩ h
  · refine r_iload_n rfl rfl ?_
    refine r_aload_n rfl rfl ?_
    refine r_getR rfl fl_2_28 rfl h (fun v1 h => ?_)
    refine r_alen rfl h (fun v2 h => ?_)
    refine r_ic_ge 28 rfl (by decide) h (fun h => ?_) (fun h => ?_)
    · refine r_iconst (v := -1) rfl (by decide) ?_
      exact r_iret rfl rfl ⟨Nat.le_of_ble_eq_true rfl, Nat.le_of_ble_eq_true rfl⟩ h
    · refine r_aload_n rfl rfl ?_
      refine r_getR rfl fl_2_28 rfl h (fun v3 h => ?_)
      refine r_iload_n rfl rfl ?_
      refine r_iald rfl h (fun v4 h => ?_)
      refine r_goto 29 rfl (by decide) ?_
      exact r_iret rfl rfl ⟨Nat.le_of_ble_eq_true rfl, Nat.le_of_ble_eq_true rfl⟩ h
