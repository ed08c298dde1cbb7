/-! walked by program (wip/gen): X12_judges X12_again X12_copies X12_pieces X12_back X12_cellOf X12_codeOf X12_bits X12_isOver X12_laysState -/
def L_X12_judges : List (Option (Instr × Nat)) := [some (.aload_n 0, 1), some (.invokevirtual 410, 3), none, none, some (.aload_n 0, 1), some (.getfield 106, 3), none, none, some (.iconst 0, 1), some (.aload_n 0, 1), some (.invokevirtual 467, 3), none, none, some (.lastore, 1), some (.aload_n 0, 1), some (.getfield 109, 3), none, none, some (.iconst 0, 1), some (.aload_n 0, 1), some (.invokevirtual 471, 3), none, none, some (.iastore, 1), some (.iconst 0, 1), some (.istore_n 1, 1), some (.iload_n 1, 1), some (.aload_n 0, 1), some (.getfield 7, 3), none, none, some (.iconst 5, 1), some (.iaload, 1), some (.if_icmp .ge 111, 3), none, none, some (.bipush 40, 2), none, some (.iconst 5, 1), some (.iload_n 1, 1), some (.imul, 1), some (.iadd, 1), some (.istore_n 2, 1), some (.aload_n 0, 1), some (.invokevirtual 422, 3), none, none, some (.aload_n 0, 1), some (.aload_n 0, 1), some (.getfield 7, 3), none, none, some (.iload_n 2, 1), some (.iaload, 1), some (.aload_n 0, 1), some (.getfield 7, 3), none, none, some (.iload_n 2, 1), some (.iconst 1, 1), some (.iadd, 1), some (.iaload, 1), some (.aload_n 0, 1), some (.getfield 7, 3), none, none, some (.iload_n 2, 1), some (.iconst 2, 1), some (.iadd, 1), some (.iaload, 1), some (.aload_n 0, 1), some (.getfield 7, 3), none, none, some (.iload_n 2, 1), some (.iconst 3, 1), some (.iadd, 1), some (.iaload, 1), some (.aload_n 0, 1), some (.getfield 7, 3), none, none, some (.iload_n 2, 1), some (.iconst 4, 1), some (.iadd, 1), some (.iaload, 1), some (.invokevirtual 432, 3), none, none, some (.ifCond .ne 5, 3), none, none, some (.iload_n 1, 1), some (.ireturn, 1), some (.aload_n 0, 1), some (.aload_n 0, 1), some (.getfield 7, 3), none, none, some (.iload_n 2, 1), some (.iconst 3, 1), some (.iadd, 1), some (.iaload, 1), some (.aload_n 0, 1), some (.getfield 7, 3), none, none, some (.iload_n 2, 1), some (.iconst 4, 1), some (.iadd, 1), some (.iaload, 1), some (.invokevirtual 436, 3), none, none, some (.aload_n 0, 1), some (.getfield 106, 3), none, none, some (.iload_n 1, 1), some (.iconst 1, 1), some (.iadd, 1), some (.aload_n 0, 1), some (.invokevirtual 467, 3), none, none, some (.lastore, 1), some (.aload_n 0, 1), some (.getfield 109, 3), none, none, some (.iload_n 1, 1), some (.iconst 1, 1), some (.iadd, 1), some (.aload_n 0, 1), some (.invokevirtual 471, 3), none, none, some (.iastore, 1), some (.iinc 1 1, 3), none, none, some (.goto (-115), 3), none, none, some (.iconst (-1), 1), some (.ireturn, 1)]
def Y_X12_judges : YM := (⟨RX12, "judges", "()I"⟩, prog_14_method_82_code, L_X12_judges, 3, some .int)
def b_X12_judges_26 (q26 : Option Nat → Int32 → Mem → Option (Int32 × Mem)) (r0 : Option Nat) (i1 : Int32) (M : Mem) : Option (Int32 × Mem) :=
gR M r0 12 3 fun v1 =>
aI M v1 2 (5 : Int32) fun v2 =>
(if v2 ≤ i1 then
some ((-1 : Int32), M)
else
cR M r0 (1, 12) (cA (f_X12_laysMoves r0 M) fun _ M1 =>
gR M1 r0 12 3 fun v3 =>
aI M1 v3 2 ((40 : Int32) + ((5 : Int32) * i1)) fun v4 =>
gR M1 r0 12 3 fun v5 =>
aI M1 v5 2 (((40 : Int32) + ((5 : Int32) * i1)) + (1 : Int32)) fun v6 =>
gR M1 r0 12 3 fun v7 =>
aI M1 v7 2 (((40 : Int32) + ((5 : Int32) * i1)) + (2 : Int32)) fun v8 =>
gR M1 r0 12 3 fun v9 =>
aI M1 v9 2 (((40 : Int32) + ((5 : Int32) * i1)) + (3 : Int32)) fun v10 =>
gR M1 r0 12 3 fun v11 =>
aI M1 v11 2 (((40 : Int32) + ((5 : Int32) * i1)) + (4 : Int32)) fun v12 =>
cR M1 r0 (1, 12) (cA (f_X12_canPly r0 v4 v6 v8 v10 v12 M1) fun v13 M2 =>
(if v13 = 0 then
some (i1, M2)
else
gR M2 r0 12 3 fun v14 =>
aI M2 v14 2 (((40 : Int32) + ((5 : Int32) * i1)) + (3 : Int32)) fun v15 =>
gR M2 r0 12 3 fun v16 =>
aI M2 v16 2 (((40 : Int32) + ((5 : Int32) * i1)) + (4 : Int32)) fun v17 =>
cR M2 r0 (1, 12) (cA (f_X12_plays r0 v15 v17 M2) fun _ M3 =>
gR M3 r0 12 55 fun v18 =>
cR M3 r0 (1, 12) (cA (f_X12_boardCode r0 M3) fun v19 M4 =>
wL M4 v18 (i1 + (1 : Int32)) v19 fun M5 =>
gR M5 r0 12 56 fun v20 =>
cR M5 r0 (1, 12) (cA (f_X12_heapCode r0 M5) fun v21 M6 =>
wI M6 v20 2 (i1 + (1 : Int32)) v21 fun M7 =>
q26 r0 (i1 + (1 : Int32)) M7)))))))
def f_X12_judges_26 (n : Nat) : Option Nat → Int32 → Mem → Option (Int32 × Mem) := lpN (fun _ _ _ => none) (b_X12_judges_26 ) n
def f_X12_judges (r0 : Option Nat) (M : Mem) : Option (Int32 × Mem) :=
cR M r0 (1, 12) (cA (f_X12_laysNow r0 M) fun _ M1 =>
gR M1 r0 12 55 fun v1 =>
cR M1 r0 (1, 12) (cA (f_X12_boardCode r0 M1) fun v2 M2 =>
wL M2 v1 (0 : Int32) v2 fun M3 =>
gR M3 r0 12 56 fun v3 =>
cR M3 r0 (1, 12) (cA (f_X12_heapCode r0 M3) fun v4 M4 =>
wI M4 v3 2 (0 : Int32) v4 fun M5 =>
f_X12_judges_26 FU r0 (0 : Int32) M5)))
def L_X12_again : List (Option (Instr × Nat)) := [some (.aload_n 0, 1), some (.invokevirtual 474, 3), none, none, some (.istore_n 1, 1), some (.iload_n 1, 1), some (.iconst (-1), 1), some (.if_icmp .ne 12, 3), none, none, some (.aload_n 0, 1), some (.getfield 7, 3), none, none, some (.iconst 5, 1), some (.iaload, 1), some (.goto 4, 3), none, none, some (.iload_n 1, 1), some (.istore_n 2, 1), some (.iconst 0, 1), some (.istore_n 3, 1), some (.iload_n 3, 1), some (.iload_n 2, 1), some (.if_icmp .ge 63, 3), none, none, some (.iconst 0, 1), some (.istore 4, 2), none, some (.iload 4, 2), none, some (.iload_n 3, 1), some (.if_icmp .gt 48, 3), none, none, some (.aload_n 0, 1), some (.getfield 106, 3), none, none, some (.iload 4, 2), none, some (.laload, 1), some (.aload_n 0, 1), some (.getfield 106, 3), none, none, some (.iload_n 3, 1), some (.iconst 1, 1), some (.iadd, 1), some (.laload, 1), some (.lcmp, 1), some (.ifCond .ne 23, 3), none, none, some (.aload_n 0, 1), some (.getfield 109, 3), none, none, some (.iload 4, 2), none, some (.iaload, 1), some (.aload_n 0, 1), some (.getfield 109, 3), none, none, some (.iload_n 3, 1), some (.iconst 1, 1), some (.iadd, 1), some (.iaload, 1), some (.if_icmp .eq 5, 3), none, none, some (.iload_n 3, 1), some (.ireturn, 1), some (.iinc 4 1, 3), none, none, some (.goto (-48), 3), none, none, some (.iinc 3 1, 3), none, none, some (.goto (-62), 3), none, none, some (.iconst (-1), 1), some (.ireturn, 1)]
def Y_X12_again : YM := (⟨RX12, "again", "()I"⟩, prog_14_method_84_code, L_X12_again, 5, some .int)
def b_X12_again_31 (q23 : Option Nat → Int32 → Int32 → Mem → Option (Int32 × Mem)) (q31 : Option Nat → Int32 → Int32 → Int32 → Mem → Option (Int32 × Mem)) (r0 : Option Nat) (i2 : Int32) (i3 : Int32) (i4 : Int32) (M : Mem) : Option (Int32 × Mem) :=
(if i3 < i4 then
q23 r0 i2 (i3 + (1 : Int32)) M
else
gR M r0 12 55 fun v1 =>
aL M v1 i4 fun v2 =>
gR M r0 12 55 fun v3 =>
aL M v3 (i3 + (1 : Int32)) fun v4 =>
(if (lg_cmp v2 v4) = 0 then
gR M r0 12 56 fun v5 =>
aI M v5 2 i4 fun v6 =>
gR M r0 12 56 fun v7 =>
aI M v7 2 (i3 + (1 : Int32)) fun v8 =>
(if v6 = v8 then
q31 r0 i2 i3 (i4 + (1 : Int32)) M
else
some (i3, M))
else
q31 r0 i2 i3 (i4 + (1 : Int32)) M))
def f_X12_again_31 (q23 : Option Nat → Int32 → Int32 → Mem → Option (Int32 × Mem)) (n : Nat) : Option Nat → Int32 → Int32 → Int32 → Mem → Option (Int32 × Mem) := lpN (fun _ _ _ _ _ => none) (b_X12_again_31 q23) n
def b_X12_again_23 (q23 : Option Nat → Int32 → Int32 → Mem → Option (Int32 × Mem)) (r0 : Option Nat) (i2 : Int32) (i3 : Int32) (M : Mem) : Option (Int32 × Mem) :=
(if i2 ≤ i3 then
some ((-1 : Int32), M)
else
f_X12_again_31 q23 FU r0 i2 i3 (0 : Int32) M)
def f_X12_again_23 (n : Nat) : Option Nat → Int32 → Int32 → Mem → Option (Int32 × Mem) := lpN (fun _ _ _ _ => none) (b_X12_again_23 ) n
def f_X12_again (r0 : Option Nat) (M : Mem) : Option (Int32 × Mem) :=
cR M r0 (1, 12) (cA (f_X12_judges r0 M) fun v1 M1 =>
(if v1 = (-1 : Int32) then
gR M1 r0 12 3 fun v2 =>
aI M1 v2 2 (5 : Int32) fun v3 =>
f_X12_again_23 FU r0 v3 (0 : Int32) M1
else
f_X12_again_23 FU r0 v1 (0 : Int32) M1))
def L_X12_copies : List (Option (Instr × Nat)) := [some (.iconst 0, 1), some (.istore_n 2, 1), some (.iload_n 2, 1), some (.sipush 240, 3), none, none, some (.if_icmp .ge 40, 3), none, none, some (.iload_n 1, 1), some (.ifCond .eq 18, 3), none, none, some (.aload_n 0, 1), some (.getfield 13, 3), none, none, some (.iload_n 2, 1), some (.aload_n 0, 1), some (.getfield 7, 3), none, none, some (.iload_n 2, 1), some (.iaload, 1), some (.iastore, 1), some (.goto 15, 3), none, none, some (.aload_n 0, 1), some (.getfield 7, 3), none, none, some (.iload_n 2, 1), some (.aload_n 0, 1), some (.getfield 13, 3), none, none, some (.iload_n 2, 1), some (.iaload, 1), some (.iastore, 1), some (.iinc 2 1, 3), none, none, some (.goto (-41), 3), none, none, some (.return_, 1)]
def Y_X12_copies : YM := (⟨RX12, "copies", "(Z)V"⟩, prog_14_method_3_code, L_X12_copies, 3, none)
def b_X12_copies_2 (q2 : Option Nat → Int32 → Int32 → Mem → Option (Unit × Mem)) (r0 : Option Nat) (i1 : Int32) (i2 : Int32) (M : Mem) : Option (Unit × Mem) :=
(if (240 : Int32) ≤ i2 then
some ((), M)
else
(if i1 = 0 then
gR M r0 12 3 fun v1 =>
gR M r0 12 4 fun v2 =>
aI M v2 2 i2 fun v3 =>
wI M v1 2 i2 v3 fun M1 =>
q2 r0 i1 (i2 + (1 : Int32)) M1
else
gR M r0 12 4 fun v4 =>
gR M r0 12 3 fun v5 =>
aI M v5 2 i2 fun v6 =>
wI M v4 2 i2 v6 fun M2 =>
q2 r0 i1 (i2 + (1 : Int32)) M2))
def f_X12_copies_2 (n : Nat) : Option Nat → Int32 → Int32 → Mem → Option (Unit × Mem) := lpN (fun _ _ _ _ => none) (b_X12_copies_2 ) n
def f_X12_copies (r0 : Option Nat) (i1 : Int32) (M : Mem) : Option (Unit × Mem) :=
f_X12_copies_2 FU r0 i1 (0 : Int32) M
def L_X12_pieces : List (Option (Instr × Nat)) := [some (.aload_n 0, 1), some (.invokevirtual 410, 3), none, none, some (.aload_n 0, 1), some (.iconst 0, 1), some (.invokevirtual 358, 3), none, none, some (.aload_n 0, 1), some (.iconst 1, 1), some (.invokevirtual 358, 3), none, none, some (.iadd, 1), some (.ireturn, 1)]
def Y_X12_pieces : YM := (⟨RX12, "pieces", "()I"⟩, prog_14_method_112_code, L_X12_pieces, 1, some .int)
def f_X12_pieces (r0 : Option Nat) (M : Mem) : Option (Int32 × Mem) :=
cR M r0 (1, 12) (cA (f_X12_laysNow r0 M) fun _ M1 =>
cR M1 r0 (1, 12) (cA (f_X12_piecesOf r0 (0 : Int32) M1) fun v1 M2 =>
cR M2 r0 (1, 12) (cA (f_X12_piecesOf r0 (1 : Int32) M2) fun v2 M3 =>
some ((v1 + v2), M3))))
def L_X12_back : List (Option (Instr × Nat)) := [some (.aload_n 0, 1), some (.iconst 0, 1), some (.invokevirtual 147, 3), none, none, some (.aload_n 0, 1), some (.invokevirtual 557, 3), none, none, some (.ireturn, 1)]
def Y_X12_back : YM := (⟨RX12, "back", "()I"⟩, prog_14_method_114_code, L_X12_back, 1, some .int)
def f_X12_back (r0 : Option Nat) (M : Mem) : Option (Int32 × Mem) :=
cR M r0 (1, 12) (cA (f_X12_copies r0 (0 : Int32) M) fun _ M1 =>
cR M1 r0 (1, 12) (cA (f_X12_pieces r0 M1) fun v1 M2 =>
some (v1, M2)))
def L_X12_cellOf : List (Option (Instr × Nat)) := [some (.lload_n 1, 1), some (.lload_n 1, 1), some (.bipush 21, 2), none, some (.lshr, 1), some (.lxor, 1), some (.ldc2_w 490, 3), none, none, some (.lmul, 1), some (.ldc2_w 492, 3), none, none, some (.lrem, 1), some (.l2i, 1), some (.istore_n 3, 1), some (.iload_n 3, 1), some (.ifCond .ge 11, 3), none, none, some (.iload_n 3, 1), some (.sipush 8192, 3), none, none, some (.iadd, 1), some (.goto 4, 3), none, none, some (.iload_n 3, 1), some (.istore_n 3, 1), some (.aload_n 0, 1), some (.getfield 128, 3), none, none, some (.iload_n 3, 1), some (.iaload, 1), some (.iconst (-1), 1), some (.if_icmp .eq 30, 3), none, none, some (.aload_n 0, 1), some (.getfield 112, 3), none, none, some (.aload_n 0, 1), some (.getfield 128, 3), none, none, some (.iload_n 3, 1), some (.iaload, 1), some (.laload, 1), some (.lload_n 1, 1), some (.lcmp, 1), some (.ifCond .eq 14, 3), none, none, some (.iload_n 3, 1), some (.iconst 1, 1), some (.iadd, 1), some (.sipush 8192, 3), none, none, some (.irem, 1), some (.istore_n 3, 1), some (.goto (-34), 3), none, none, some (.iload_n 3, 1), some (.ireturn, 1)]
def Y_X12_cellOf : YM := (⟨RX12, "cellOf", "(J)I"⟩, prog_14_method_91_code, L_X12_cellOf, 4, some .int)
def b_X12_cellOf_30 (q30 : Option Nat → Int64 → Int32 → Mem → Option (Int32 × Mem)) (r0 : Option Nat) (l1 : Int64) (i3 : Int32) (M : Mem) : Option (Int32 × Mem) :=
gR M r0 12 64 fun v1 =>
aI M v1 2 i3 fun v2 =>
(if v2 = (-1 : Int32) then
some (i3, M)
else
gR M r0 12 59 fun v3 =>
gR M r0 12 64 fun v4 =>
aI M v4 2 i3 fun v5 =>
aL M v3 v5 fun v6 =>
(if (lg_cmp v6 l1) = 0 then
some (i3, M)
else
nzI (8192 : Int32) (
q30 r0 l1 ((i3 + (1 : Int32)) - (i3 + (1 : Int32)) / (8192 : Int32) * (8192 : Int32)) M)))
def f_X12_cellOf_30 (n : Nat) : Option Nat → Int64 → Int32 → Mem → Option (Int32 × Mem) := lpN (fun _ _ _ _ => none) (b_X12_cellOf_30 ) n
def f_X12_cellOf (r0 : Option Nat) (l1 : Int64) (M : Mem) : Option (Int32 × Mem) :=
nzL (8192 : Int64) (
(if 0 ≤ (((l1 ^^^ (l1 >>> ((21 : Int32).toInt64 &&& 63))) * (31 : Int64)) - ((l1 ^^^ (l1 >>> ((21 : Int32).toInt64 &&& 63))) * (31 : Int64)) / (8192 : Int64) * (8192 : Int64)).toInt32 then
f_X12_cellOf_30 FU r0 l1 (((l1 ^^^ (l1 >>> ((21 : Int32).toInt64 &&& 63))) * (31 : Int64)) - ((l1 ^^^ (l1 >>> ((21 : Int32).toInt64 &&& 63))) * (31 : Int64)) / (8192 : Int64) * (8192 : Int64)).toInt32 M
else
f_X12_cellOf_30 FU r0 l1 ((((l1 ^^^ (l1 >>> ((21 : Int32).toInt64 &&& 63))) * (31 : Int64)) - ((l1 ^^^ (l1 >>> ((21 : Int32).toInt64 &&& 63))) * (31 : Int64)) / (8192 : Int64) * (8192 : Int64)).toInt32 + (8192 : Int32)) M))
def L_X12_codeOf : List (Option (Instr × Nat)) := [some (.aload_n 0, 1), some (.invokevirtual 467, 3), none, none, some (.ldc2_w 486, 3), none, none, some (.lmul, 1), some (.aload_n 0, 1), some (.invokevirtual 471, 3), none, none, some (.i2l, 1), some (.ladd, 1), some (.lreturn, 1)]
def Y_X12_codeOf : YM := (⟨RX12, "codeOf", "()J"⟩, prog_14_method_89_code, L_X12_codeOf, 1, some .long)
def f_X12_codeOf (r0 : Option Nat) (M : Mem) : Option (Int64 × Mem) :=
cR M r0 (1, 12) (cA (f_X12_boardCode r0 M) fun v1 M1 =>
cR M1 r0 (1, 12) (cA (f_X12_heapCode r0 M1) fun v2 M2 =>
some (((v1 * (65536 : Int64)) + v2.toInt64), M2)))
def L_X12_bits : List (Option (Instr × Nat)) := [some (.iconst 0, 1), some (.istore_n 1, 1), some (.iconst 0, 1), some (.istore_n 2, 1), some (.iload_n 2, 1), some (.bipush 8, 2), none, some (.if_icmp .ge 17, 3), none, none, some (.iload_n 1, 1), some (.iload_n 0, 1), some (.iload_n 2, 1), some (.ishr, 1), some (.iconst 1, 1), some (.iand, 1), some (.iadd, 1), some (.istore_n 1, 1), some (.iinc 2 1, 3), none, none, some (.goto (-17), 3), none, none, some (.iload_n 1, 1), some (.ireturn, 1)]
def Y_X12_bits : YM := (⟨RX12, "bits", "(I)I"⟩, prog_14_method_60_code, L_X12_bits, 3, some .int)
def b_X12_bits_4 (q4 : Int32 → Int32 → Int32 → Mem → Option (Int32 × Mem)) (i0 : Int32) (i1 : Int32) (i2 : Int32) (M : Mem) : Option (Int32 × Mem) :=
(if (8 : Int32) ≤ i2 then
some (i1, M)
else
q4 i0 (i1 + ((i0 >>> (i2 &&& 31)) &&& (1 : Int32))) (i2 + (1 : Int32)) M)
def f_X12_bits_4 (n : Nat) : Int32 → Int32 → Int32 → Mem → Option (Int32 × Mem) := lpN (fun _ _ _ _ => none) (b_X12_bits_4 ) n
def f_X12_bits (i0 : Int32) (M : Mem) : Option (Int32 × Mem) :=
f_X12_bits_4 FU i0 (0 : Int32) (0 : Int32) M
def L_X12_isOver : List (Option (Instr × Nat)) := [some (.aload_n 0, 1), some (.getfield 401, 3), none, none, some (.invokestatic 407, 3), none, none, some (.iconst 3, 1), some (.if_icmp .ge 7, 3), none, none, some (.iconst 1, 1), some (.goto 4, 3), none, none, some (.iconst 0, 1), some (.ireturn, 1)]
def Y_X12_isOver : YM := (⟨RX12, "isOver", "()Z"⟩, prog_14_method_61_code, L_X12_isOver, 1, some .boolean)
def f_X12_isOver (r0 : Option Nat) (M : Mem) : Option (Int32 × Mem) :=
gI M r0 12 49 fun v1 =>
cA (f_X12_bits v1 M) fun v2 M1 =>
(if (3 : Int32) ≤ v2 then
tv (0 : Int32) (some ((0 : Int32), M1))
else
tv (1 : Int32) (some ((1 : Int32), M1)))
def L_X12_laysState : List (Option (Instr × Nat)) := [some (.lload_n 1, 1), some (.lstore_n 3, 1), some (.bipush 7, 2), none, some (.istore 5, 2), none, some (.iload 5, 2), none, some (.ifCond .lt 28, 3), none, none, some (.aload_n 0, 1), some (.getfield 91, 3), none, none, some (.iload 5, 2), none, some (.lload_n 3, 1), some (.ldc2_w 488, 3), none, none, some (.lrem, 1), some (.l2i, 1), some (.iastore, 1), some (.lload_n 3, 1), some (.ldc2_w 488, 3), none, none, some (.ldiv, 1), some (.lstore_n 3, 1), some (.iinc 5 (-1), 3), none, none, some (.goto (-27), 3), none, none, some (.aload_n 0, 1), some (.getfield 144, 3), none, none, some (.iconst 1, 1), some (.isub, 1), some (.istore 5, 2), none, some (.iload 5, 2), none, some (.ifCond .lt 28, 3), none, none, some (.aload_n 0, 1), some (.getfield 88, 3), none, none, some (.iload 5, 2), none, some (.lload_n 3, 1), some (.ldc2_w 465, 3), none, none, some (.lrem, 1), some (.l2i, 1), some (.iastore, 1), some (.lload_n 3, 1), some (.ldc2_w 465, 3), none, none, some (.ldiv, 1), some (.lstore_n 3, 1), some (.iinc 5 (-1), 3), none, none, some (.goto (-27), 3), none, none, some (.aload_n 0, 1), some (.lload_n 3, 1), some (.l2i, 1), some (.putfield 355, 3), none, none, some (.return_, 1)]
def Y_X12_laysState : YM := (⟨RX12, "laysState", "(J)V"⟩, prog_14_method_90_code, L_X12_laysState, 6, none)
def b_X12_laysState_44 (q44 : Option Nat → Int64 → Int32 → Mem → Option (Unit × Mem)) (r0 : Option Nat) (l3 : Int64) (i5 : Int32) (M : Mem) : Option (Unit × Mem) :=
(if i5 < 0 then
pI M r0 12 45 l3.toInt32 fun M1 =>
some ((), M1)
else
gR M r0 12 43 fun v1 =>
nzL (9 : Int64) (
wI M v1 2 i5 (l3 - l3 / (9 : Int64) * (9 : Int64)).toInt32 fun M2 =>
nzL (9 : Int64) (
q44 r0 (l3 / (9 : Int64)) (i5 + (-1 : Int32)) M2)))
def f_X12_laysState_44 (n : Nat) : Option Nat → Int64 → Int32 → Mem → Option (Unit × Mem) := lpN (fun _ _ _ _ => none) (b_X12_laysState_44 ) n
def b_X12_laysState_6 (q6 : Option Nat → Int64 → Int32 → Mem → Option (Unit × Mem)) (r0 : Option Nat) (l3 : Int64) (i5 : Int32) (M : Mem) : Option (Unit × Mem) :=
(if i5 < 0 then
gI M r0 12 2 fun v1 =>
f_X12_laysState_44 FU r0 l3 (v1 - (1 : Int32)) M
else
gR M r0 12 44 fun v2 =>
nzL (4 : Int64) (
wI M v2 2 i5 (l3 - l3 / (4 : Int64) * (4 : Int64)).toInt32 fun M1 =>
nzL (4 : Int64) (
q6 r0 (l3 / (4 : Int64)) (i5 + (-1 : Int32)) M1)))
def f_X12_laysState_6 (n : Nat) : Option Nat → Int64 → Int32 → Mem → Option (Unit × Mem) := lpN (fun _ _ _ _ => none) (b_X12_laysState_6 ) n
def f_X12_laysState (r0 : Option Nat) (l1 : Int64) (M : Mem) : Option (Unit × Mem) :=
f_X12_laysState_6 FU r0 l1 (7 : Int32) M
set_option maxRecDepth 30000 in
theorem ok_X12_laysMoves : okY Y_X12_laysMoves := ⟨(gw_in 1575 rfl rfl), (gw_in 14 (by decide +kernel) (by decide +kernel)), by decide +kernel, by decide +kernel⟩
theorem ml_12_422 : MLv RX12 422 Y_X12_laysMoves 0 := ⟨(gw_in 1572 (by decide +kernel) (by decide +kernel)), (gw_in 1574 (by decide +kernel) (by decide +kernel)), (gw_sel (n := 70) 85 (by decide +kernel) (by decide +kernel)), ok_X12_laysMoves, by decide +kernel⟩
set_option maxRecDepth 30000 in
theorem ok_X12_canPly : okY Y_X12_canPly := ⟨(gw_in 1595 rfl rfl), (gw_in 14 (by decide +kernel) (by decide +kernel)), by decide +kernel, by decide +kernel⟩
theorem ml_12_432 : MLv RX12 432 Y_X12_canPly 5 := ⟨(gw_in 1592 (by decide +kernel) (by decide +kernel)), (gw_in 1594 (by decide +kernel) (by decide +kernel)), (gw_sel (n := 70) 89 (by decide +kernel) (by decide +kernel)), ok_X12_canPly, by decide +kernel⟩
set_option maxRecDepth 30000 in
theorem ok_X12_plays : okY Y_X12_plays := ⟨(gw_in 1602 rfl rfl), (gw_in 14 (by decide +kernel) (by decide +kernel)), by decide +kernel, by decide +kernel⟩
theorem ml_12_436 : MLv RX12 436 Y_X12_plays 2 := ⟨(gw_in 1599 (by decide +kernel) (by decide +kernel)), (gw_in 1601 (by decide +kernel) (by decide +kernel)), (gw_sel (n := 70) 90 (by decide +kernel) (by decide +kernel)), ok_X12_plays, by decide +kernel⟩
theorem fl_12_106 : FLk RX12 106 12 55 true := ⟨_, rfl, by decide, (gw_in 1171 (by decide +kernel) (by decide +kernel)), rfl⟩
set_option maxRecDepth 30000 in
theorem ok_X12_boardCode : okY Y_X12_boardCode := ⟨(gw_in 1661 rfl rfl), (gw_in 14 (by decide +kernel) (by decide +kernel)), by decide +kernel, by decide +kernel⟩
theorem ml_12_467 : MLv RX12 467 Y_X12_boardCode 0 := ⟨(gw_in 1658 (by decide +kernel) (by decide +kernel)), (gw_in 1660 (by decide +kernel) (by decide +kernel)), (gw_sel (n := 70) 100 (by decide +kernel) (by decide +kernel)), ok_X12_boardCode, by decide +kernel⟩
theorem fl_12_109 : FLk RX12 109 12 56 true := ⟨_, rfl, by decide, (gw_in 1172 (by decide +kernel) (by decide +kernel)), rfl⟩
set_option maxRecDepth 30000 in
theorem ok_X12_heapCode : okY Y_X12_heapCode := ⟨(gw_in 1666 rfl rfl), (gw_in 14 (by decide +kernel) (by decide +kernel)), by decide +kernel, by decide +kernel⟩
theorem ml_12_471 : MLv RX12 471 Y_X12_heapCode 0 := ⟨(gw_in 1663 (by decide +kernel) (by decide +kernel)), (gw_in 1665 (by decide +kernel) (by decide +kernel)), (gw_sel (n := 70) 101 (by decide +kernel) (by decide +kernel)), ok_X12_heapCode, by decide +kernel⟩
set_option maxRecDepth 30000 in
theorem ok_X12_laysNow : okY Y_X12_laysNow := ⟨(gw_in 1515 rfl rfl), (gw_in 14 (by decide +kernel) (by decide +kernel)), by decide +kernel, by decide +kernel⟩
theorem ml_12_410 : MLv RX12 410 Y_X12_laysNow 0 := ⟨(gw_in 1512 (by decide +kernel) (by decide +kernel)), (gw_in 1514 (by decide +kernel) (by decide +kernel)), (gw_sel (n := 70) 73 (by decide +kernel) (by decide +kernel)), ok_X12_laysNow, by decide +kernel⟩
set_option maxRecDepth 30000 in
theorem ok_X12_judges : okY Y_X12_judges := ⟨(gw_in 1657 rfl rfl), (gw_in 14 (by decide +kernel) (by decide +kernel)), by decide +kernel, by decide +kernel⟩
theorem ml_12_474 : MLv RX12 474 Y_X12_judges 0 := ⟨(gw_in 1654 (by decide +kernel) (by decide +kernel)), (gw_in 1656 (by decide +kernel) (by decide +kernel)), (gw_sel (n := 70) 99 (by decide +kernel) (by decide +kernel)), ok_X12_judges, by decide +kernel⟩
theorem fl_12_13 : FLk RX12 13 12 4 true := ⟨_, rfl, by decide, (gw_in 1120 (by decide +kernel) (by decide +kernel)), rfl⟩
set_option maxRecDepth 30000 in
theorem ok_X12_copies : okY Y_X12_copies := ⟨(gw_in 1115 rfl rfl), (gw_in 14 (by decide +kernel) (by decide +kernel)), by decide +kernel, by decide +kernel⟩
theorem ml_12_147 : MLv RX12 147 Y_X12_copies 1 := ⟨(gw_in 1112 (by decide +kernel) (by decide +kernel)), (gw_in 1114 (by decide +kernel) (by decide +kernel)), (gw_sel (n := 70) 46 (by decide +kernel) (by decide +kernel)), ok_X12_copies, by decide +kernel⟩
set_option maxRecDepth 30000 in
theorem ok_X12_pieces : okY Y_X12_pieces := ⟨(gw_in 1789 rfl rfl), (gw_in 14 (by decide +kernel) (by decide +kernel)), by decide +kernel, by decide +kernel⟩
theorem ml_12_557 : MLv RX12 557 Y_X12_pieces 0 := ⟨(gw_in 1786 (by decide +kernel) (by decide +kernel)), (gw_in 1788 (by decide +kernel) (by decide +kernel)), (gw_sel (n := 70) 118 (by decide +kernel) (by decide +kernel)), ok_X12_pieces, by decide +kernel⟩
theorem fl_12_128 : FLk RX12 128 12 64 true := ⟨_, rfl, by decide, (gw_in 1180 (by decide +kernel) (by decide +kernel)), rfl⟩
theorem fl_12_112 : FLk RX12 112 12 59 true := ⟨_, rfl, by decide, (gw_in 1175 (by decide +kernel) (by decide +kernel)), rfl⟩
theorem kl_12_490 : Jvm.Cond.constantLong RX12 490 (31) ∈ gw := gw_in 1704 (by decide +kernel) (by decide +kernel)
theorem kl_12_492 : Jvm.Cond.constantLong RX12 492 (8192) ∈ gw := gw_in 1705 (by decide +kernel) (by decide +kernel)
theorem kl_12_486 : Jvm.Cond.constantLong RX12 486 (65536) ∈ gw := gw_in 1699 (by decide +kernel) (by decide +kernel)
set_option maxRecDepth 30000 in
theorem ok_X12_bits : okY Y_X12_bits := ⟨(gw_in 1621 rfl rfl), (gw_in 14 (by decide +kernel) (by decide +kernel)), by decide +kernel, by decide +kernel⟩
theorem ml_12_407 : MLs RX12 407 Y_X12_bits 1 := ⟨(gw_in 1619 (by decide +kernel) (by decide +kernel)), (gw_in 1620 (by decide +kernel) (by decide +kernel)), ok_X12_bits, by decide +kernel⟩
theorem kl_12_488 : Jvm.Cond.constantLong RX12 488 (4) ∈ gw := gw_in 1710 (by decide +kernel) (by decide +kernel)
set_option maxRecDepth 20000 in
theorem dk_X12_judges : ∀ pc i, L_X12_judges[pc]? = some (some i) → decode prog_14_method_82_code pc = .ok i := dk_of (by decide +kernel)
theorem sb_X12_judges_26 {d : Nat} {P : Int32 → Mem → Prop} {q26 : Option Nat → Int32 → Mem → Option (Int32 × Mem)} (hq26 : ∀ (r0 : Option Nat) (i1 : Int32) (M : Mem), FQ (q26 r0 i1 M) P → wp Y_X12_judges (rmD (d + 7) 0 0) (FM (QI P) 0 0) 0 0 26 [some (va_rf r0), some (.int i1), none] [] M) (r0 : Option Nat) (i1 : Int32) (M : Mem) (h : FQ (b_X12_judges_26 q26 r0 i1 M) P) : wp Y_X12_judges (rmD (d + 7) 0 0) (FM (QI P) 0 0) 0 0 26 [some (va_rf r0), some (.int i1), none] [] M := by
  unfold b_X12_judges_26 at h
  refine r_iload_n rfl rfl ?_
  refine r_aload_n rfl rfl ?_
  refine r_getR rfl fl_12_7 rfl h (fun v1 h => ?_)
  refine r_iconst (v := 5) rfl (by decide) ?_
  refine r_iald rfl h (fun v2 h => ?_)
  refine r_ic_ge 144 rfl (by decide) h (fun h => ?_) (fun h => ?_)
  · refine r_iconst (v := -1) rfl (by decide) ?_
    exact r_iret rfl rfl ⟨Nat.le_of_ble_eq_true rfl, Nat.le_of_ble_eq_true rfl⟩ h
  · refine r_bipush (v := 40) rfl (by decide) ?_
    refine r_iconst (v := 5) rfl (by decide) ?_
    refine r_iload_n rfl rfl ?_
    refine r_imul rfl ?_
    refine r_iadd rfl ?_
    refine r_istore_n (lo' := [some (va_rf r0), some (.int i1), some (.int ((40 : Int32) + ((5 : Int32) * i1)))]) rfl rfl rfl rfl ?_
    refine r_aload_n rfl rfl ?_
    refine r_cv_v (vs := []) rfl ml_12_422 rfl (rOk.of rfl) ⟨Nat.zero_le _, Nat.zero_le _⟩ rfl rfl rfl h s_X12_laysMoves (fun _ M1 h => ?_)
    refine r_aload_n rfl rfl ?_
    refine r_aload_n rfl rfl ?_
    refine r_getR rfl fl_12_7 rfl h (fun v3 h => ?_)
    refine r_iload_n rfl rfl ?_
    refine r_iald rfl h (fun v4 h => ?_)
    refine r_aload_n rfl rfl ?_
    refine r_getR rfl fl_12_7 rfl h (fun v5 h => ?_)
    refine r_iload_n rfl rfl ?_
    refine r_iconst (v := 1) rfl (by decide) ?_
    refine r_iadd rfl ?_
    refine r_iald rfl h (fun v6 h => ?_)
    refine r_aload_n rfl rfl ?_
    refine r_getR rfl fl_12_7 rfl h (fun v7 h => ?_)
    refine r_iload_n rfl rfl ?_
    refine r_iconst (v := 2) rfl (by decide) ?_
    refine r_iadd rfl ?_
    refine r_iald rfl h (fun v8 h => ?_)
    refine r_aload_n rfl rfl ?_
    refine r_getR rfl fl_12_7 rfl h (fun v9 h => ?_)
    refine r_iload_n rfl rfl ?_
    refine r_iconst (v := 3) rfl (by decide) ?_
    refine r_iadd rfl ?_
    refine r_iald rfl h (fun v10 h => ?_)
    refine r_aload_n rfl rfl ?_
    refine r_getR rfl fl_12_7 rfl h (fun v11 h => ?_)
    refine r_iload_n rfl rfl ?_
    refine r_iconst (v := 4) rfl (by decide) ?_
    refine r_iadd rfl ?_
    refine r_iald rfl h (fun v12 h => ?_)
    refine r_cv_i (vs := [.int v4, .int v6, .int v8, .int v10, .int v12]) rfl ml_12_432 rfl (rOk.of rfl) ⟨Nat.zero_le _, Nat.zero_le _⟩ rfl rfl rfl h s_X12_canPly (fun v13 M2 h => ?_)
    refine r_if_ne 94 rfl (by decide) h (fun h => ?_) (fun h => ?_)
    · refine r_iload_n rfl rfl ?_
      exact r_iret rfl rfl ⟨Nat.le_of_ble_eq_true rfl, Nat.le_of_ble_eq_true rfl⟩ h
    · refine r_aload_n rfl rfl ?_
      refine r_aload_n rfl rfl ?_
      refine r_getR rfl fl_12_7 rfl h (fun v14 h => ?_)
      refine r_iload_n rfl rfl ?_
      refine r_iconst (v := 3) rfl (by decide) ?_
      refine r_iadd rfl ?_
      refine r_iald rfl h (fun v15 h => ?_)
      refine r_aload_n rfl rfl ?_
      refine r_getR rfl fl_12_7 rfl h (fun v16 h => ?_)
      refine r_iload_n rfl rfl ?_
      refine r_iconst (v := 4) rfl (by decide) ?_
      refine r_iadd rfl ?_
      refine r_iald rfl h (fun v17 h => ?_)
      refine r_cv_v (vs := [.int v15, .int v17]) rfl ml_12_436 rfl (rOk.of rfl) ⟨Nat.zero_le _, Nat.zero_le _⟩ rfl rfl rfl h s_X12_plays (fun _ M3 h => ?_)
      refine r_aload_n rfl rfl ?_
      refine r_getR rfl fl_12_106 rfl h (fun v18 h => ?_)
      refine r_iload_n rfl rfl ?_
      refine r_iconst (v := 1) rfl (by decide) ?_
      refine r_iadd rfl ?_
      refine r_aload_n rfl rfl ?_
      refine r_cv_l (vs := []) rfl ml_12_467 rfl (rOk.of rfl) ⟨Nat.zero_le _, Nat.zero_le _⟩ rfl rfl rfl h s_X12_boardCode (fun v19 M4 h => ?_)
      refine r_last rfl h (fun M5 h => ?_)
      refine r_aload_n rfl rfl ?_
      refine r_getR rfl fl_12_109 rfl h (fun v20 h => ?_)
      refine r_iload_n rfl rfl ?_
      refine r_iconst (v := 1) rfl (by decide) ?_
      refine r_iadd rfl ?_
      refine r_aload_n rfl rfl ?_
      refine r_cv_i (vs := []) rfl ml_12_471 rfl (rOk.of rfl) ⟨Nat.zero_le _, Nat.zero_le _⟩ rfl rfl rfl h s_X12_heapCode (fun v21 M6 h => ?_)
      refine r_iast rfl h (fun M7 h => ?_)
      refine r_iinc (v := 1) (lo' := [some (va_rf r0), some (.int (i1 + (1 : Int32))), some (.int ((40 : Int32) + ((5 : Int32) * i1)))]) rfl rfl rfl (by decide) (by simp [stOk, cat_rf]) rfl ?_
      refine r_goto 26 rfl (by decide) ?_
      refine r_msk [true, true, false] rfl ?_
      exact hq26 _ _ _ h
theorem s_X12_judges_26 {d : Nat} {P : Int32 → Mem → Prop}   : ∀ (k : Nat) (r0 : Option Nat) (i1 : Int32) (M : Mem), FQ (f_X12_judges_26  k r0 i1 M) P → wp Y_X12_judges (rmD (d + 7) 0 0) (FM (QI P) 0 0) 0 0 26 [some (va_rf r0), some (.int i1), none] [] M
  | 0, _, _, _, h => h.no
  | k + 1, r0, i1, M, h => sb_X12_judges_26  (s_X12_judges_26  k) r0 i1 M h
theorem s_X12_judges {d : Nat} {P : Int32 → Mem → Prop} {r0 : Option Nat} {M : Mem} (h : FQ (f_X12_judges r0 M) P) : Con Y_X12_judges (d + 7) 0 0 [va_rf r0] M (QI P) := by
  refine Con.of [some (va_rf r0), none, none] (by decide +kernel) dk_X12_judges (by simp [Y_X12_judges, cat_rf, cat_i, cat_l]) (by simp [loE, Y_X12_judges, cat_rf, cat_i, cat_l, List.replicate]) ?_
  unfold f_X12_judges at h
  refine r_aload_n rfl rfl ?_
  refine r_cv_v (vs := []) rfl ml_12_410 rfl (rOk.of rfl) ⟨Nat.zero_le _, Nat.zero_le _⟩ rfl rfl rfl h s_X12_laysNow (fun _ M1 h => ?_)
  refine r_aload_n rfl rfl ?_
  refine r_getR rfl fl_12_106 rfl h (fun v1 h => ?_)
  refine r_iconst (v := 0) rfl (by decide) ?_
  refine r_aload_n rfl rfl ?_
  refine r_cv_l (vs := []) rfl ml_12_467 rfl (rOk.of rfl) ⟨Nat.zero_le _, Nat.zero_le _⟩ rfl rfl rfl h s_X12_boardCode (fun v2 M2 h => ?_)
  refine r_last rfl h (fun M3 h => ?_)
  refine r_aload_n rfl rfl ?_
  refine r_getR rfl fl_12_109 rfl h (fun v3 h => ?_)
  refine r_iconst (v := 0) rfl (by decide) ?_
  refine r_aload_n rfl rfl ?_
  refine r_cv_i (vs := []) rfl ml_12_471 rfl (rOk.of rfl) ⟨Nat.zero_le _, Nat.zero_le _⟩ rfl rfl rfl h s_X12_heapCode (fun v4 M4 h => ?_)
  refine r_iast rfl h (fun M5 h => ?_)
  refine r_iconst (v := 0) rfl (by decide) ?_
  refine r_istore_n (lo' := [some (va_rf r0), some (.int (0 : Int32)), none]) rfl rfl (by simp [stOk, cat_rf]) rfl ?_
  exact s_X12_judges_26 FU _ _ _ h
set_option maxRecDepth 20000 in
theorem dk_X12_again : ∀ pc i, L_X12_again[pc]? = some (some i) → decode prog_14_method_84_code pc = .ok i := dk_of (by decide +kernel)
theorem sb_X12_again_31 {d : Nat} {P : Int32 → Mem → Prop} {q23 : Option Nat → Int32 → Int32 → Mem → Option (Int32 × Mem)} {q31 : Option Nat → Int32 → Int32 → Int32 → Mem → Option (Int32 × Mem)} (hq23 : ∀ (r0 : Option Nat) (i2 : Int32) (i3 : Int32) (M : Mem), FQ (q23 r0 i2 i3 M) P → wp Y_X12_again (rmD (d + 8) 0 0) (FM (QI P) 0 0) 0 0 23 [some (va_rf r0), none, some (.int i2), some (.int i3), none] [] M) (hq31 : ∀ (r0 : Option Nat) (i2 : Int32) (i3 : Int32) (i4 : Int32) (M : Mem), FQ (q31 r0 i2 i3 i4 M) P → wp Y_X12_again (rmD (d + 8) 0 0) (FM (QI P) 0 0) 0 0 31 [some (va_rf r0), none, some (.int i2), some (.int i3), some (.int i4)] [] M) (r0 : Option Nat) (i2 : Int32) (i3 : Int32) (i4 : Int32) (M : Mem) (h : FQ (b_X12_again_31 q23 q31 r0 i2 i3 i4 M) P) : wp Y_X12_again (rmD (d + 8) 0 0) (FM (QI P) 0 0) 0 0 31 [some (va_rf r0), none, some (.int i2), some (.int i3), some (.int i4)] [] M := by
  unfold b_X12_again_31 at h
  refine r_iload rfl rfl ?_
  refine r_iload_n rfl rfl ?_
  refine r_ic_gt 82 rfl (by decide) h (fun h => ?_) (fun h => ?_)
  · refine r_iinc (v := 1) (lo' := [some (va_rf r0), none, some (.int i2), some (.int (i3 + (1 : Int32))), some (.int i4)]) rfl rfl rfl (by decide) rfl rfl ?_
    refine r_goto 23 rfl (by decide) ?_
    refine r_msk [true, true, true, true, false] rfl ?_
    exact hq23 _ _ _ _ h
  · refine r_aload_n rfl rfl ?_
    refine r_getR rfl fl_12_106 rfl h (fun v1 h => ?_)
    refine r_iload rfl rfl ?_
    refine r_lald rfl h (fun v2 h => ?_)
    refine r_aload_n rfl rfl ?_
    refine r_getR rfl fl_12_106 rfl h (fun v3 h => ?_)
    refine r_iload_n rfl rfl ?_
    refine r_iconst (v := 1) rfl (by decide) ?_
    refine r_iadd rfl ?_
    refine r_lald rfl h (fun v4 h => ?_)
    refine r_lcmp rfl ?_
    refine r_if_ne 76 rfl (by decide) h (fun h => ?_) (fun h => ?_)
    · refine r_aload_n rfl rfl ?_
      refine r_getR rfl fl_12_109 rfl h (fun v5 h => ?_)
      refine r_iload rfl rfl ?_
      refine r_iald rfl h (fun v6 h => ?_)
      refine r_aload_n rfl rfl ?_
      refine r_getR rfl fl_12_109 rfl h (fun v7 h => ?_)
      refine r_iload_n rfl rfl ?_
      refine r_iconst (v := 1) rfl (by decide) ?_
      refine r_iadd rfl ?_
      refine r_iald rfl h (fun v8 h => ?_)
      refine r_ic_eq 76 rfl (by decide) h (fun h => ?_) (fun h => ?_)
      · refine r_iinc (v := 1) (lo' := [some (va_rf r0), none, some (.int i2), some (.int i3), some (.int (i4 + (1 : Int32)))]) rfl rfl rfl (by decide) rfl rfl ?_
        refine r_goto 31 rfl (by decide) ?_
        exact hq31 _ _ _ _ _ h
      · refine r_iload_n rfl rfl ?_
        exact r_iret rfl rfl ⟨Nat.le_of_ble_eq_true rfl, Nat.le_of_ble_eq_true rfl⟩ h
    · refine r_iinc (v := 1) (lo' := [some (va_rf r0), none, some (.int i2), some (.int i3), some (.int (i4 + (1 : Int32)))]) rfl rfl rfl (by decide) rfl rfl ?_
      refine r_goto 31 rfl (by decide) ?_
      exact hq31 _ _ _ _ _ h
theorem s_X12_again_31 {d : Nat} {P : Int32 → Mem → Prop} {q23 : Option Nat → Int32 → Int32 → Mem → Option (Int32 × Mem)} (hq23 : ∀ (r0 : Option Nat) (i2 : Int32) (i3 : Int32) (M : Mem), FQ (q23 r0 i2 i3 M) P → wp Y_X12_again (rmD (d + 8) 0 0) (FM (QI P) 0 0) 0 0 23 [some (va_rf r0), none, some (.int i2), some (.int i3), none] [] M) : ∀ (k : Nat) (r0 : Option Nat) (i2 : Int32) (i3 : Int32) (i4 : Int32) (M : Mem), FQ (f_X12_again_31 q23 k r0 i2 i3 i4 M) P → wp Y_X12_again (rmD (d + 8) 0 0) (FM (QI P) 0 0) 0 0 31 [some (va_rf r0), none, some (.int i2), some (.int i3), some (.int i4)] [] M
  | 0, _, _, _, _, _, h => h.no
  | k + 1, r0, i2, i3, i4, M, h => sb_X12_again_31 hq23 (s_X12_again_31 hq23 k) r0 i2 i3 i4 M h
theorem sb_X12_again_23 {d : Nat} {P : Int32 → Mem → Prop} {q23 : Option Nat → Int32 → Int32 → Mem → Option (Int32 × Mem)} (hq23 : ∀ (r0 : Option Nat) (i2 : Int32) (i3 : Int32) (M : Mem), FQ (q23 r0 i2 i3 M) P → wp Y_X12_again (rmD (d + 8) 0 0) (FM (QI P) 0 0) 0 0 23 [some (va_rf r0), none, some (.int i2), some (.int i3), none] [] M) (r0 : Option Nat) (i2 : Int32) (i3 : Int32) (M : Mem) (h : FQ (b_X12_again_23 q23 r0 i2 i3 M) P) : wp Y_X12_again (rmD (d + 8) 0 0) (FM (QI P) 0 0) 0 0 23 [some (va_rf r0), none, some (.int i2), some (.int i3), none] [] M := by
  unfold b_X12_again_23 at h
  refine r_iload_n rfl rfl ?_
  refine r_iload_n rfl rfl ?_
  refine r_ic_ge 88 rfl (by decide) h (fun h => ?_) (fun h => ?_)
  · refine r_iconst (v := -1) rfl (by decide) ?_
    exact r_iret rfl rfl ⟨Nat.le_of_ble_eq_true rfl, Nat.le_of_ble_eq_true rfl⟩ h
  · refine r_iconst (v := 0) rfl (by decide) ?_
    refine r_istore (lo' := [some (va_rf r0), none, some (.int i2), some (.int i3), some (.int (0 : Int32))]) rfl rfl rfl rfl ?_
    exact s_X12_again_31 hq23 FU _ _ _ _ _ h
theorem s_X12_again_23 {d : Nat} {P : Int32 → Mem → Prop}   : ∀ (k : Nat) (r0 : Option Nat) (i2 : Int32) (i3 : Int32) (M : Mem), FQ (f_X12_again_23  k r0 i2 i3 M) P → wp Y_X12_again (rmD (d + 8) 0 0) (FM (QI P) 0 0) 0 0 23 [some (va_rf r0), none, some (.int i2), some (.int i3), none] [] M
  | 0, _, _, _, _, h => h.no
  | k + 1, r0, i2, i3, M, h => sb_X12_again_23  (s_X12_again_23  k) r0 i2 i3 M h
theorem s_X12_again {d : Nat} {P : Int32 → Mem → Prop} {r0 : Option Nat} {M : Mem} (h : FQ (f_X12_again r0 M) P) : Con Y_X12_again (d + 8) 0 0 [va_rf r0] M (QI P) := by
  refine Con.of [some (va_rf r0), none, none, none, none] (by decide +kernel) dk_X12_again (by simp [Y_X12_again, cat_rf, cat_i, cat_l]) (by simp [loE, Y_X12_again, cat_rf, cat_i, cat_l, List.replicate]) ?_
  unfold f_X12_again at h
  refine r_aload_n rfl rfl ?_
  refine r_cv_i (vs := []) rfl ml_12_474 rfl (rOk.of rfl) ⟨Nat.zero_le _, Nat.zero_le _⟩ rfl rfl rfl h s_X12_judges (fun v1 M1 h => ?_)
  refine r_istore_n (lo' := [some (va_rf r0), some (.int v1), none, none, none]) rfl rfl (by simp [stOk, cat_rf]) rfl ?_
  refine r_iload_n rfl rfl ?_
  refine r_iconst (v := -1) rfl (by decide) ?_
  refine r_ic_ne 19 rfl (by decide) h (fun h => ?_) (fun h => ?_)
  · refine r_aload_n rfl rfl ?_
    refine r_getR rfl fl_12_7 rfl h (fun v2 h => ?_)
    refine r_iconst (v := 5) rfl (by decide) ?_
    refine r_iald rfl h (fun v3 h => ?_)
    refine r_goto 20 rfl (by decide) ?_
    refine r_istore_n (lo' := [some (va_rf r0), some (.int v1), some (.int v3), none, none]) rfl rfl rfl rfl ?_
    refine r_iconst (v := 0) rfl (by decide) ?_
    refine r_istore_n (lo' := [some (va_rf r0), some (.int v1), some (.int v3), some (.int (0 : Int32)), none]) rfl rfl rfl rfl ?_
    refine r_msk [true, false, true, true, true] rfl ?_
    exact s_X12_again_23 FU _ _ _ _ h
  · refine r_iload_n rfl rfl ?_
    refine r_istore_n (lo' := [some (va_rf r0), some (.int v1), some (.int v1), none, none]) rfl rfl rfl rfl ?_
    refine r_iconst (v := 0) rfl (by decide) ?_
    refine r_istore_n (lo' := [some (va_rf r0), some (.int v1), some (.int v1), some (.int (0 : Int32)), none]) rfl rfl rfl rfl ?_
    refine r_msk [true, false, true, true, true] rfl ?_
    exact s_X12_again_23 FU _ _ _ _ h
set_option maxRecDepth 20000 in
theorem dk_X12_copies : ∀ pc i, L_X12_copies[pc]? = some (some i) → decode prog_14_method_3_code pc = .ok i := dk_of (by decide +kernel)
theorem sb_X12_copies_2 {d : Nat} {P : Unit → Mem → Prop} {q2 : Option Nat → Int32 → Int32 → Mem → Option (Unit × Mem)} (hq2 : ∀ (r0 : Option Nat) (i1 : Int32) (i2 : Int32) (M : Mem), FQ (q2 r0 i1 i2 M) P → wp Y_X12_copies (rmD d 0 0) (FM (QV P) 0 0) 0 0 2 [some (va_rf r0), some (.int i1), some (.int i2)] [] M) (r0 : Option Nat) (i1 : Int32) (i2 : Int32) (M : Mem) (h : FQ (b_X12_copies_2 q2 r0 i1 i2 M) P) : wp Y_X12_copies (rmD d 0 0) (FM (QV P) 0 0) 0 0 2 [some (va_rf r0), some (.int i1), some (.int i2)] [] M := by
  unfold b_X12_copies_2 at h
  refine r_iload_n rfl rfl ?_
  refine r_sipush (v := 240) rfl (by decide) ?_
  refine r_ic_ge 46 rfl (by decide) h (fun h => ?_) (fun h => ?_)
  · exact r_vret rfl rfl ⟨Nat.le_of_ble_eq_true rfl, Nat.le_of_ble_eq_true rfl⟩ h
  · refine r_iload_n rfl rfl ?_
    refine r_if_eq 28 rfl (by decide) h (fun h => ?_) (fun h => ?_)
    · refine r_aload_n rfl rfl ?_
      refine r_getR rfl fl_12_7 rfl h (fun v1 h => ?_)
      refine r_iload_n rfl rfl ?_
      refine r_aload_n rfl rfl ?_
      refine r_getR rfl fl_12_13 rfl h (fun v2 h => ?_)
      refine r_iload_n rfl rfl ?_
      refine r_iald rfl h (fun v3 h => ?_)
      refine r_iast rfl h (fun M1 h => ?_)
      refine r_iinc (v := 1) (lo' := [some (va_rf r0), some (.int i1), some (.int (i2 + (1 : Int32)))]) rfl rfl rfl (by decide) rfl rfl ?_
      refine r_goto 2 rfl (by decide) ?_
      exact hq2 _ _ _ _ h
    · refine r_aload_n rfl rfl ?_
      refine r_getR rfl fl_12_13 rfl h (fun v4 h => ?_)
      refine r_iload_n rfl rfl ?_
      refine r_aload_n rfl rfl ?_
      refine r_getR rfl fl_12_7 rfl h (fun v5 h => ?_)
      refine r_iload_n rfl rfl ?_
      refine r_iald rfl h (fun v6 h => ?_)
      refine r_iast rfl h (fun M2 h => ?_)
      refine r_goto 40 rfl (by decide) ?_
      refine r_iinc (v := 1) (lo' := [some (va_rf r0), some (.int i1), some (.int (i2 + (1 : Int32)))]) rfl rfl rfl (by decide) rfl rfl ?_
      refine r_goto 2 rfl (by decide) ?_
      exact hq2 _ _ _ _ h
theorem s_X12_copies_2 {d : Nat} {P : Unit → Mem → Prop}   : ∀ (k : Nat) (r0 : Option Nat) (i1 : Int32) (i2 : Int32) (M : Mem), FQ (f_X12_copies_2  k r0 i1 i2 M) P → wp Y_X12_copies (rmD d 0 0) (FM (QV P) 0 0) 0 0 2 [some (va_rf r0), some (.int i1), some (.int i2)] [] M
  | 0, _, _, _, _, h => h.no
  | k + 1, r0, i1, i2, M, h => sb_X12_copies_2  (s_X12_copies_2  k) r0 i1 i2 M h
theorem s_X12_copies {d : Nat} {P : Unit → Mem → Prop} {r0 : Option Nat} {i1 : Int32} {M : Mem} (h : FQ (f_X12_copies r0 i1 M) P) : Con Y_X12_copies d 0 0 [va_rf r0, .int i1] M (QV P) := by
  refine Con.of [some (va_rf r0), some (.int i1), none] (by decide +kernel) dk_X12_copies (by simp [Y_X12_copies, cat_rf, cat_i, cat_l]) (by simp [loE, Y_X12_copies, cat_rf, cat_i, cat_l, List.replicate]) ?_
  unfold f_X12_copies at h
  refine r_iconst (v := 0) rfl (by decide) ?_
  refine r_istore_n (lo' := [some (va_rf r0), some (.int i1), some (.int (0 : Int32))]) rfl rfl rfl rfl ?_
  exact s_X12_copies_2 FU _ _ _ _ h
set_option maxRecDepth 20000 in
theorem dk_X12_pieces : ∀ pc i, L_X12_pieces[pc]? = some (some i) → decode prog_14_method_112_code pc = .ok i := dk_of (by decide +kernel)
theorem s_X12_pieces {d : Nat} {P : Int32 → Mem → Prop} {r0 : Option Nat} {M : Mem} (h : FQ (f_X12_pieces r0 M) P) : Con Y_X12_pieces (d + 1) 0 0 [va_rf r0] M (QI P) := by
  refine Con.of [some (va_rf r0)] (by decide +kernel) dk_X12_pieces (by simp [Y_X12_pieces, cat_rf, cat_i, cat_l]) (by simp [loE, Y_X12_pieces, cat_rf, cat_i, cat_l, List.replicate]) ?_
  unfold f_X12_pieces at h
  refine r_aload_n rfl rfl ?_
  refine r_cv_v (vs := []) rfl ml_12_410 rfl (rOk.of rfl) ⟨Nat.zero_le _, Nat.zero_le _⟩ rfl rfl rfl h s_X12_laysNow (fun _ M1 h => ?_)
  refine r_aload_n rfl rfl ?_
  refine r_iconst (v := 0) rfl (by decide) ?_
  refine r_cv_i (vs := [.int (0 : Int32)]) rfl ml_12_358 rfl (rOk.of rfl) ⟨Nat.zero_le _, Nat.zero_le _⟩ rfl rfl rfl h s_X12_piecesOf (fun v1 M2 h => ?_)
  refine r_aload_n rfl rfl ?_
  refine r_iconst (v := 1) rfl (by decide) ?_
  refine r_cv_i (vs := [.int (1 : Int32)]) rfl ml_12_358 rfl (rOk.of rfl) ⟨Nat.zero_le _, Nat.zero_le _⟩ rfl rfl rfl h s_X12_piecesOf (fun v2 M3 h => ?_)
  refine r_iadd rfl ?_
  exact r_iret rfl rfl ⟨Nat.le_of_ble_eq_true rfl, Nat.le_of_ble_eq_true rfl⟩ h
set_option maxRecDepth 20000 in
theorem dk_X12_back : ∀ pc i, L_X12_back[pc]? = some (some i) → decode prog_14_method_114_code pc = .ok i := dk_of (by decide +kernel)
theorem s_X12_back {d : Nat} {P : Int32 → Mem → Prop} {r0 : Option Nat} {M : Mem} (h : FQ (f_X12_back r0 M) P) : Con Y_X12_back (d + 2) 0 0 [va_rf r0] M (QI P) := by
  refine Con.of [some (va_rf r0)] (by decide +kernel) dk_X12_back (by simp [Y_X12_back, cat_rf, cat_i, cat_l]) (by simp [loE, Y_X12_back, cat_rf, cat_i, cat_l, List.replicate]) ?_
  unfold f_X12_back at h
  refine r_aload_n rfl rfl ?_
  refine r_iconst (v := 0) rfl (by decide) ?_
  refine r_cv_v (vs := [.int (0 : Int32)]) rfl ml_12_147 rfl (rOk.of rfl) ⟨Nat.zero_le _, Nat.zero_le _⟩ rfl rfl rfl h s_X12_copies (fun _ M1 h => ?_)
  refine r_aload_n rfl rfl ?_
  refine r_cv_i (vs := []) rfl ml_12_557 rfl (rOk.of rfl) ⟨Nat.zero_le _, Nat.zero_le _⟩ rfl rfl rfl h s_X12_pieces (fun v1 M2 h => ?_)
  exact r_iret rfl rfl ⟨Nat.le_of_ble_eq_true rfl, Nat.le_of_ble_eq_true rfl⟩ h
set_option maxRecDepth 20000 in
theorem dk_X12_cellOf : ∀ pc i, L_X12_cellOf[pc]? = some (some i) → decode prog_14_method_91_code pc = .ok i := dk_of (by decide +kernel)
theorem sb_X12_cellOf_30 {d : Nat} {P : Int32 → Mem → Prop} {q30 : Option Nat → Int64 → Int32 → Mem → Option (Int32 × Mem)} (hq30 : ∀ (r0 : Option Nat) (l1 : Int64) (i3 : Int32) (M : Mem), FQ (q30 r0 l1 i3 M) P → wp Y_X12_cellOf (rmD d 0 0) (FM (QI P) 0 0) 0 0 30 [some (va_rf r0), some (.long l1), none, some (.int i3)] [] M) (r0 : Option Nat) (l1 : Int64) (i3 : Int32) (M : Mem) (h : FQ (b_X12_cellOf_30 q30 r0 l1 i3 M) P) : wp Y_X12_cellOf (rmD d 0 0) (FM (QI P) 0 0) 0 0 30 [some (va_rf r0), some (.long l1), none, some (.int i3)] [] M := by
  unfold b_X12_cellOf_30 at h
  refine r_aload_n rfl rfl ?_
  refine r_getR rfl fl_12_128 rfl h (fun v1 h => ?_)
  refine r_iload_n rfl rfl ?_
  refine r_iald rfl h (fun v2 h => ?_)
  refine r_iconst (v := -1) rfl (by decide) ?_
  refine r_ic_eq 67 rfl (by decide) h (fun h => ?_) (fun h => ?_)
  · refine r_iload_n rfl rfl ?_
    exact r_iret rfl rfl ⟨Nat.le_of_ble_eq_true rfl, Nat.le_of_ble_eq_true rfl⟩ h
  · refine r_aload_n rfl rfl ?_
    refine r_getR rfl fl_12_112 rfl h (fun v3 h => ?_)
    refine r_aload_n rfl rfl ?_
    refine r_getR rfl fl_12_128 rfl h (fun v4 h => ?_)
    refine r_iload_n rfl rfl ?_
    refine r_iald rfl h (fun v5 h => ?_)
    refine r_lald rfl h (fun v6 h => ?_)
    refine r_lload_n rfl rfl ?_
    refine r_lcmp rfl ?_
    refine r_if_eq 67 rfl (by decide) h (fun h => ?_) (fun h => ?_)
    · refine r_iload_n rfl rfl ?_
      exact r_iret rfl rfl ⟨Nat.le_of_ble_eq_true rfl, Nat.le_of_ble_eq_true rfl⟩ h
    · refine r_iload_n rfl rfl ?_
      refine r_iconst (v := 1) rfl (by decide) ?_
      refine r_iadd rfl ?_
      refine r_sipush (v := 8192) rfl (by decide) ?_
      refine r_irem rfl h (fun h => ?_)
      refine r_istore_n (lo' := [some (va_rf r0), some (.long l1), none, some (.int ((i3 + (1 : Int32)) - (i3 + (1 : Int32)) / (8192 : Int32) * (8192 : Int32)))]) rfl rfl rfl rfl ?_
      refine r_goto 30 rfl (by decide) ?_
      exact hq30 _ _ _ _ h
theorem s_X12_cellOf_30 {d : Nat} {P : Int32 → Mem → Prop}   : ∀ (k : Nat) (r0 : Option Nat) (l1 : Int64) (i3 : Int32) (M : Mem), FQ (f_X12_cellOf_30  k r0 l1 i3 M) P → wp Y_X12_cellOf (rmD d 0 0) (FM (QI P) 0 0) 0 0 30 [some (va_rf r0), some (.long l1), none, some (.int i3)] [] M
  | 0, _, _, _, _, h => h.no
  | k + 1, r0, l1, i3, M, h => sb_X12_cellOf_30  (s_X12_cellOf_30  k) r0 l1 i3 M h
theorem s_X12_cellOf {d : Nat} {P : Int32 → Mem → Prop} {r0 : Option Nat} {l1 : Int64} {M : Mem} (h : FQ (f_X12_cellOf r0 l1 M) P) : Con Y_X12_cellOf d 0 0 [va_rf r0, .long l1] M (QI P) := by
  refine Con.of [some (va_rf r0), some (.long l1), none, none] (by decide +kernel) dk_X12_cellOf (by simp [Y_X12_cellOf, cat_rf, cat_i, cat_l]) (by simp [loE, Y_X12_cellOf, cat_rf, cat_i, cat_l, List.replicate]) ?_
  unfold f_X12_cellOf at h
  refine r_lload_n rfl rfl ?_
  refine r_lload_n rfl rfl ?_
  refine r_bipush (v := 21) rfl (by decide) ?_
  refine r_lshr rfl ?_
  refine r_lxor rfl ?_
  refine r_ldc2 rfl kl_12_490 ?_
  refine r_lmul rfl ?_
  refine r_ldc2 rfl kl_12_492 ?_
  refine r_lrem rfl h (fun h => ?_)
  refine r_l2i rfl ?_
  refine r_istore_n (lo' := [some (va_rf r0), some (.long l1), none, some (.int (((l1 ^^^ (l1 >>> ((21 : Int32).toInt64 &&& 63))) * (31 : Int64)) - ((l1 ^^^ (l1 >>> ((21 : Int32).toInt64 &&& 63))) * (31 : Int64)) / (8192 : Int64) * (8192 : Int64)).toInt32)]) rfl rfl rfl rfl ?_
  refine r_iload_n rfl rfl ?_
  refine r_if_ge 28 rfl (by decide) h (fun h => ?_) (fun h => ?_)
  · refine r_iload_n rfl rfl ?_
    refine r_istore_n (lo' := [some (va_rf r0), some (.long l1), none, some (.int (((l1 ^^^ (l1 >>> ((21 : Int32).toInt64 &&& 63))) * (31 : Int64)) - ((l1 ^^^ (l1 >>> ((21 : Int32).toInt64 &&& 63))) * (31 : Int64)) / (8192 : Int64) * (8192 : Int64)).toInt32)]) rfl rfl rfl rfl ?_
    exact s_X12_cellOf_30 FU _ _ _ _ h
  · refine r_iload_n rfl rfl ?_
    refine r_sipush (v := 8192) rfl (by decide) ?_
    refine r_iadd rfl ?_
    refine r_goto 29 rfl (by decide) ?_
    refine r_istore_n (lo' := [some (va_rf r0), some (.long l1), none, some (.int ((((l1 ^^^ (l1 >>> ((21 : Int32).toInt64 &&& 63))) * (31 : Int64)) - ((l1 ^^^ (l1 >>> ((21 : Int32).toInt64 &&& 63))) * (31 : Int64)) / (8192 : Int64) * (8192 : Int64)).toInt32 + (8192 : Int32)))]) rfl rfl rfl rfl ?_
    exact s_X12_cellOf_30 FU _ _ _ _ h
set_option maxRecDepth 20000 in
theorem dk_X12_codeOf : ∀ pc i, L_X12_codeOf[pc]? = some (some i) → decode prog_14_method_89_code pc = .ok i := dk_of (by decide +kernel)
theorem s_X12_codeOf {d : Nat} {P : Int64 → Mem → Prop} {r0 : Option Nat} {M : Mem} (h : FQ (f_X12_codeOf r0 M) P) : Con Y_X12_codeOf (d + 1) 0 0 [va_rf r0] M (QL P) := by
  refine Con.of [some (va_rf r0)] (by decide +kernel) dk_X12_codeOf (by simp [Y_X12_codeOf, cat_rf, cat_i, cat_l]) (by simp [loE, Y_X12_codeOf, cat_rf, cat_i, cat_l, List.replicate]) ?_
  unfold f_X12_codeOf at h
  refine r_aload_n rfl rfl ?_
  refine r_cv_l (vs := []) rfl ml_12_467 rfl (rOk.of rfl) ⟨Nat.zero_le _, Nat.zero_le _⟩ rfl rfl rfl h s_X12_boardCode (fun v1 M1 h => ?_)
  refine r_ldc2 rfl kl_12_486 ?_
  refine r_lmul rfl ?_
  refine r_aload_n rfl rfl ?_
  refine r_cv_i (vs := []) rfl ml_12_471 rfl (rOk.of rfl) ⟨Nat.zero_le _, Nat.zero_le _⟩ rfl rfl rfl h s_X12_heapCode (fun v2 M2 h => ?_)
  refine r_i2l rfl ?_
  refine r_ladd rfl ?_
  exact r_lret rfl rfl ⟨Nat.le_of_ble_eq_true rfl, Nat.le_of_ble_eq_true rfl⟩ h
set_option maxRecDepth 20000 in
theorem dk_X12_bits : ∀ pc i, L_X12_bits[pc]? = some (some i) → decode prog_14_method_60_code pc = .ok i := dk_of (by decide +kernel)
theorem sb_X12_bits_4 {d : Nat} {P : Int32 → Mem → Prop} {q4 : Int32 → Int32 → Int32 → Mem → Option (Int32 × Mem)} (hq4 : ∀ (i0 : Int32) (i1 : Int32) (i2 : Int32) (M : Mem), FQ (q4 i0 i1 i2 M) P → wp Y_X12_bits (rmD d 0 0) (FM (QI P) 0 0) 0 0 4 [some (.int i0), some (.int i1), some (.int i2)] [] M) (i0 : Int32) (i1 : Int32) (i2 : Int32) (M : Mem) (h : FQ (b_X12_bits_4 q4 i0 i1 i2 M) P) : wp Y_X12_bits (rmD d 0 0) (FM (QI P) 0 0) 0 0 4 [some (.int i0), some (.int i1), some (.int i2)] [] M := by
  unfold b_X12_bits_4 at h
  refine r_iload_n rfl rfl ?_
  refine r_bipush (v := 8) rfl (by decide) ?_
  refine r_ic_ge 24 rfl (by decide) h (fun h => ?_) (fun h => ?_)
  · refine r_iload_n rfl rfl ?_
    exact r_iret rfl rfl ⟨Nat.le_of_ble_eq_true rfl, Nat.le_of_ble_eq_true rfl⟩ h
  · refine r_iload_n rfl rfl ?_
    refine r_iload_n rfl rfl ?_
    refine r_iload_n rfl rfl ?_
    refine r_ishr rfl ?_
    refine r_iconst (v := 1) rfl (by decide) ?_
    refine r_iand rfl ?_
    refine r_iadd rfl ?_
    refine r_istore_n (lo' := [some (.int i0), some (.int (i1 + ((i0 >>> (i2 &&& 31)) &&& (1 : Int32)))), some (.int i2)]) rfl rfl rfl rfl ?_
    refine r_iinc (v := 1) (lo' := [some (.int i0), some (.int (i1 + ((i0 >>> (i2 &&& 31)) &&& (1 : Int32)))), some (.int (i2 + (1 : Int32)))]) rfl rfl rfl (by decide) rfl rfl ?_
    refine r_goto 4 rfl (by decide) ?_
    exact hq4 _ _ _ _ h
theorem s_X12_bits_4 {d : Nat} {P : Int32 → Mem → Prop}   : ∀ (k : Nat) (i0 : Int32) (i1 : Int32) (i2 : Int32) (M : Mem), FQ (f_X12_bits_4  k i0 i1 i2 M) P → wp Y_X12_bits (rmD d 0 0) (FM (QI P) 0 0) 0 0 4 [some (.int i0), some (.int i1), some (.int i2)] [] M
  | 0, _, _, _, _, h => h.no
  | k + 1, i0, i1, i2, M, h => sb_X12_bits_4  (s_X12_bits_4  k) i0 i1 i2 M h
theorem s_X12_bits {d : Nat} {P : Int32 → Mem → Prop} {i0 : Int32} {M : Mem} (h : FQ (f_X12_bits i0 M) P) : Con Y_X12_bits d 0 0 [.int i0] M (QI P) := by
  refine Con.of [some (.int i0), none, none] (by decide +kernel) dk_X12_bits (by simp [Y_X12_bits, cat_rf, cat_i, cat_l]) (by simp [loE, Y_X12_bits, cat_rf, cat_i, cat_l, List.replicate]) ?_
  unfold f_X12_bits at h
  refine r_iconst (v := 0) rfl (by decide) ?_
  refine r_istore_n (lo' := [some (.int i0), some (.int (0 : Int32)), none]) rfl rfl rfl rfl ?_
  refine r_iconst (v := 0) rfl (by decide) ?_
  refine r_istore_n (lo' := [some (.int i0), some (.int (0 : Int32)), some (.int (0 : Int32))]) rfl rfl rfl rfl ?_
  exact s_X12_bits_4 FU _ _ _ _ h
set_option maxRecDepth 20000 in
theorem dk_X12_isOver : ∀ pc i, L_X12_isOver[pc]? = some (some i) → decode prog_14_method_61_code pc = .ok i := dk_of (by decide +kernel)
theorem s_X12_isOver {d : Nat} {P : Int32 → Mem → Prop} {r0 : Option Nat} {M : Mem} (h : FQ (f_X12_isOver r0 M) P) : Con Y_X12_isOver (d + 1) 0 0 [va_rf r0] M (QI P) := by
  refine Con.of [some (va_rf r0)] (by decide +kernel) dk_X12_isOver (by simp [Y_X12_isOver, cat_rf, cat_i, cat_l]) (by simp [loE, Y_X12_isOver, cat_rf, cat_i, cat_l, List.replicate]) ?_
  unfold f_X12_isOver at h
  refine r_aload_n rfl rfl ?_
  refine r_getI rfl fl_12_401 rfl h (fun v1 h => ?_)
  refine r_cs_i (vs := [.int v1]) rfl ml_12_407 (rOk.of rfl) ⟨Nat.zero_le _, Nat.zero_le _⟩ rfl rfl rfl h s_X12_bits (fun v2 M1 h => ?_)
  refine r_iconst (v := 3) rfl (by decide) ?_
  refine r_ic_ge 15 rfl (by decide) h (fun h => ?_) (fun h => ?_)
  · refine r_iconst (v := 0) rfl (by decide) ?_
    exact r_zret rfl rfl ⟨Nat.le_of_ble_eq_true rfl, Nat.le_of_ble_eq_true rfl⟩ h
  · refine r_iconst (v := 1) rfl (by decide) ?_
    refine r_goto 16 rfl (by decide) ?_
    exact r_zret rfl rfl ⟨Nat.le_of_ble_eq_true rfl, Nat.le_of_ble_eq_true rfl⟩ h
set_option maxRecDepth 20000 in
theorem dk_X12_laysState : ∀ pc i, L_X12_laysState[pc]? = some (some i) → decode prog_14_method_90_code pc = .ok i := dk_of (by decide +kernel)
theorem sb_X12_laysState_44 {d : Nat} {P : Unit → Mem → Prop} {q44 : Option Nat → Int64 → Int32 → Mem → Option (Unit × Mem)} (hq44 : ∀ (r0 : Option Nat) (l3 : Int64) (i5 : Int32) (M : Mem), FQ (q44 r0 l3 i5 M) P → wp Y_X12_laysState (rmD d 0 0) (FM (QV P) 0 0) 0 0 44 [some (va_rf r0), none, none, some (.long l3), none, some (.int i5)] [] M) (r0 : Option Nat) (l3 : Int64) (i5 : Int32) (M : Mem) (h : FQ (b_X12_laysState_44 q44 r0 l3 i5 M) P) : wp Y_X12_laysState (rmD d 0 0) (FM (QV P) 0 0) 0 0 44 [some (va_rf r0), none, none, some (.long l3), none, some (.int i5)] [] M := by
  unfold b_X12_laysState_44 at h
  refine r_iload rfl rfl ?_
  refine r_if_lt 74 rfl (by decide) h (fun h => ?_) (fun h => ?_)
  · refine r_aload_n rfl rfl ?_
    refine r_lload_n rfl rfl ?_
    refine r_l2i rfl ?_
    refine r_putI rfl fl_12_355 (fun z => by cases z) rfl h (fun M1 h => ?_)
    exact r_vret rfl rfl ⟨Nat.le_of_ble_eq_true rfl, Nat.le_of_ble_eq_true rfl⟩ h
  · refine r_aload_n rfl rfl ?_
    refine r_getR rfl fl_12_88 rfl h (fun v1 h => ?_)
    refine r_iload rfl rfl ?_
    refine r_lload_n rfl rfl ?_
    refine r_ldc2 rfl kl_12_465 ?_
    refine r_lrem rfl h (fun h => ?_)
    refine r_l2i rfl ?_
    refine r_iast rfl h (fun M2 h => ?_)
    refine r_lload_n rfl rfl ?_
    refine r_ldc2 rfl kl_12_465 ?_
    refine r_ldiv rfl h (fun h => ?_)
    refine r_lstore_n (lo' := [some (va_rf r0), none, none, some (.long (l3 / (9 : Int64))), none, some (.int i5)]) rfl rfl rfl rfl ?_
    refine r_iinc (v := -1) (lo' := [some (va_rf r0), none, none, some (.long (l3 / (9 : Int64))), none, some (.int (i5 + (-1 : Int32)))]) rfl rfl rfl (by decide) rfl rfl ?_
    refine r_goto 44 rfl (by decide) ?_
    exact hq44 _ _ _ _ h
theorem s_X12_laysState_44 {d : Nat} {P : Unit → Mem → Prop}   : ∀ (k : Nat) (r0 : Option Nat) (l3 : Int64) (i5 : Int32) (M : Mem), FQ (f_X12_laysState_44  k r0 l3 i5 M) P → wp Y_X12_laysState (rmD d 0 0) (FM (QV P) 0 0) 0 0 44 [some (va_rf r0), none, none, some (.long l3), none, some (.int i5)] [] M
  | 0, _, _, _, _, h => h.no
  | k + 1, r0, l3, i5, M, h => sb_X12_laysState_44  (s_X12_laysState_44  k) r0 l3 i5 M h
theorem sb_X12_laysState_6 {d : Nat} {P : Unit → Mem → Prop} {q6 : Option Nat → Int64 → Int32 → Mem → Option (Unit × Mem)} (hq6 : ∀ (r0 : Option Nat) (l3 : Int64) (i5 : Int32) (M : Mem), FQ (q6 r0 l3 i5 M) P → wp Y_X12_laysState (rmD d 0 0) (FM (QV P) 0 0) 0 0 6 [some (va_rf r0), none, none, some (.long l3), none, some (.int i5)] [] M) (r0 : Option Nat) (l3 : Int64) (i5 : Int32) (M : Mem) (h : FQ (b_X12_laysState_6 q6 r0 l3 i5 M) P) : wp Y_X12_laysState (rmD d 0 0) (FM (QV P) 0 0) 0 0 6 [some (va_rf r0), none, none, some (.long l3), none, some (.int i5)] [] M := by
  unfold b_X12_laysState_6 at h
  refine r_iload rfl rfl ?_
  refine r_if_lt 36 rfl (by decide) h (fun h => ?_) (fun h => ?_)
  · refine r_aload_n rfl rfl ?_
    refine r_getI rfl fl_12_144 rfl h (fun v1 h => ?_)
    refine r_iconst (v := 1) rfl (by decide) ?_
    refine r_isub rfl ?_
    refine r_istore (lo' := [some (va_rf r0), none, none, some (.long l3), none, some (.int (v1 - (1 : Int32)))]) rfl rfl rfl rfl ?_
    exact s_X12_laysState_44 FU _ _ _ _ h
  · refine r_aload_n rfl rfl ?_
    refine r_getR rfl fl_12_91 rfl h (fun v2 h => ?_)
    refine r_iload rfl rfl ?_
    refine r_lload_n rfl rfl ?_
    refine r_ldc2 rfl kl_12_488 ?_
    refine r_lrem rfl h (fun h => ?_)
    refine r_l2i rfl ?_
    refine r_iast rfl h (fun M1 h => ?_)
    refine r_lload_n rfl rfl ?_
    refine r_ldc2 rfl kl_12_488 ?_
    refine r_ldiv rfl h (fun h => ?_)
    refine r_lstore_n (lo' := [some (va_rf r0), none, none, some (.long (l3 / (4 : Int64))), none, some (.int i5)]) rfl rfl rfl rfl ?_
    refine r_iinc (v := -1) (lo' := [some (va_rf r0), none, none, some (.long (l3 / (4 : Int64))), none, some (.int (i5 + (-1 : Int32)))]) rfl rfl rfl (by decide) rfl rfl ?_
    refine r_goto 6 rfl (by decide) ?_
    exact hq6 _ _ _ _ h
theorem s_X12_laysState_6 {d : Nat} {P : Unit → Mem → Prop}   : ∀ (k : Nat) (r0 : Option Nat) (l3 : Int64) (i5 : Int32) (M : Mem), FQ (f_X12_laysState_6  k r0 l3 i5 M) P → wp Y_X12_laysState (rmD d 0 0) (FM (QV P) 0 0) 0 0 6 [some (va_rf r0), none, none, some (.long l3), none, some (.int i5)] [] M
  | 0, _, _, _, _, h => h.no
  | k + 1, r0, l3, i5, M, h => sb_X12_laysState_6  (s_X12_laysState_6  k) r0 l3 i5 M h
theorem s_X12_laysState {d : Nat} {P : Unit → Mem → Prop} {r0 : Option Nat} {l1 : Int64} {M : Mem} (h : FQ (f_X12_laysState r0 l1 M) P) : Con Y_X12_laysState d 0 0 [va_rf r0, .long l1] M (QV P) := by
  refine Con.of [some (va_rf r0), some (.long l1), none, none, none, none] (by decide +kernel) dk_X12_laysState (by simp [Y_X12_laysState, cat_rf, cat_i, cat_l]) (by simp [loE, Y_X12_laysState, cat_rf, cat_i, cat_l, List.replicate]) ?_
  unfold f_X12_laysState at h
  refine r_lload_n rfl rfl ?_
  refine r_lstore_n (lo' := [some (va_rf r0), some (.long l1), none, some (.long l1), none, none]) rfl rfl rfl rfl ?_
  refine r_bipush (v := 7) rfl (by decide) ?_
  refine r_istore (lo' := [some (va_rf r0), some (.long l1), none, some (.long l1), none, some (.int (7 : Int32))]) rfl rfl rfl rfl ?_
  refine r_msk [true, false, true, true, true, true] rfl ?_
  exact s_X12_laysState_6 FU _ _ _ _ h
