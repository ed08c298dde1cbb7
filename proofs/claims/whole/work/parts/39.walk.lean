/-! walked by program (wip/gen): X12_worked X12_saysOf X12_toBy X12_clauseFor X12_sumOf -/
def L_X12_worked : List (Option (Instr × Nat)) := [some (.iload_n 0, 1), some (.lookupswitch 210 #[(35, 170), (42, 113), (43, 99), (45, 106), (47, 120), (60, 134), (61, 158), (62, 146), (300, 182), (301, 194), (406, 206)], 99), none, none, none, none, none, none, none, none, none, none, none, none, none, none, none, none, none, none, none, none, none, none, none, none, none, none, none, none, none, none, none, none, none, none, none, none, none, none, none, none, none, none, none, none, none, none, none, none, none, none, none, none, none, none, none, none, none, none, none, none, none, none, none, none, none, none, none, none, none, none, none, none, none, none, none, none, none, none, none, none, none, none, none, none, none, none, none, none, none, none, none, none, none, none, none, none, none, none, some (.lload_n 1, 1), some (.lload_n 3, 1), some (.ladd, 1), some (.invokestatic 344, 3), none, none, some (.lreturn, 1), some (.lload_n 1, 1), some (.lload_n 3, 1), some (.lsub, 1), some (.invokestatic 344, 3), none, none, some (.lreturn, 1), some (.lload_n 1, 1), some (.lload_n 3, 1), some (.lmul, 1), some (.invokestatic 344, 3), none, none, some (.lreturn, 1), some (.lload_n 3, 1), some (.lconst 0, 1), some (.lcmp, 1), some (.ifCond .ne 7, 3), none, none, some (.lconst 0, 1), some (.goto 6, 3), none, none, some (.lload_n 1, 1), some (.lload_n 3, 1), some (.ldiv, 1), some (.lreturn, 1), some (.lload_n 1, 1), some (.lload_n 3, 1), some (.lcmp, 1), some (.ifCond .ge 7, 3), none, none, some (.lconst 1, 1), some (.goto 4, 3), none, none, some (.lconst 0, 1), some (.lreturn, 1), some (.lload_n 1, 1), some (.lload_n 3, 1), some (.lcmp, 1), some (.ifCond .le 7, 3), none, none, some (.lconst 1, 1), some (.goto 4, 3), none, none, some (.lconst 0, 1), some (.lreturn, 1), some (.lload_n 1, 1), some (.lload_n 3, 1), some (.lcmp, 1), some (.ifCond .ne 7, 3), none, none, some (.lconst 1, 1), some (.goto 4, 3), none, none, some (.lconst 0, 1), some (.lreturn, 1), some (.lload_n 1, 1), some (.lload_n 3, 1), some (.lcmp, 1), some (.ifCond .eq 7, 3), none, none, some (.lconst 1, 1), some (.goto 4, 3), none, none, some (.lconst 0, 1), some (.lreturn, 1), some (.lload_n 1, 1), some (.lload_n 3, 1), some (.lcmp, 1), some (.ifCond .gt 7, 3), none, none, some (.lconst 1, 1), some (.goto 4, 3), none, none, some (.lconst 0, 1), some (.lreturn, 1), some (.lload_n 1, 1), some (.lload_n 3, 1), some (.lcmp, 1), some (.ifCond .lt 7, 3), none, none, some (.lconst 1, 1), some (.goto 4, 3), none, none, some (.lconst 0, 1), some (.lreturn, 1), some (.lload_n 1, 1), some (.lload_n 3, 1), some (.lmul, 1), some (.lreturn, 1), some (.lload_n 1, 1), some (.lload_n 3, 1), some (.ladd, 1), some (.lconst 0, 1), some (.lcmp, 1), some (.ifCond .le 7, 3), none, none, some (.lconst 1, 1), some (.goto 4, 3), none, none, some (.lconst 0, 1), some (.lreturn, 1)]
def Y_X12_worked : YM := (⟨RX12, "worked", "(IJJ)J"⟩, prog_14_method_42_code, L_X12_worked, 5, some .long)
def f_X12_worked (i0 : Int32) (l1 : Int64) (l3 : Int64) (M : Mem) : Option (Int64 × Mem) :=
(if i0 = (35 : Int32) then
(if (lg_cmp l1 l3) = 0 then
some ((0 : Int64), M)
else
some ((1 : Int64), M))
else
(if i0 = (42 : Int32) then
cA (f_X12_bound (l1 * l3) M) fun v3 M3 =>
some (v3, M3)
else
(if i0 = (43 : Int32) then
cA (f_X12_bound (l1 + l3) M) fun v2 M2 =>
some (v2, M2)
else
(if i0 = (45 : Int32) then
cA (f_X12_bound (l1 - l3) M) fun v1 M1 =>
some (v1, M1)
else
(if i0 = (47 : Int32) then
(if (lg_cmp l3 (0 : Int64)) = 0 then
some ((0 : Int64), M)
else
nzL l3 (
some ((l1 / l3), M)))
else
(if i0 = (60 : Int32) then
(if 0 ≤ (lg_cmp l1 l3) then
some ((0 : Int64), M)
else
some ((1 : Int64), M))
else
(if i0 = (61 : Int32) then
(if (lg_cmp l1 l3) = 0 then
some ((1 : Int64), M)
else
some ((0 : Int64), M))
else
(if i0 = (62 : Int32) then
(if (lg_cmp l1 l3) ≤ 0 then
some ((0 : Int64), M)
else
some ((1 : Int64), M))
else
(if i0 = (300 : Int32) then
(if 0 < (lg_cmp l1 l3) then
some ((0 : Int64), M)
else
some ((1 : Int64), M))
else
(if i0 = (301 : Int32) then
(if (lg_cmp l1 l3) < 0 then
some ((0 : Int64), M)
else
some ((1 : Int64), M))
else
(if i0 = (406 : Int32) then
some ((l1 * l3), M)
else
(if (lg_cmp (l1 + l3) (0 : Int64)) ≤ 0 then
some ((0 : Int64), M)
else
some ((1 : Int64), M)))))))))))))
def L_X12_saysOf : List (Option (Instr × Nat)) := [some (.iconst 0, 1), some (.istore_n 2, 1), some (.iload_n 1, 1), some (.istore_n 3, 1), some (.aload_n 0, 1), some (.getfield 48, 3), none, none, some (.iload_n 3, 1), some (.iaload, 1), some (.sipush 408, 3), none, none, some (.if_icmp .eq 162, 3), none, none, some (.aload_n 0, 1), some (.getfield 48, 3), none, none, some (.iload_n 3, 1), some (.iaload, 1), some (.istore 4, 2), none, some (.iload 4, 2), none, some (.sipush 400, 3), none, none, some (.if_icmp .eq 11, 3), none, none, some (.iload 4, 2), none, some (.sipush 401, 3), none, none, some (.if_icmp .ne 45, 3), none, none, some (.aload_n 0, 1), some (.getfield 84, 3), none, none, some (.iload_n 2, 1), some (.iload 4, 2), none, some (.sipush 400, 3), none, none, some (.if_icmp .ne 13, 3), none, none, some (.aload_n 0, 1), some (.getfield 51, 3), none, none, some (.iload_n 3, 1), some (.iaload, 1), some (.i2l, 1), some (.goto 15, 3), none, none, some (.aload_n 0, 1), some (.getfield 81, 3), none, none, some (.aload_n 0, 1), some (.getfield 51, 3), none, none, some (.iload_n 3, 1), some (.iaload, 1), some (.iaload, 1), some (.i2l, 1), some (.lastore, 1), some (.iinc 2 1, 3), none, none, some (.goto 90, 3), none, none, some (.iload 4, 2), none, some (.sipush 402, 3), none, none, some (.if_icmp .ne 23, 3), none, none, some (.aload_n 0, 1), some (.getfield 84, 3), none, none, some (.iload_n 2, 1), some (.iconst 1, 1), some (.isub, 1), some (.aload_n 0, 1), some (.getfield 84, 3), none, none, some (.iload_n 2, 1), some (.iconst 1, 1), some (.isub, 1), some (.laload, 1), some (.lneg, 1), some (.lastore, 1), some (.goto 62, 3), none, none, some (.iload 4, 2), none, some (.sipush 405, 3), none, none, some (.if_icmp .ne 24, 3), none, none, some (.aload_n 0, 1), some (.getfield 84, 3), none, none, some (.iload_n 2, 1), some (.iconst 1, 1), some (.isub, 1), some (.lconst 1, 1), some (.aload_n 0, 1), some (.getfield 84, 3), none, none, some (.iload_n 2, 1), some (.iconst 1, 1), some (.isub, 1), some (.laload, 1), some (.lsub, 1), some (.lastore, 1), some (.goto 33, 3), none, none, some (.iinc 2 (-1), 3), none, none, some (.aload_n 0, 1), some (.getfield 84, 3), none, none, some (.iload_n 2, 1), some (.iconst 1, 1), some (.isub, 1), some (.iload 4, 2), none, some (.aload_n 0, 1), some (.getfield 84, 3), none, none, some (.iload_n 2, 1), some (.iconst 1, 1), some (.isub, 1), some (.laload, 1), some (.aload_n 0, 1), some (.getfield 84, 3), none, none, some (.iload_n 2, 1), some (.laload, 1), some (.invokestatic 348, 3), none, none, some (.lastore, 1), some (.iinc 3 1, 3), none, none, some (.goto (-168), 3), none, none, some (.aload_n 0, 1), some (.getfield 84, 3), none, none, some (.iconst 0, 1), some (.laload, 1), some (.lreturn, 1)]
def Y_X12_saysOf : YM := (⟨RX12, "saysOf", "(I)J"⟩, prog_14_method_43_code, L_X12_saysOf, 5, some .long)
def f_X12_saysOf_40 (q4 : Option Nat → Int32 → Int32 → Mem → Option (Int64 × Mem)) (r0 : Option Nat) (i2 : Int32) (i3 : Int32) (i4 : Int32) (M : Mem) : Option (Int64 × Mem) :=
gR M r0 12 42 fun v1 =>
(if i4 = (400 : Int32) then
gR M r0 12 17 fun v2 =>
aI M v2 2 i3 fun v3 =>
wL M v1 i2 v3.toInt64 fun M1 =>
q4 r0 (i2 + (1 : Int32)) (i3 + (1 : Int32)) M1
else
gR M r0 12 41 fun v4 =>
gR M r0 12 17 fun v5 =>
aI M v5 2 i3 fun v6 =>
aI M v4 2 v6 fun v7 =>
wL M v1 i2 v7.toInt64 fun M2 =>
q4 r0 (i2 + (1 : Int32)) (i3 + (1 : Int32)) M2)
def b_X12_saysOf_4 (q4 : Option Nat → Int32 → Int32 → Mem → Option (Int64 × Mem)) (r0 : Option Nat) (i2 : Int32) (i3 : Int32) (M : Mem) : Option (Int64 × Mem) :=
gR M r0 12 16 fun v1 =>
aI M v1 2 i3 fun v2 =>
(if v2 = (408 : Int32) then
gR M r0 12 42 fun v3 =>
aL M v3 (0 : Int32) fun v4 =>
some (v4, M)
else
gR M r0 12 16 fun v5 =>
aI M v5 2 i3 fun v6 =>
(if v6 = (400 : Int32) then
f_X12_saysOf_40 q4 r0 i2 i3 v6 M
else
(if v6 = (401 : Int32) then
f_X12_saysOf_40 q4 r0 i2 i3 v6 M
else
(if v6 = (402 : Int32) then
gR M r0 12 42 fun v7 =>
gR M r0 12 42 fun v8 =>
aL M v8 (i2 - (1 : Int32)) fun v9 =>
wL M v7 (i2 - (1 : Int32)) (-v9) fun M1 =>
q4 r0 i2 (i3 + (1 : Int32)) M1
else
(if v6 = (405 : Int32) then
gR M r0 12 42 fun v10 =>
gR M r0 12 42 fun v11 =>
aL M v11 (i2 - (1 : Int32)) fun v12 =>
wL M v10 (i2 - (1 : Int32)) ((1 : Int64) - v12) fun M2 =>
q4 r0 i2 (i3 + (1 : Int32)) M2
else
gR M r0 12 42 fun v13 =>
gR M r0 12 42 fun v14 =>
aL M v14 ((i2 + (-1 : Int32)) - (1 : Int32)) fun v15 =>
gR M r0 12 42 fun v16 =>
aL M v16 (i2 + (-1 : Int32)) fun v17 =>
cA (f_X12_worked v6 v15 v17 M) fun v18 M3 =>
wL M3 v13 ((i2 + (-1 : Int32)) - (1 : Int32)) v18 fun M4 =>
q4 r0 (i2 + (-1 : Int32)) (i3 + (1 : Int32)) M4)))))
def f_X12_saysOf_4 (n : Nat) : Option Nat → Int32 → Int32 → Mem → Option (Int64 × Mem) := lpN (fun _ _ _ _ => none) (b_X12_saysOf_4 ) n
def f_X12_saysOf (r0 : Option Nat) (i1 : Int32) (M : Mem) : Option (Int64 × Mem) :=
f_X12_saysOf_4 FU r0 (0 : Int32) i1 M
def L_X12_toBy : List (Option (Instr × Nat)) := [some (.aload_n 0, 1), some (.iload_n 1, 1), some (.iload_n 3, 1), some (.invokevirtual 370, 3), none, none, some (.istore 4, 2), none, some (.iload 4, 2), none, some (.iconst (-1), 1), some (.if_icmp .eq 44, 3), none, none, some (.aload_n 0, 1), some (.getfield 33, 3), none, none, some (.iload_n 1, 1), some (.iaload, 1), some (.iconst (-1), 1), some (.if_icmp .eq 34, 3), none, none, some (.aload_n 0, 1), some (.iload_n 2, 1), some (.iload_n 3, 1), some (.iload 4, 2), none, some (.invokevirtual 373, 3), none, none, some (.aload_n 0, 1), some (.aload_n 0, 1), some (.getfield 33, 3), none, none, some (.iload_n 1, 1), some (.iaload, 1), some (.invokevirtual 377, 3), none, none, some (.lconst 0, 1), some (.lcmp, 1), some (.ifCond .le 8, 3), none, none, some (.iload 4, 2), none, some (.goto 4, 3), none, none, some (.iconst (-1), 1), some (.istore 4, 2), none, some (.iload 4, 2), none, some (.ireturn, 1)]
def Y_X12_toBy : YM := (⟨RX12, "toBy", "(III)I"⟩, prog_14_method_55_code, L_X12_toBy, 5, some .int)
def f_X12_toBy (r0 : Option Nat) (i1 : Int32) (i2 : Int32) (i3 : Int32) (M : Mem) : Option (Int32 × Mem) :=
cR M r0 (1, 12) (cA (f_X12_actTo r0 i1 i3 M) fun v1 M1 =>
(if v1 = (-1 : Int32) then
some (v1, M1)
else
gR M1 r0 12 11 fun v2 =>
aI M1 v2 2 i1 fun v3 =>
(if v3 = (-1 : Int32) then
some (v1, M1)
else
cR M1 r0 (1, 12) (cA (f_X12_names r0 i2 i3 v1 M1) fun _ M2 =>
gR M2 r0 12 11 fun v4 =>
aI M2 v4 2 i1 fun v5 =>
cR M2 r0 (1, 12) (cA (f_X12_saysOf r0 v5 M2) fun v6 M3 =>
(if (lg_cmp v6 (0 : Int64)) ≤ 0 then
some ((-1 : Int32), M3)
else
some (v1, M3)))))))
def L_X12_clauseFor : List (Option (Instr × Nat)) := [some (.iconst 0, 1), some (.istore_n 3, 1), some (.iload_n 3, 1), some (.aload_n 0, 1), some (.getfield 27, 3), none, none, some (.aload_n 0, 1), some (.getfield 7, 3), none, none, some (.iconst 2, 1), some (.iaload, 1), some (.iaload, 1), some (.if_icmp .ge 55, 3), none, none, some (.bipush 20, 2), none, some (.aload_n 0, 1), some (.getfield 7, 3), none, none, some (.iconst 2, 1), some (.iaload, 1), some (.imul, 1), some (.iload_n 3, 1), some (.iadd, 1), some (.istore 4, 2), none, some (.aload_n 0, 1), some (.getfield 36, 3), none, none, some (.iload 4, 2), none, some (.iaload, 1), some (.iload_n 1, 1), some (.if_icmp .ne 25, 3), none, none, some (.aload_n 0, 1), some (.aload_n 0, 1), some (.iload 4, 2), none, some (.iload_n 1, 1), some (.iload_n 2, 1), some (.invokevirtual 387, 3), none, none, some (.putfield 384, 3), none, none, some (.aload_n 0, 1), some (.getfield 384, 3), none, none, some (.iconst (-1), 1), some (.if_icmp .eq 5, 3), none, none, some (.iload_n 3, 1), some (.ireturn, 1), some (.iinc 3 1, 3), none, none, some (.goto (-64), 3), none, none, some (.iconst (-1), 1), some (.ireturn, 1)]
def Y_X12_clauseFor : YM := (⟨RX12, "clauseFor", "(II)I"⟩, prog_14_method_57_code, L_X12_clauseFor, 5, some .int)
def b_X12_clauseFor_2 (q2 : Option Nat → Int32 → Int32 → Int32 → Mem → Option (Int32 × Mem)) (r0 : Option Nat) (i1 : Int32) (i2 : Int32) (i3 : Int32) (M : Mem) : Option (Int32 × Mem) :=
gR M r0 12 9 fun v1 =>
gR M r0 12 3 fun v2 =>
aI M v2 2 (2 : Int32) fun v3 =>
aI M v1 2 v3 fun v4 =>
(if v4 ≤ i3 then
some ((-1 : Int32), M)
else
gR M r0 12 3 fun v5 =>
aI M v5 2 (2 : Int32) fun v6 =>
gR M r0 12 12 fun v7 =>
aI M v7 2 (((20 : Int32) * v6) + i3) fun v8 =>
(if v8 = i1 then
cR M r0 (1, 12) (cA (f_X12_toBy r0 (((20 : Int32) * v6) + i3) i1 i2 M) fun v9 M1 =>
pI M1 r0 12 47 v9 fun M2 =>
gI M2 r0 12 47 fun v10 =>
(if v10 = (-1 : Int32) then
q2 r0 i1 i2 (i3 + (1 : Int32)) M2
else
some (i3, M2)))
else
q2 r0 i1 i2 (i3 + (1 : Int32)) M))
def f_X12_clauseFor_2 (n : Nat) : Option Nat → Int32 → Int32 → Int32 → Mem → Option (Int32 × Mem) := lpN (fun _ _ _ _ _ => none) (b_X12_clauseFor_2 ) n
def f_X12_clauseFor (r0 : Option Nat) (i1 : Int32) (i2 : Int32) (M : Mem) : Option (Int32 × Mem) :=
f_X12_clauseFor_2 FU r0 i1 i2 (0 : Int32) M
def L_X12_sumOf : List (Option (Instr × Nat)) := [some (.lconst 0, 1), some (.lstore 4, 2), none, some (.iconst 0, 1), some (.istore 6, 2), none, some (.iload_n 1, 1), some (.iconst (-1), 1), some (.if_icmp .eq 67, 3), none, none, some (.iload 6, 2), none, some (.aload_n 0, 1), some (.getfield 27, 3), none, none, some (.iload_n 1, 1), some (.iaload, 1), some (.if_icmp .ge 56, 3), none, none, some (.aload_n 0, 1), some (.getfield 30, 3), none, none, some (.bipush 20, 2), none, some (.iload_n 1, 1), some (.imul, 1), some (.iload 6, 2), none, some (.iadd, 1), some (.iaload, 1), some (.iload_n 2, 1), some (.if_icmp .ne 34, 3), none, none, some (.aload_n 0, 1), some (.iload_n 3, 1), some (.aload_n 0, 1), some (.getfield 381, 3), none, none, some (.aload_n 0, 1), some (.getfield 384, 3), none, none, some (.invokevirtual 373, 3), none, none, some (.aload_n 0, 1), some (.aload_n 0, 1), some (.getfield 33, 3), none, none, some (.bipush 20, 2), none, some (.iload_n 1, 1), some (.imul, 1), some (.iload 6, 2), none, some (.iadd, 1), some (.iaload, 1), some (.invokevirtual 377, 3), none, none, some (.lstore 4, 2), none, some (.iinc 6 1, 3), none, none, some (.goto (-66), 3), none, none, some (.lload 4, 2), none, some (.lreturn, 1)]
def Y_X12_sumOf : YM := (⟨RX12, "sumOf", "(III)J"⟩, prog_14_method_56_code, L_X12_sumOf, 7, some .long)
def b_X12_sumOf_6 (q6 : Option Nat → Int32 → Int32 → Int32 → Int64 → Int32 → Mem → Option (Int64 × Mem)) (r0 : Option Nat) (i1 : Int32) (i2 : Int32) (i3 : Int32) (l4 : Int64) (i6 : Int32) (M : Mem) : Option (Int64 × Mem) :=
(if i1 = (-1 : Int32) then
some (l4, M)
else
gR M r0 12 9 fun v1 =>
aI M v1 2 i1 fun v2 =>
(if v2 ≤ i6 then
some (l4, M)
else
gR M r0 12 10 fun v3 =>
aI M v3 2 (((20 : Int32) * i1) + i6) fun v4 =>
(if v4 = i2 then
gI M r0 12 46 fun v5 =>
gI M r0 12 47 fun v6 =>
cR M r0 (1, 12) (cA (f_X12_names r0 i3 v5 v6 M) fun _ M1 =>
gR M1 r0 12 11 fun v7 =>
aI M1 v7 2 (((20 : Int32) * i1) + i6) fun v8 =>
cR M1 r0 (1, 12) (cA (f_X12_saysOf r0 v8 M1) fun v9 M2 =>
q6 r0 i1 i2 i3 v9 (i6 + (1 : Int32)) M2))
else
q6 r0 i1 i2 i3 l4 (i6 + (1 : Int32)) M)))
def f_X12_sumOf_6 (n : Nat) : Option Nat → Int32 → Int32 → Int32 → Int64 → Int32 → Mem → Option (Int64 × Mem) := lpN (fun _ _ _ _ _ _ _ => none) (b_X12_sumOf_6 ) n
def f_X12_sumOf (r0 : Option Nat) (i1 : Int32) (i2 : Int32) (i3 : Int32) (M : Mem) : Option (Int64 × Mem) :=
f_X12_sumOf_6 FU r0 i1 i2 i3 (0 : Int64) (0 : Int32) M
set_option maxRecDepth 30000 in
theorem ok_X12_bound : okY Y_X12_bound := ⟨(gw_in 1561 rfl rfl), (gw_in 14 (by decide +kernel) (by decide +kernel)), by decide +kernel, by decide +kernel⟩
theorem ml_12_344 : MLs RX12 344 Y_X12_bound 1 := ⟨(gw_in 1559 (by decide +kernel) (by decide +kernel)), (gw_in 1560 (by decide +kernel) (by decide +kernel)), ok_X12_bound, by decide +kernel⟩
theorem fl_12_84 : FLk RX12 84 12 42 true := ⟨_, rfl, by decide, (gw_in 1158 (by decide +kernel) (by decide +kernel)), rfl⟩
theorem fl_12_51 : FLk RX12 51 12 17 true := ⟨_, rfl, by decide, (gw_in 1133 (by decide +kernel) (by decide +kernel)), rfl⟩
theorem fl_12_48 : FLk RX12 48 12 16 true := ⟨_, rfl, by decide, (gw_in 1132 (by decide +kernel) (by decide +kernel)), rfl⟩
set_option maxRecDepth 30000 in
theorem ok_X12_worked : okY Y_X12_worked := ⟨(gw_in 1558 rfl rfl), (gw_in 14 (by decide +kernel) (by decide +kernel)), by decide +kernel, by decide +kernel⟩
theorem ml_12_348 : MLs RX12 348 Y_X12_worked 3 := ⟨(gw_in 1556 (by decide +kernel) (by decide +kernel)), (gw_in 1557 (by decide +kernel) (by decide +kernel)), ok_X12_worked, by decide +kernel⟩
set_option maxRecDepth 30000 in
theorem ok_X12_actTo : okY Y_X12_actTo := ⟨(gw_in 1531 rfl rfl), (gw_in 14 (by decide +kernel) (by decide +kernel)), by decide +kernel, by decide +kernel⟩
theorem ml_12_370 : MLv RX12 370 Y_X12_actTo 2 := ⟨(gw_in 1528 (by decide +kernel) (by decide +kernel)), (gw_in 1530 (by decide +kernel) (by decide +kernel)), (gw_sel (n := 70) 77 (by decide +kernel) (by decide +kernel)), ok_X12_actTo, by decide +kernel⟩
theorem fl_12_33 : FLk RX12 33 12 11 true := ⟨_, rfl, by decide, (gw_in 1127 (by decide +kernel) (by decide +kernel)), rfl⟩
set_option maxRecDepth 30000 in
theorem ok_X12_names : okY Y_X12_names := ⟨(gw_in 1547 rfl rfl), (gw_in 14 (by decide +kernel) (by decide +kernel)), by decide +kernel, by decide +kernel⟩
theorem ml_12_373 : MLv RX12 373 Y_X12_names 3 := ⟨(gw_in 1544 (by decide +kernel) (by decide +kernel)), (gw_in 1546 (by decide +kernel) (by decide +kernel)), (gw_sel (n := 70) 81 (by decide +kernel) (by decide +kernel)), ok_X12_names, by decide +kernel⟩
set_option maxRecDepth 30000 in
theorem ok_X12_saysOf : okY Y_X12_saysOf := ⟨(gw_in 1555 rfl rfl), (gw_in 14 (by decide +kernel) (by decide +kernel)), by decide +kernel, by decide +kernel⟩
theorem ml_12_377 : MLv RX12 377 Y_X12_saysOf 1 := ⟨(gw_in 1552 (by decide +kernel) (by decide +kernel)), (gw_in 1554 (by decide +kernel) (by decide +kernel)), (gw_sel (n := 70) 83 (by decide +kernel) (by decide +kernel)), ok_X12_saysOf, by decide +kernel⟩
theorem fl_12_27 : FLk RX12 27 12 9 true := ⟨_, rfl, by decide, (gw_in 1125 (by decide +kernel) (by decide +kernel)), rfl⟩
theorem fl_12_36 : FLk RX12 36 12 12 true := ⟨_, rfl, by decide, (gw_in 1128 (by decide +kernel) (by decide +kernel)), rfl⟩
set_option maxRecDepth 30000 in
theorem ok_X12_toBy : okY Y_X12_toBy := ⟨(gw_in 1527 rfl rfl), (gw_in 14 (by decide +kernel) (by decide +kernel)), by decide +kernel, by decide +kernel⟩
theorem ml_12_387 : MLv RX12 387 Y_X12_toBy 3 := ⟨(gw_in 1524 (by decide +kernel) (by decide +kernel)), (gw_in 1526 (by decide +kernel) (by decide +kernel)), (gw_sel (n := 70) 76 (by decide +kernel) (by decide +kernel)), ok_X12_toBy, by decide +kernel⟩
theorem fl_12_384 : FLk RX12 384 12 47 false := ⟨_, rfl, by decide, (gw_in 1163 (by decide +kernel) (by decide +kernel)), rfl⟩
theorem fl_12_30 : FLk RX12 30 12 10 true := ⟨_, rfl, by decide, (gw_in 1126 (by decide +kernel) (by decide +kernel)), rfl⟩
theorem fl_12_381 : FLk RX12 381 12 46 false := ⟨_, rfl, by decide, (gw_in 1162 (by decide +kernel) (by decide +kernel)), rfl⟩
set_option maxRecDepth 20000 in
theorem dk_X12_worked : ∀ pc i, L_X12_worked[pc]? = some (some i) → decode prog_14_method_42_code pc = .ok i := dk_of (by decide +kernel)
theorem s_X12_worked {d : Nat} {P : Int64 → Mem → Prop} {i0 : Int32} {l1 : Int64} {l3 : Int64} {M : Mem} (h : FQ (f_X12_worked i0 l1 l3 M) P) : Con Y_X12_worked (d + 1) 0 0 [.int i0, .long l1, .long l3] M (QL P) := by
  refine Con.of [some (.int i0), some (.long l1), none, some (.long l3), none] (by decide +kernel) dk_X12_worked (by simp [Y_X12_worked, cat_rf, cat_i, cat_l]) (by simp [loE, Y_X12_worked, cat_rf, cat_i, cat_l, List.replicate]) ?_
  unfold f_X12_worked at h
  refine r_iload_n rfl rfl ?_
  refine r_lookup (ks := [(35, 171), (42, 114), (43, 100), (45, 107), (47, 121), (60, 135), (61, 159), (62, 147), (300, 183), (301, 195), (406, 207)]) (dt := 211) rfl (by decide) (by decide) (by decide) (by decide) ?_
  refine r_swc h (fun h => ?_) (fun h => ?_)
  · refine r_lload_n rfl rfl ?_
    refine r_lload_n rfl rfl ?_
    refine r_lcmp rfl ?_
    refine r_if_eq 181 rfl (by decide) h (fun h => ?_) (fun h => ?_)
    · refine r_lconst (v := 0) rfl (by decide) ?_
      exact r_lret rfl rfl ⟨Nat.le_of_ble_eq_true rfl, Nat.le_of_ble_eq_true rfl⟩ h
    · refine r_lconst (v := 1) rfl (by decide) ?_
      refine r_goto 182 rfl (by decide) ?_
      exact r_lret rfl rfl ⟨Nat.le_of_ble_eq_true rfl, Nat.le_of_ble_eq_true rfl⟩ h
  · refine r_swc h (fun h => ?_) (fun h => ?_)
    · refine r_lload_n rfl rfl ?_
      refine r_lload_n rfl rfl ?_
      refine r_lmul rfl ?_
      refine r_cs_l (vs := [.long (l1 * l3)]) rfl ml_12_344 (rOk.of rfl) ⟨Nat.zero_le _, Nat.zero_le _⟩ rfl rfl rfl h s_X12_bound (fun v3 M3 h => ?_)
      exact r_lret rfl rfl ⟨Nat.le_of_ble_eq_true rfl, Nat.le_of_ble_eq_true rfl⟩ h
    · refine r_swc h (fun h => ?_) (fun h => ?_)
      · refine r_lload_n rfl rfl ?_
        refine r_lload_n rfl rfl ?_
        refine r_ladd rfl ?_
        refine r_cs_l (vs := [.long (l1 + l3)]) rfl ml_12_344 (rOk.of rfl) ⟨Nat.zero_le _, Nat.zero_le _⟩ rfl rfl rfl h s_X12_bound (fun v2 M2 h => ?_)
        exact r_lret rfl rfl ⟨Nat.le_of_ble_eq_true rfl, Nat.le_of_ble_eq_true rfl⟩ h
      · refine r_swc h (fun h => ?_) (fun h => ?_)
        · refine r_lload_n rfl rfl ?_
          refine r_lload_n rfl rfl ?_
          refine r_lsub rfl ?_
          refine r_cs_l (vs := [.long (l1 - l3)]) rfl ml_12_344 (rOk.of rfl) ⟨Nat.zero_le _, Nat.zero_le _⟩ rfl rfl rfl h s_X12_bound (fun v1 M1 h => ?_)
          exact r_lret rfl rfl ⟨Nat.le_of_ble_eq_true rfl, Nat.le_of_ble_eq_true rfl⟩ h
        · refine r_swc h (fun h => ?_) (fun h => ?_)
          · refine r_lload_n rfl rfl ?_
            refine r_lconst (v := 0) rfl (by decide) ?_
            refine r_lcmp rfl ?_
            refine r_if_ne 131 rfl (by decide) h (fun h => ?_) (fun h => ?_)
            · refine r_lconst (v := 0) rfl (by decide) ?_
              refine r_goto 134 rfl (by decide) ?_
              exact r_lret rfl rfl ⟨Nat.le_of_ble_eq_true rfl, Nat.le_of_ble_eq_true rfl⟩ h
            · refine r_lload_n rfl rfl ?_
              refine r_lload_n rfl rfl ?_
              refine r_ldiv rfl h (fun h => ?_)
              exact r_lret rfl rfl ⟨Nat.le_of_ble_eq_true rfl, Nat.le_of_ble_eq_true rfl⟩ h
          · refine r_swc h (fun h => ?_) (fun h => ?_)
            · refine r_lload_n rfl rfl ?_
              refine r_lload_n rfl rfl ?_
              refine r_lcmp rfl ?_
              refine r_if_ge 145 rfl (by decide) h (fun h => ?_) (fun h => ?_)
              · refine r_lconst (v := 0) rfl (by decide) ?_
                exact r_lret rfl rfl ⟨Nat.le_of_ble_eq_true rfl, Nat.le_of_ble_eq_true rfl⟩ h
              · refine r_lconst (v := 1) rfl (by decide) ?_
                refine r_goto 146 rfl (by decide) ?_
                exact r_lret rfl rfl ⟨Nat.le_of_ble_eq_true rfl, Nat.le_of_ble_eq_true rfl⟩ h
            · refine r_swc h (fun h => ?_) (fun h => ?_)
              · refine r_lload_n rfl rfl ?_
                refine r_lload_n rfl rfl ?_
                refine r_lcmp rfl ?_
                refine r_if_ne 169 rfl (by decide) h (fun h => ?_) (fun h => ?_)
                · refine r_lconst (v := 1) rfl (by decide) ?_
                  refine r_goto 170 rfl (by decide) ?_
                  exact r_lret rfl rfl ⟨Nat.le_of_ble_eq_true rfl, Nat.le_of_ble_eq_true rfl⟩ h
                · refine r_lconst (v := 0) rfl (by decide) ?_
                  exact r_lret rfl rfl ⟨Nat.le_of_ble_eq_true rfl, Nat.le_of_ble_eq_true rfl⟩ h
              · refine r_swc h (fun h => ?_) (fun h => ?_)
                · refine r_lload_n rfl rfl ?_
                  refine r_lload_n rfl rfl ?_
                  refine r_lcmp rfl ?_
                  refine r_if_le 157 rfl (by decide) h (fun h => ?_) (fun h => ?_)
                  · refine r_lconst (v := 0) rfl (by decide) ?_
                    exact r_lret rfl rfl ⟨Nat.le_of_ble_eq_true rfl, Nat.le_of_ble_eq_true rfl⟩ h
                  · refine r_lconst (v := 1) rfl (by decide) ?_
                    refine r_goto 158 rfl (by decide) ?_
                    exact r_lret rfl rfl ⟨Nat.le_of_ble_eq_true rfl, Nat.le_of_ble_eq_true rfl⟩ h
                · refine r_swc h (fun h => ?_) (fun h => ?_)
                  · refine r_lload_n rfl rfl ?_
                    refine r_lload_n rfl rfl ?_
                    refine r_lcmp rfl ?_
                    refine r_if_gt 193 rfl (by decide) h (fun h => ?_) (fun h => ?_)
                    · refine r_lconst (v := 0) rfl (by decide) ?_
                      exact r_lret rfl rfl ⟨Nat.le_of_ble_eq_true rfl, Nat.le_of_ble_eq_true rfl⟩ h
                    · refine r_lconst (v := 1) rfl (by decide) ?_
                      refine r_goto 194 rfl (by decide) ?_
                      exact r_lret rfl rfl ⟨Nat.le_of_ble_eq_true rfl, Nat.le_of_ble_eq_true rfl⟩ h
                  · refine r_swc h (fun h => ?_) (fun h => ?_)
                    · refine r_lload_n rfl rfl ?_
                      refine r_lload_n rfl rfl ?_
                      refine r_lcmp rfl ?_
                      refine r_if_lt 205 rfl (by decide) h (fun h => ?_) (fun h => ?_)
                      · refine r_lconst (v := 0) rfl (by decide) ?_
                        exact r_lret rfl rfl ⟨Nat.le_of_ble_eq_true rfl, Nat.le_of_ble_eq_true rfl⟩ h
                      · refine r_lconst (v := 1) rfl (by decide) ?_
                        refine r_goto 206 rfl (by decide) ?_
                        exact r_lret rfl rfl ⟨Nat.le_of_ble_eq_true rfl, Nat.le_of_ble_eq_true rfl⟩ h
                    · refine r_swc h (fun h => ?_) (fun h => ?_)
                      · refine r_lload_n rfl rfl ?_
                        refine r_lload_n rfl rfl ?_
                        refine r_lmul rfl ?_
                        exact r_lret rfl rfl ⟨Nat.le_of_ble_eq_true rfl, Nat.le_of_ble_eq_true rfl⟩ h
                      · refine r_swd ?_
                        refine r_lload_n rfl rfl ?_
                        refine r_lload_n rfl rfl ?_
                        refine r_ladd rfl ?_
                        refine r_lconst (v := 0) rfl (by decide) ?_
                        refine r_lcmp rfl ?_
                        refine r_if_le 223 rfl (by decide) h (fun h => ?_) (fun h => ?_)
                        · refine r_lconst (v := 0) rfl (by decide) ?_
                          exact r_lret rfl rfl ⟨Nat.le_of_ble_eq_true rfl, Nat.le_of_ble_eq_true rfl⟩ h
                        · refine r_lconst (v := 1) rfl (by decide) ?_
                          refine r_goto 224 rfl (by decide) ?_
                          exact r_lret rfl rfl ⟨Nat.le_of_ble_eq_true rfl, Nat.le_of_ble_eq_true rfl⟩ h
set_option maxRecDepth 20000 in
theorem dk_X12_saysOf : ∀ pc i, L_X12_saysOf[pc]? = some (some i) → decode prog_14_method_43_code pc = .ok i := dk_of (by decide +kernel)
theorem s_X12_saysOf_40 {d : Nat} {P : Int64 → Mem → Prop} {q4 : Option Nat → Int32 → Int32 → Mem → Option (Int64 × Mem)} (hq4 : ∀ (r0 : Option Nat) (i2 : Int32) (i3 : Int32) (M : Mem), FQ (q4 r0 i2 i3 M) P → wp Y_X12_saysOf (rmD (d + 2) 0 0) (FM (QL P) 0 0) 0 0 4 [some (va_rf r0), none, some (.int i2), some (.int i3), none] [] M) (r0 : Option Nat) (i2 : Int32) (i3 : Int32) (i4 : Int32) (M : Mem) (h : FQ (f_X12_saysOf_40 q4 r0 i2 i3 i4 M) P) : wp Y_X12_saysOf (rmD (d + 2) 0 0) (FM (QL P) 0 0) 0 0 40 [some (va_rf r0), none, some (.int i2), some (.int i3), some (.int i4)] [] M := by
  unfold f_X12_saysOf_40 at h
  refine r_aload_n rfl rfl ?_
  refine r_getR rfl fl_12_84 rfl h (fun v1 h => ?_)
  refine r_iload_n rfl rfl ?_
  refine r_iload rfl rfl ?_
  refine r_sipush (v := 400) rfl (by decide) ?_
  refine r_ic_ne 63 rfl (by decide) h (fun h => ?_) (fun h => ?_)
  · refine r_aload_n rfl rfl ?_
    refine r_getR rfl fl_12_51 rfl h (fun v2 h => ?_)
    refine r_iload_n rfl rfl ?_
    refine r_iald rfl h (fun v3 h => ?_)
    refine r_i2l rfl ?_
    refine r_goto 75 rfl (by decide) ?_
    refine r_last rfl h (fun M1 h => ?_)
    refine r_iinc (v := 1) (lo' := [some (va_rf r0), none, some (.int (i2 + (1 : Int32))), some (.int i3), some (.int i4)]) rfl rfl rfl (by decide) rfl rfl ?_
    refine r_goto 169 rfl (by decide) ?_
    refine r_iinc (v := 1) (lo' := [some (va_rf r0), none, some (.int (i2 + (1 : Int32))), some (.int (i3 + (1 : Int32))), some (.int i4)]) rfl rfl rfl (by decide) rfl rfl ?_
    refine r_goto 4 rfl (by decide) ?_
    refine r_msk [true, true, true, true, false] rfl ?_
    exact hq4 _ _ _ _ h
  · refine r_aload_n rfl rfl ?_
    refine r_getR rfl fl_12_81 rfl h (fun v4 h => ?_)
    refine r_aload_n rfl rfl ?_
    refine r_getR rfl fl_12_51 rfl h (fun v5 h => ?_)
    refine r_iload_n rfl rfl ?_
    refine r_iald rfl h (fun v6 h => ?_)
    refine r_iald rfl h (fun v7 h => ?_)
    refine r_i2l rfl ?_
    refine r_last rfl h (fun M2 h => ?_)
    refine r_iinc (v := 1) (lo' := [some (va_rf r0), none, some (.int (i2 + (1 : Int32))), some (.int i3), some (.int i4)]) rfl rfl rfl (by decide) rfl rfl ?_
    refine r_goto 169 rfl (by decide) ?_
    refine r_iinc (v := 1) (lo' := [some (va_rf r0), none, some (.int (i2 + (1 : Int32))), some (.int (i3 + (1 : Int32))), some (.int i4)]) rfl rfl rfl (by decide) rfl rfl ?_
    refine r_goto 4 rfl (by decide) ?_
    refine r_msk [true, true, true, true, false] rfl ?_
    exact hq4 _ _ _ _ h
theorem sb_X12_saysOf_4 {d : Nat} {P : Int64 → Mem → Prop} {q4 : Option Nat → Int32 → Int32 → Mem → Option (Int64 × Mem)} (hq4 : ∀ (r0 : Option Nat) (i2 : Int32) (i3 : Int32) (M : Mem), FQ (q4 r0 i2 i3 M) P → wp Y_X12_saysOf (rmD (d + 2) 0 0) (FM (QL P) 0 0) 0 0 4 [some (va_rf r0), none, some (.int i2), some (.int i3), none] [] M) (r0 : Option Nat) (i2 : Int32) (i3 : Int32) (M : Mem) (h : FQ (b_X12_saysOf_4 q4 r0 i2 i3 M) P) : wp Y_X12_saysOf (rmD (d + 2) 0 0) (FM (QL P) 0 0) 0 0 4 [some (va_rf r0), none, some (.int i2), some (.int i3), none] [] M := by
  unfold b_X12_saysOf_4 at h
  refine r_aload_n rfl rfl ?_
  refine r_getR rfl fl_12_48 rfl h (fun v1 h => ?_)
  refine r_iload_n rfl rfl ?_
  refine r_iald rfl h (fun v2 h => ?_)
  refine r_sipush (v := 408) rfl (by decide) ?_
  refine r_ic_eq 175 rfl (by decide) h (fun h => ?_) (fun h => ?_)
  · refine r_aload_n rfl rfl ?_
    refine r_getR rfl fl_12_84 rfl h (fun v3 h => ?_)
    refine r_iconst (v := 0) rfl (by decide) ?_
    refine r_lald rfl h (fun v4 h => ?_)
    exact r_lret rfl rfl ⟨Nat.le_of_ble_eq_true rfl, Nat.le_of_ble_eq_true rfl⟩ h
  · refine r_aload_n rfl rfl ?_
    refine r_getR rfl fl_12_48 rfl h (fun v5 h => ?_)
    refine r_iload_n rfl rfl ?_
    refine r_iald rfl h (fun v6 h => ?_)
    refine r_istore (lo' := [some (va_rf r0), none, some (.int i2), some (.int i3), some (.int v6)]) rfl rfl rfl rfl ?_
    refine r_iload rfl rfl ?_
    refine r_sipush (v := 400) rfl (by decide) ?_
    refine r_ic_eq 40 rfl (by decide) h (fun h => ?_) (fun h => ?_)
    · exact s_X12_saysOf_40 hq4 _ _ _ _ _ h
    · refine r_iload rfl rfl ?_
      refine r_sipush (v := 401) rfl (by decide) ?_
      refine r_ic_ne 82 rfl (by decide) h (fun h => ?_) (fun h => ?_)
      · exact s_X12_saysOf_40 hq4 _ _ _ _ _ h
      · refine r_iload rfl rfl ?_
        refine r_sipush (v := 402) rfl (by decide) ?_
        refine r_ic_ne 110 rfl (by decide) h (fun h => ?_) (fun h => ?_)
        · refine r_aload_n rfl rfl ?_
          refine r_getR rfl fl_12_84 rfl h (fun v7 h => ?_)
          refine r_iload_n rfl rfl ?_
          refine r_iconst (v := 1) rfl (by decide) ?_
          refine r_isub rfl ?_
          refine r_aload_n rfl rfl ?_
          refine r_getR rfl fl_12_84 rfl h (fun v8 h => ?_)
          refine r_iload_n rfl rfl ?_
          refine r_iconst (v := 1) rfl (by decide) ?_
          refine r_isub rfl ?_
          refine r_lald rfl h (fun v9 h => ?_)
          refine r_lneg rfl ?_
          refine r_last rfl h (fun M1 h => ?_)
          refine r_goto 169 rfl (by decide) ?_
          refine r_iinc (v := 1) (lo' := [some (va_rf r0), none, some (.int i2), some (.int (i3 + (1 : Int32))), some (.int v6)]) rfl rfl rfl (by decide) rfl rfl ?_
          refine r_goto 4 rfl (by decide) ?_
          refine r_msk [true, true, true, true, false] rfl ?_
          exact hq4 _ _ _ _ h
        · refine r_iload rfl rfl ?_
          refine r_sipush (v := 405) rfl (by decide) ?_
          refine r_ic_ne 139 rfl (by decide) h (fun h => ?_) (fun h => ?_)
          · refine r_aload_n rfl rfl ?_
            refine r_getR rfl fl_12_84 rfl h (fun v10 h => ?_)
            refine r_iload_n rfl rfl ?_
            refine r_iconst (v := 1) rfl (by decide) ?_
            refine r_isub rfl ?_
            refine r_lconst (v := 1) rfl (by decide) ?_
            refine r_aload_n rfl rfl ?_
            refine r_getR rfl fl_12_84 rfl h (fun v11 h => ?_)
            refine r_iload_n rfl rfl ?_
            refine r_iconst (v := 1) rfl (by decide) ?_
            refine r_isub rfl ?_
            refine r_lald rfl h (fun v12 h => ?_)
            refine r_lsub rfl ?_
            refine r_last rfl h (fun M2 h => ?_)
            refine r_goto 169 rfl (by decide) ?_
            refine r_iinc (v := 1) (lo' := [some (va_rf r0), none, some (.int i2), some (.int (i3 + (1 : Int32))), some (.int v6)]) rfl rfl rfl (by decide) rfl rfl ?_
            refine r_goto 4 rfl (by decide) ?_
            refine r_msk [true, true, true, true, false] rfl ?_
            exact hq4 _ _ _ _ h
          · refine r_iinc (v := -1) (lo' := [some (va_rf r0), none, some (.int (i2 + (-1 : Int32))), some (.int i3), some (.int v6)]) rfl rfl rfl (by decide) rfl rfl ?_
            refine r_aload_n rfl rfl ?_
            refine r_getR rfl fl_12_84 rfl h (fun v13 h => ?_)
            refine r_iload_n rfl rfl ?_
            refine r_iconst (v := 1) rfl (by decide) ?_
            refine r_isub rfl ?_
            refine r_iload rfl rfl ?_
            refine r_aload_n rfl rfl ?_
            refine r_getR rfl fl_12_84 rfl h (fun v14 h => ?_)
            refine r_iload_n rfl rfl ?_
            refine r_iconst (v := 1) rfl (by decide) ?_
            refine r_isub rfl ?_
            refine r_lald rfl h (fun v15 h => ?_)
            refine r_aload_n rfl rfl ?_
            refine r_getR rfl fl_12_84 rfl h (fun v16 h => ?_)
            refine r_iload_n rfl rfl ?_
            refine r_lald rfl h (fun v17 h => ?_)
            refine r_cs_l (vs := [.int v6, .long v15, .long v17]) rfl ml_12_348 (rOk.of rfl) ⟨Nat.zero_le _, Nat.zero_le _⟩ rfl rfl rfl h s_X12_worked (fun v18 M3 h => ?_)
            refine r_last rfl h (fun M4 h => ?_)
            refine r_iinc (v := 1) (lo' := [some (va_rf r0), none, some (.int (i2 + (-1 : Int32))), some (.int (i3 + (1 : Int32))), some (.int v6)]) rfl rfl rfl (by decide) rfl rfl ?_
            refine r_goto 4 rfl (by decide) ?_
            refine r_msk [true, true, true, true, false] rfl ?_
            exact hq4 _ _ _ _ h
theorem s_X12_saysOf_4 {d : Nat} {P : Int64 → Mem → Prop}   : ∀ (k : Nat) (r0 : Option Nat) (i2 : Int32) (i3 : Int32) (M : Mem), FQ (f_X12_saysOf_4  k r0 i2 i3 M) P → wp Y_X12_saysOf (rmD (d + 2) 0 0) (FM (QL P) 0 0) 0 0 4 [some (va_rf r0), none, some (.int i2), some (.int i3), none] [] M
  | 0, _, _, _, _, h => h.no
  | k + 1, r0, i2, i3, M, h => sb_X12_saysOf_4  (s_X12_saysOf_4  k) r0 i2 i3 M h
theorem s_X12_saysOf {d : Nat} {P : Int64 → Mem → Prop} {r0 : Option Nat} {i1 : Int32} {M : Mem} (h : FQ (f_X12_saysOf r0 i1 M) P) : Con Y_X12_saysOf (d + 2) 0 0 [va_rf r0, .int i1] M (QL P) := by
  refine Con.of [some (va_rf r0), some (.int i1), none, none, none] (by decide +kernel) dk_X12_saysOf (by simp [Y_X12_saysOf, cat_rf, cat_i, cat_l]) (by simp [loE, Y_X12_saysOf, cat_rf, cat_i, cat_l, List.replicate]) ?_
  unfold f_X12_saysOf at h
  refine r_iconst (v := 0) rfl (by decide) ?_
  refine r_istore_n (lo' := [some (va_rf r0), some (.int i1), some (.int (0 : Int32)), none, none]) rfl rfl rfl rfl ?_
  refine r_iload_n rfl rfl ?_
  refine r_istore_n (lo' := [some (va_rf r0), some (.int i1), some (.int (0 : Int32)), some (.int i1), none]) rfl rfl rfl rfl ?_
  refine r_msk [true, false, true, true, true] rfl ?_
  exact s_X12_saysOf_4 FU _ _ _ _ h
set_option maxRecDepth 20000 in
theorem dk_X12_toBy : ∀ pc i, L_X12_toBy[pc]? = some (some i) → decode prog_14_method_55_code pc = .ok i := dk_of (by decide +kernel)
theorem s_X12_toBy {d : Nat} {P : Int32 → Mem → Prop} {r0 : Option Nat} {i1 : Int32} {i2 : Int32} {i3 : Int32} {M : Mem} (h : FQ (f_X12_toBy r0 i1 i2 i3 M) P) : Con Y_X12_toBy (d + 3) 0 0 [va_rf r0, .int i1, .int i2, .int i3] M (QI P) := by
  refine Con.of [some (va_rf r0), some (.int i1), some (.int i2), some (.int i3), none] (by decide +kernel) dk_X12_toBy (by simp [Y_X12_toBy, cat_rf, cat_i, cat_l]) (by simp [loE, Y_X12_toBy, cat_rf, cat_i, cat_l, List.replicate]) ?_
  unfold f_X12_toBy at h
  refine r_aload_n rfl rfl ?_
  refine r_iload_n rfl rfl ?_
  refine r_iload_n rfl rfl ?_
  refine r_cv_i (vs := [.int i1, .int i3]) rfl ml_12_370 rfl (rOk.of rfl) ⟨Nat.zero_le _, Nat.zero_le _⟩ rfl rfl rfl h s_X12_actTo (fun v1 M1 h => ?_)
  refine r_istore (lo' := [some (va_rf r0), some (.int i1), some (.int i2), some (.int i3), some (.int v1)]) rfl rfl rfl rfl ?_
  refine r_iload rfl rfl ?_
  refine r_iconst (v := -1) rfl (by decide) ?_
  refine r_ic_eq 55 rfl (by decide) h (fun h => ?_) (fun h => ?_)
  · refine r_iload rfl rfl ?_
    exact r_iret rfl rfl ⟨Nat.le_of_ble_eq_true rfl, Nat.le_of_ble_eq_true rfl⟩ h
  · refine r_aload_n rfl rfl ?_
    refine r_getR rfl fl_12_33 rfl h (fun v2 h => ?_)
    refine r_iload_n rfl rfl ?_
    refine r_iald rfl h (fun v3 h => ?_)
    refine r_iconst (v := -1) rfl (by decide) ?_
    refine r_ic_eq 55 rfl (by decide) h (fun h => ?_) (fun h => ?_)
    · refine r_iload rfl rfl ?_
      exact r_iret rfl rfl ⟨Nat.le_of_ble_eq_true rfl, Nat.le_of_ble_eq_true rfl⟩ h
    · refine r_aload_n rfl rfl ?_
      refine r_iload_n rfl rfl ?_
      refine r_iload_n rfl rfl ?_
      refine r_iload rfl rfl ?_
      refine r_cv_v (vs := [.int i2, .int i3, .int v1]) rfl ml_12_373 rfl (rOk.of rfl) ⟨Nat.zero_le _, Nat.zero_le _⟩ rfl rfl rfl h s_X12_names (fun _ M2 h => ?_)
      refine r_aload_n rfl rfl ?_
      refine r_aload_n rfl rfl ?_
      refine r_getR rfl fl_12_33 rfl h (fun v4 h => ?_)
      refine r_iload_n rfl rfl ?_
      refine r_iald rfl h (fun v5 h => ?_)
      refine r_cv_l (vs := [.int v5]) rfl ml_12_377 rfl (rOk.of rfl) ⟨Nat.zero_le _, Nat.zero_le _⟩ rfl rfl rfl h s_X12_saysOf (fun v6 M3 h => ?_)
      refine r_lconst (v := 0) rfl (by decide) ?_
      refine r_lcmp rfl ?_
      refine r_if_le 52 rfl (by decide) h (fun h => ?_) (fun h => ?_)
      · refine r_iconst (v := -1) rfl (by decide) ?_
        refine r_istore (lo' := [some (va_rf r0), some (.int i1), some (.int i2), some (.int i3), some (.int (-1 : Int32))]) rfl rfl rfl rfl ?_
        refine r_iload rfl rfl ?_
        exact r_iret rfl rfl ⟨Nat.le_of_ble_eq_true rfl, Nat.le_of_ble_eq_true rfl⟩ h
      · refine r_iload rfl rfl ?_
        refine r_goto 53 rfl (by decide) ?_
        refine r_istore (lo' := [some (va_rf r0), some (.int i1), some (.int i2), some (.int i3), some (.int v1)]) rfl rfl rfl rfl ?_
        refine r_iload rfl rfl ?_
        exact r_iret rfl rfl ⟨Nat.le_of_ble_eq_true rfl, Nat.le_of_ble_eq_true rfl⟩ h
set_option maxRecDepth 20000 in
theorem dk_X12_clauseFor : ∀ pc i, L_X12_clauseFor[pc]? = some (some i) → decode prog_14_method_57_code pc = .ok i := dk_of (by decide +kernel)
theorem sb_X12_clauseFor_2 {d : Nat} {P : Int32 → Mem → Prop} {q2 : Option Nat → Int32 → Int32 → Int32 → Mem → Option (Int32 × Mem)} (hq2 : ∀ (r0 : Option Nat) (i1 : Int32) (i2 : Int32) (i3 : Int32) (M : Mem), FQ (q2 r0 i1 i2 i3 M) P → wp Y_X12_clauseFor (rmD (d + 4) 0 0) (FM (QI P) 0 0) 0 0 2 [some (va_rf r0), some (.int i1), some (.int i2), some (.int i3), none] [] M) (r0 : Option Nat) (i1 : Int32) (i2 : Int32) (i3 : Int32) (M : Mem) (h : FQ (b_X12_clauseFor_2 q2 r0 i1 i2 i3 M) P) : wp Y_X12_clauseFor (rmD (d + 4) 0 0) (FM (QI P) 0 0) 0 0 2 [some (va_rf r0), some (.int i1), some (.int i2), some (.int i3), none] [] M := by
  unfold b_X12_clauseFor_2 at h
  refine r_iload_n rfl rfl ?_
  refine r_aload_n rfl rfl ?_
  refine r_getR rfl fl_12_27 rfl h (fun v1 h => ?_)
  refine r_aload_n rfl rfl ?_
  refine r_getR rfl fl_12_7 rfl h (fun v2 h => ?_)
  refine r_iconst (v := 2) rfl (by decide) ?_
  refine r_iald rfl h (fun v3 h => ?_)
  refine r_iald rfl h (fun v4 h => ?_)
  refine r_ic_ge 69 rfl (by decide) h (fun h => ?_) (fun h => ?_)
  · refine r_iconst (v := -1) rfl (by decide) ?_
    exact r_iret rfl rfl ⟨Nat.le_of_ble_eq_true rfl, Nat.le_of_ble_eq_true rfl⟩ h
  · refine r_bipush (v := 20) rfl (by decide) ?_
    refine r_aload_n rfl rfl ?_
    refine r_getR rfl fl_12_7 rfl h (fun v5 h => ?_)
    refine r_iconst (v := 2) rfl (by decide) ?_
    refine r_iald rfl h (fun v6 h => ?_)
    refine r_imul rfl ?_
    refine r_iload_n rfl rfl ?_
    refine r_iadd rfl ?_
    refine r_istore (lo' := [some (va_rf r0), some (.int i1), some (.int i2), some (.int i3), some (.int (((20 : Int32) * v6) + i3))]) rfl rfl rfl rfl ?_
    refine r_aload_n rfl rfl ?_
    refine r_getR rfl fl_12_36 rfl h (fun v7 h => ?_)
    refine r_iload rfl rfl ?_
    refine r_iald rfl h (fun v8 h => ?_)
    refine r_iload_n rfl rfl ?_
    refine r_ic_ne 63 rfl (by decide) h (fun h => ?_) (fun h => ?_)
    · refine r_aload_n rfl rfl ?_
      refine r_aload_n rfl rfl ?_
      refine r_iload rfl rfl ?_
      refine r_iload_n rfl rfl ?_
      refine r_iload_n rfl rfl ?_
      refine r_cv_i (vs := [.int (((20 : Int32) * v6) + i3), .int i1, .int i2]) rfl ml_12_387 rfl (rOk.of rfl) ⟨Nat.zero_le _, Nat.zero_le _⟩ rfl rfl rfl h s_X12_toBy (fun v9 M1 h => ?_)
      refine r_putI rfl fl_12_384 (fun z => by cases z) rfl h (fun M2 h => ?_)
      refine r_aload_n rfl rfl ?_
      refine r_getI rfl fl_12_384 rfl h (fun v10 h => ?_)
      refine r_iconst (v := -1) rfl (by decide) ?_
      refine r_ic_eq 63 rfl (by decide) h (fun h => ?_) (fun h => ?_)
      · refine r_iinc (v := 1) (lo' := [some (va_rf r0), some (.int i1), some (.int i2), some (.int (i3 + (1 : Int32))), some (.int (((20 : Int32) * v6) + i3))]) rfl rfl rfl (by decide) rfl rfl ?_
        refine r_goto 2 rfl (by decide) ?_
        refine r_msk [true, true, true, true, false] rfl ?_
        exact hq2 _ _ _ _ _ h
      · refine r_iload_n rfl rfl ?_
        exact r_iret rfl rfl ⟨Nat.le_of_ble_eq_true rfl, Nat.le_of_ble_eq_true rfl⟩ h
    · refine r_iinc (v := 1) (lo' := [some (va_rf r0), some (.int i1), some (.int i2), some (.int (i3 + (1 : Int32))), some (.int (((20 : Int32) * v6) + i3))]) rfl rfl rfl (by decide) rfl rfl ?_
      refine r_goto 2 rfl (by decide) ?_
      refine r_msk [true, true, true, true, false] rfl ?_
      exact hq2 _ _ _ _ _ h
theorem s_X12_clauseFor_2 {d : Nat} {P : Int32 → Mem → Prop}   : ∀ (k : Nat) (r0 : Option Nat) (i1 : Int32) (i2 : Int32) (i3 : Int32) (M : Mem), FQ (f_X12_clauseFor_2  k r0 i1 i2 i3 M) P → wp Y_X12_clauseFor (rmD (d + 4) 0 0) (FM (QI P) 0 0) 0 0 2 [some (va_rf r0), some (.int i1), some (.int i2), some (.int i3), none] [] M
  | 0, _, _, _, _, _, h => h.no
  | k + 1, r0, i1, i2, i3, M, h => sb_X12_clauseFor_2  (s_X12_clauseFor_2  k) r0 i1 i2 i3 M h
theorem s_X12_clauseFor {d : Nat} {P : Int32 → Mem → Prop} {r0 : Option Nat} {i1 : Int32} {i2 : Int32} {M : Mem} (h : FQ (f_X12_clauseFor r0 i1 i2 M) P) : Con Y_X12_clauseFor (d + 4) 0 0 [va_rf r0, .int i1, .int i2] M (QI P) := by
  refine Con.of [some (va_rf r0), some (.int i1), some (.int i2), none, none] (by decide +kernel) dk_X12_clauseFor (by simp [Y_X12_clauseFor, cat_rf, cat_i, cat_l]) (by simp [loE, Y_X12_clauseFor, cat_rf, cat_i, cat_l, List.replicate]) ?_
  unfold f_X12_clauseFor at h
  refine r_iconst (v := 0) rfl (by decide) ?_
  refine r_istore_n (lo' := [some (va_rf r0), some (.int i1), some (.int i2), some (.int (0 : Int32)), none]) rfl rfl rfl rfl ?_
  exact s_X12_clauseFor_2 FU _ _ _ _ _ h
set_option maxRecDepth 20000 in
theorem dk_X12_sumOf : ∀ pc i, L_X12_sumOf[pc]? = some (some i) → decode prog_14_method_56_code pc = .ok i := dk_of (by decide +kernel)
theorem sb_X12_sumOf_6 {d : Nat} {P : Int64 → Mem → Prop} {q6 : Option Nat → Int32 → Int32 → Int32 → Int64 → Int32 → Mem → Option (Int64 × Mem)} (hq6 : ∀ (r0 : Option Nat) (i1 : Int32) (i2 : Int32) (i3 : Int32) (l4 : Int64) (i6 : Int32) (M : Mem), FQ (q6 r0 i1 i2 i3 l4 i6 M) P → wp Y_X12_sumOf (rmD (d + 3) 0 0) (FM (QL P) 0 0) 0 0 6 [some (va_rf r0), some (.int i1), some (.int i2), some (.int i3), some (.long l4), none, some (.int i6)] [] M) (r0 : Option Nat) (i1 : Int32) (i2 : Int32) (i3 : Int32) (l4 : Int64) (i6 : Int32) (M : Mem) (h : FQ (b_X12_sumOf_6 q6 r0 i1 i2 i3 l4 i6 M) P) : wp Y_X12_sumOf (rmD (d + 3) 0 0) (FM (QL P) 0 0) 0 0 6 [some (va_rf r0), some (.int i1), some (.int i2), some (.int i3), some (.long l4), none, some (.int i6)] [] M := by
  unfold b_X12_sumOf_6 at h
  refine r_iload_n rfl rfl ?_
  refine r_iconst (v := -1) rfl (by decide) ?_
  refine r_ic_eq 75 rfl (by decide) h (fun h => ?_) (fun h => ?_)
  · refine r_lload rfl rfl ?_
    exact r_lret rfl rfl ⟨Nat.le_of_ble_eq_true rfl, Nat.le_of_ble_eq_true rfl⟩ h
  · refine r_iload rfl rfl ?_
    refine r_aload_n rfl rfl ?_
    refine r_getR rfl fl_12_27 rfl h (fun v1 h => ?_)
    refine r_iload_n rfl rfl ?_
    refine r_iald rfl h (fun v2 h => ?_)
    refine r_ic_ge 75 rfl (by decide) h (fun h => ?_) (fun h => ?_)
    · refine r_lload rfl rfl ?_
      exact r_lret rfl rfl ⟨Nat.le_of_ble_eq_true rfl, Nat.le_of_ble_eq_true rfl⟩ h
    · refine r_aload_n rfl rfl ?_
      refine r_getR rfl fl_12_30 rfl h (fun v3 h => ?_)
      refine r_bipush (v := 20) rfl (by decide) ?_
      refine r_iload_n rfl rfl ?_
      refine r_imul rfl ?_
      refine r_iload rfl rfl ?_
      refine r_iadd rfl ?_
      refine r_iald rfl h (fun v4 h => ?_)
      refine r_iload_n rfl rfl ?_
      refine r_ic_ne 69 rfl (by decide) h (fun h => ?_) (fun h => ?_)
      · refine r_aload_n rfl rfl ?_
        refine r_iload_n rfl rfl ?_
        refine r_aload_n rfl rfl ?_
        refine r_getI rfl fl_12_381 rfl h (fun v5 h => ?_)
        refine r_aload_n rfl rfl ?_
        refine r_getI rfl fl_12_384 rfl h (fun v6 h => ?_)
        refine r_cv_v (vs := [.int i3, .int v5, .int v6]) rfl ml_12_373 rfl (rOk.of rfl) ⟨Nat.zero_le _, Nat.zero_le _⟩ rfl rfl rfl h s_X12_names (fun _ M1 h => ?_)
        refine r_aload_n rfl rfl ?_
        refine r_aload_n rfl rfl ?_
        refine r_getR rfl fl_12_33 rfl h (fun v7 h => ?_)
        refine r_bipush (v := 20) rfl (by decide) ?_
        refine r_iload_n rfl rfl ?_
        refine r_imul rfl ?_
        refine r_iload rfl rfl ?_
        refine r_iadd rfl ?_
        refine r_iald rfl h (fun v8 h => ?_)
        refine r_cv_l (vs := [.int v8]) rfl ml_12_377 rfl (rOk.of rfl) ⟨Nat.zero_le _, Nat.zero_le _⟩ rfl rfl rfl h s_X12_saysOf (fun v9 M2 h => ?_)
        refine r_lstore (lo' := [some (va_rf r0), some (.int i1), some (.int i2), some (.int i3), some (.long v9), none, some (.int i6)]) rfl rfl rfl rfl ?_
        refine r_iinc (v := 1) (lo' := [some (va_rf r0), some (.int i1), some (.int i2), some (.int i3), some (.long v9), none, some (.int (i6 + (1 : Int32)))]) rfl rfl rfl (by decide) rfl rfl ?_
        refine r_goto 6 rfl (by decide) ?_
        exact hq6 _ _ _ _ _ _ _ h
      · refine r_iinc (v := 1) (lo' := [some (va_rf r0), some (.int i1), some (.int i2), some (.int i3), some (.long l4), none, some (.int (i6 + (1 : Int32)))]) rfl rfl rfl (by decide) rfl rfl ?_
        refine r_goto 6 rfl (by decide) ?_
        exact hq6 _ _ _ _ _ _ _ h
theorem s_X12_sumOf_6 {d : Nat} {P : Int64 → Mem → Prop}   : ∀ (k : Nat) (r0 : Option Nat) (i1 : Int32) (i2 : Int32) (i3 : Int32) (l4 : Int64) (i6 : Int32) (M : Mem), FQ (f_X12_sumOf_6  k r0 i1 i2 i3 l4 i6 M) P → wp Y_X12_sumOf (rmD (d + 3) 0 0) (FM (QL P) 0 0) 0 0 6 [some (va_rf r0), some (.int i1), some (.int i2), some (.int i3), some (.long l4), none, some (.int i6)] [] M
  | 0, _, _, _, _, _, _, _, h => h.no
  | k + 1, r0, i1, i2, i3, l4, i6, M, h => sb_X12_sumOf_6  (s_X12_sumOf_6  k) r0 i1 i2 i3 l4 i6 M h
theorem s_X12_sumOf {d : Nat} {P : Int64 → Mem → Prop} {r0 : Option Nat} {i1 : Int32} {i2 : Int32} {i3 : Int32} {M : Mem} (h : FQ (f_X12_sumOf r0 i1 i2 i3 M) P) : Con Y_X12_sumOf (d + 3) 0 0 [va_rf r0, .int i1, .int i2, .int i3] M (QL P) := by
  refine Con.of [some (va_rf r0), some (.int i1), some (.int i2), some (.int i3), none, none, none] (by decide +kernel) dk_X12_sumOf (by simp [Y_X12_sumOf, cat_rf, cat_i, cat_l]) (by simp [loE, Y_X12_sumOf, cat_rf, cat_i, cat_l, List.replicate]) ?_
  unfold f_X12_sumOf at h
  refine r_lconst (v := 0) rfl (by decide) ?_
  refine r_lstore (lo' := [some (va_rf r0), some (.int i1), some (.int i2), some (.int i3), some (.long (0 : Int64)), none, none]) rfl rfl rfl rfl ?_
  refine r_iconst (v := 0) rfl (by decide) ?_
  refine r_istore (lo' := [some (va_rf r0), some (.int i1), some (.int i2), some (.int i3), some (.long (0 : Int64)), none, some (.int (0 : Int32))]) rfl rfl rfl rfl ?_
  exact s_X12_sumOf_6 FU _ _ _ _ _ _ _ h
