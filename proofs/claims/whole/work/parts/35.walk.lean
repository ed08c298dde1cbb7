/-! walked by program (wip/gen): X5_advance X5_fail X5_expect X5_number X5_act X5_mayOpen X6_emit X5_levelOf -/
def L_X5_advance : List (Option (Instr × Nat)) := [some (.aload_n 0, 1), some (.getfield 34, 3), none, none, some (.aload_n 0, 1), some (.getfield 15, 3), none, none, some (.if_icmp .ge 44, 3), none, none, some (.aload_n 0, 1), some (.getfield 9, 3), none, none, some (.aload_n 0, 1), some (.getfield 34, 3), none, none, some (.iaload, 1), some (.bipush 32, 2), none, some (.if_icmp .eq 17, 3), none, none, some (.aload_n 0, 1), some (.getfield 9, 3), none, none, some (.aload_n 0, 1), some (.getfield 34, 3), none, none, some (.iaload, 1), some (.bipush 10, 2), none, some (.if_icmp .ne 16, 3), none, none, some (.aload_n 0, 1), some (.dup, 1), some (.getfield 34, 3), none, none, some (.iconst 1, 1), some (.iadd, 1), some (.putfield 34, 3), none, none, some (.goto (-49), 3), none, none, some (.aload_n 0, 1), some (.aload_n 0, 1), some (.getfield 34, 3), none, none, some (.putfield 49, 3), none, none, some (.aload_n 0, 1), some (.getfield 34, 3), none, none, some (.aload_n 0, 1), some (.getfield 15, 3), none, none, some (.if_icmp .lt 12, 3), none, none, some (.aload_n 0, 1), some (.bipush 35, 2), none, some (.putfield 40, 3), none, none, some (.goto 171, 3), none, none, some (.aload_n 0, 1), some (.getfield 9, 3), none, none, some (.aload_n 0, 1), some (.getfield 34, 3), none, none, some (.iaload, 1), some (.invokestatic 119, 3), none, none, some (.ifCond .eq 53, 3), none, none, some (.aload_n 0, 1), some (.getfield 34, 3), none, none, some (.aload_n 0, 1), some (.getfield 15, 3), none, none, some (.if_icmp .ge 31, 3), none, none, some (.aload_n 0, 1), some (.getfield 9, 3), none, none, some (.aload_n 0, 1), some (.getfield 34, 3), none, none, some (.iaload, 1), some (.invokestatic 119, 3), none, none, some (.ifCond .eq 16, 3), none, none, some (.aload_n 0, 1), some (.dup, 1), some (.getfield 34, 3), none, none, some (.iconst 1, 1), some (.iadd, 1), some (.putfield 34, 3), none, none, some (.goto (-36), 3), none, none, some (.aload_n 0, 1), some (.aload_n 0, 1), some (.invokevirtual 122, 3), none, none, some (.putfield 40, 3), none, none, some (.goto 106, 3), none, none, some (.aload_n 0, 1), some (.getfield 9, 3), none, none, some (.aload_n 0, 1), some (.getfield 34, 3), none, none, some (.iaload, 1), some (.invokestatic 126, 3), none, none, some (.ifCond .eq 83, 3), none, none, some (.aload_n 0, 1), some (.bipush 20, 2), none, some (.putfield 40, 3), none, none, some (.aload_n 0, 1), some (.iconst 0, 1), some (.putfield 101, 3), none, none, some (.aload_n 0, 1), some (.getfield 34, 3), none, none, some (.aload_n 0, 1), some (.getfield 15, 3), none, none, some (.if_icmp .ge 69, 3), none, none, some (.aload_n 0, 1), some (.getfield 9, 3), none, none, some (.aload_n 0, 1), some (.getfield 34, 3), none, none, some (.iaload, 1), some (.invokestatic 126, 3), none, none, some (.ifCond .eq 54, 3), none, none, some (.aload_n 0, 1), some (.sipush 10000, 3), none, none, some (.aload_n 0, 1), some (.getfield 101, 3), none, none, some (.bipush 10, 2), none, some (.imul, 1), some (.aload_n 0, 1), some (.getfield 9, 3), none, none, some (.aload_n 0, 1), some (.getfield 34, 3), none, none, some (.iaload, 1), some (.iadd, 1), some (.bipush 48, 2), none, some (.isub, 1), some (.invokestatic 129, 3), none, none, some (.putfield 101, 3), none, none, some (.aload_n 0, 1), some (.dup, 1), some (.getfield 34, 3), none, none, some (.iconst 1, 1), some (.iadd, 1), some (.putfield 34, 3), none, none, some (.goto (-66), 3), none, none, some (.aload_n 0, 1), some (.aload_n 0, 1), some (.invokevirtual 135, 3), none, none, some (.putfield 40, 3), none, none, some (.return_, 1)]
def Y_X5_advance : YM := (⟨RX5, "advance", "()V"⟩, prog_7_method_14_code, L_X5_advance, 1, none)
def b_X5_advance_171 (q171 : Option Nat → Mem → Option (Unit × Mem)) (r0 : Option Nat) (M : Mem) : Option (Unit × Mem) :=
gI M r0 5 5 fun v1 =>
gI M r0 5 1 fun v2 =>
(if v2 ≤ v1 then
some ((), M)
else
gR M r0 5 0 fun v3 =>
gI M r0 5 5 fun v4 =>
aI M v3 2 v4 fun v5 =>
cA (f_X5_isDigit v5 M) fun v6 M1 =>
(if v6 = 0 then
some ((), M1)
else
gI M1 r0 5 8 fun v7 =>
gR M1 r0 5 0 fun v8 =>
gI M1 r0 5 5 fun v9 =>
aI M1 v8 2 v9 fun v10 =>
pI M1 r0 5 8 (if (((v7 * (10 : Int32)) + v10) - (48 : Int32)) < (10000 : Int32) then (((v7 * (10 : Int32)) + v10) - (48 : Int32)) else (10000 : Int32)) fun M2 =>
gI M2 r0 5 5 fun v11 =>
pI M2 r0 5 5 (v11 + (1 : Int32)) fun M3 =>
q171 r0 M3))
def f_X5_advance_171 (n : Nat) : Option Nat → Mem → Option (Unit × Mem) := lpN (fun _ _ => none) (b_X5_advance_171 ) n
def b_X5_advance_95 (q95 : Option Nat → Mem → Option (Unit × Mem)) (r0 : Option Nat) (M : Mem) : Option (Unit × Mem) :=
gI M r0 5 5 fun v1 =>
gI M r0 5 1 fun v2 =>
(if v2 ≤ v1 then
cR M r0 (1, 5) (cA (f_X5_word r0 M) fun v3 M1 =>
pI M1 r0 5 6 v3 fun M2 =>
some ((), M2))
else
gR M r0 5 0 fun v4 =>
gI M r0 5 5 fun v5 =>
aI M v4 2 v5 fun v6 =>
cA (f_X5_isLetter v6 M) fun v7 M3 =>
(if v7 = 0 then
cR M3 r0 (1, 5) (cA (f_X5_word r0 M3) fun v8 M4 =>
pI M4 r0 5 6 v8 fun M5 =>
some ((), M5))
else
gI M3 r0 5 5 fun v9 =>
pI M3 r0 5 5 (v9 + (1 : Int32)) fun M6 =>
q95 r0 M6))
def f_X5_advance_95 (n : Nat) : Option Nat → Mem → Option (Unit × Mem) := lpN (fun _ _ => none) (b_X5_advance_95 ) n
def f_X5_advance_52  (r0 : Option Nat) (M : Mem) : Option (Unit × Mem) :=
gI M r0 5 5 fun v1 =>
pI M r0 5 7 v1 fun M1 =>
gI M1 r0 5 5 fun v2 =>
gI M1 r0 5 1 fun v3 =>
(if v2 < v3 then
gR M1 r0 5 0 fun v4 =>
gI M1 r0 5 5 fun v5 =>
aI M1 v4 2 v5 fun v6 =>
cA (f_X5_isLetter v6 M1) fun v7 M2 =>
(if v7 = 0 then
gR M2 r0 5 0 fun v8 =>
gI M2 r0 5 5 fun v9 =>
aI M2 v8 2 v9 fun v10 =>
cA (f_X5_isDigit v10 M2) fun v11 M3 =>
(if v11 = 0 then
cR M3 r0 (1, 5) (cA (f_X5_sign r0 M3) fun v12 M4 =>
pI M4 r0 5 6 v12 fun M5 =>
some ((), M5))
else
pI M3 r0 5 6 (20 : Int32) fun M6 =>
pI M6 r0 5 8 (0 : Int32) fun M7 =>
f_X5_advance_171 FU r0 M7)
else
f_X5_advance_95 FU r0 M2)
else
pI M1 r0 5 6 (35 : Int32) fun M8 =>
some ((), M8))
def b_X5_advance_0 (q0 : Option Nat → Mem → Option (Unit × Mem)) (r0 : Option Nat) (M : Mem) : Option (Unit × Mem) :=
gI M r0 5 5 fun v1 =>
gI M r0 5 1 fun v2 =>
(if v2 ≤ v1 then
f_X5_advance_52 r0 M
else
gR M r0 5 0 fun v3 =>
gI M r0 5 5 fun v4 =>
aI M v3 2 v4 fun v5 =>
(if v5 = (32 : Int32) then
gI M r0 5 5 fun v6 =>
pI M r0 5 5 (v6 + (1 : Int32)) fun M1 =>
q0 r0 M1
else
gR M r0 5 0 fun v7 =>
gI M r0 5 5 fun v8 =>
aI M v7 2 v8 fun v9 =>
(if v9 = (10 : Int32) then
gI M r0 5 5 fun v10 =>
pI M r0 5 5 (v10 + (1 : Int32)) fun M2 =>
q0 r0 M2
else
f_X5_advance_52 r0 M)))
def f_X5_advance_0 (n : Nat) : Option Nat → Mem → Option (Unit × Mem) := lpN (fun _ _ => none) (b_X5_advance_0 ) n
def f_X5_advance (r0 : Option Nat) (M : Mem) : Option (Unit × Mem) :=
f_X5_advance_0 FU r0 M
def L_X5_fail : List (Option (Instr × Nat)) := [some (.aload_n 0, 1), some (.getfield 19, 3), none, none, some (.ifCond .ne 16, 3), none, none, some (.aload_n 0, 1), some (.iload_n 1, 1), some (.putfield 19, 3), none, none, some (.aload_n 0, 1), some (.aload_n 0, 1), some (.getfield 49, 3), none, none, some (.putfield 22, 3), none, none, some (.return_, 1)]
def Y_X5_fail : YM := (⟨RX5, "fail", "(I)V"⟩, prog_7_method_4_code, L_X5_fail, 2, none)
def f_X5_fail (r0 : Option Nat) (i1 : Int32) (M : Mem) : Option (Unit × Mem) :=
gI M r0 5 2 fun v1 =>
(if v1 = 0 then
pI M r0 5 2 i1 fun M1 =>
gI M1 r0 5 7 fun v2 =>
pI M1 r0 5 3 v2 fun M2 =>
some ((), M2)
else
some ((), M))
def L_X5_expect : List (Option (Instr × Nat)) := [some (.aload_n 0, 1), some (.getfield 19, 3), none, none, some (.ifCond .eq 4, 3), none, none, some (.return_, 1), some (.aload_n 0, 1), some (.getfield 40, 3), none, none, some (.iload_n 1, 1), some (.if_icmp .ne 10, 3), none, none, some (.aload_n 0, 1), some (.invokevirtual 37, 3), none, none, some (.goto 8, 3), none, none, some (.aload_n 0, 1), some (.iconst 1, 1), some (.invokevirtual 56, 3), none, none, some (.return_, 1)]
def Y_X5_expect : YM := (⟨RX5, "expect", "(I)V"⟩, prog_7_method_7_code, L_X5_expect, 2, none)
def f_X5_expect (r0 : Option Nat) (i1 : Int32) (M : Mem) : Option (Unit × Mem) :=
gI M r0 5 2 fun v1 =>
(if v1 = 0 then
gI M r0 5 6 fun v2 =>
(if v2 = i1 then
cR M r0 (1, 5) (cA (f_X5_advance r0 M) fun _ M1 =>
some ((), M1))
else
cR M r0 (1, 5) (cA (f_X5_fail r0 (1 : Int32) M) fun _ M2 =>
some ((), M2)))
else
some ((), M))
def L_X5_number : List (Option (Instr × Nat)) := [some (.aload_n 0, 1), some (.getfield 19, 3), none, none, some (.ifCond .eq 5, 3), none, none, some (.iconst 0, 1), some (.ireturn, 1), some (.aload_n 0, 1), some (.getfield 101, 3), none, none, some (.istore_n 2, 1), some (.aload_n 0, 1), some (.getfield 40, 3), none, none, some (.bipush 20, 2), none, some (.if_icmp .eq 11, 3), none, none, some (.aload_n 0, 1), some (.iconst 1, 1), some (.invokevirtual 56, 3), none, none, some (.goto 20, 3), none, none, some (.iload_n 2, 1), some (.iload_n 1, 1), some (.if_icmp .le 11, 3), none, none, some (.aload_n 0, 1), some (.iconst 2, 1), some (.invokevirtual 56, 3), none, none, some (.goto 7, 3), none, none, some (.aload_n 0, 1), some (.invokevirtual 37, 3), none, none, some (.iload_n 2, 1), some (.ireturn, 1)]
def Y_X5_number : YM := (⟨RX5, "number", "(I)I"⟩, prog_7_method_8_code, L_X5_number, 3, some .int)
def f_X5_number (r0 : Option Nat) (i1 : Int32) (M : Mem) : Option (Int32 × Mem) :=
gI M r0 5 2 fun v1 =>
(if v1 = 0 then
gI M r0 5 8 fun v2 =>
gI M r0 5 6 fun v3 =>
(if v3 = (20 : Int32) then
(if v2 ≤ i1 then
cR M r0 (1, 5) (cA (f_X5_advance r0 M) fun _ M1 =>
some (v2, M1))
else
cR M r0 (1, 5) (cA (f_X5_fail r0 (2 : Int32) M) fun _ M2 =>
some (v2, M2)))
else
cR M r0 (1, 5) (cA (f_X5_fail r0 (1 : Int32) M) fun _ M3 =>
some (v2, M3)))
else
some ((0 : Int32), M))
def L_X5_act : List (Option (Instr × Nat)) := [some (.aload_n 1, 1), some (.aload_n 0, 1), some (.bipush 7, 2), none, some (.invokevirtual 86, 3), none, none, some (.putfield 90, 3), none, none, some (.aload_n 1, 1), some (.aload_n 0, 1), some (.getfield 40, 3), none, none, some (.putfield 93, 3), none, none, some (.aload_n 0, 1), some (.getfield 40, 3), none, none, some (.bipush 7, 2), none, some (.if_icmp .lt 12, 3), none, none, some (.aload_n 0, 1), some (.getfield 40, 3), none, none, some (.bipush 10, 2), none, some (.if_icmp .le 8, 3), none, none, some (.aload_n 0, 1), some (.iconst 1, 1), some (.invokevirtual 56, 3), none, none, some (.aload_n 0, 1), some (.aload_n 1, 1), some (.getfield 93, 3), none, none, some (.invokevirtual 83, 3), none, none, some (.aload_n 1, 1), some (.aload_n 0, 1), some (.iconst 3, 1), some (.invokevirtual 86, 3), none, none, some (.putfield 95, 3), none, none, some (.aload_n 0, 1), some (.bipush 33, 2), none, some (.invokevirtual 83, 3), none, none, some (.aload_n 1, 1), some (.aload_n 0, 1), some (.iconst 3, 1), some (.invokevirtual 86, 3), none, none, some (.putfield 98, 3), none, none, some (.return_, 1)]
def Y_X5_act : YM := (⟨RX5, "act", "(LGameOfNoes$Clause;)V"⟩, prog_7_method_6_code, L_X5_act, 2, none)
def f_X5_act_41  (r0 : Option Nat) (r1 : Option Nat) (M : Mem) : Option (Unit × Mem) :=
gI M r1 1 3 fun v1 =>
cR M r0 (1, 5) (cA (f_X5_expect r0 v1 M) fun _ M1 =>
cR M1 r0 (1, 5) (cA (f_X5_number r0 (3 : Int32) M1) fun v2 M2 =>
pI M2 r1 1 4 v2 fun M3 =>
cR M3 r0 (1, 5) (cA (f_X5_expect r0 (33 : Int32) M3) fun _ M4 =>
cR M4 r0 (1, 5) (cA (f_X5_number r0 (3 : Int32) M4) fun v3 M5 =>
pI M5 r1 1 5 v3 fun M6 =>
some ((), M6)))))
def f_X5_act (r0 : Option Nat) (r1 : Option Nat) (M : Mem) : Option (Unit × Mem) :=
cR M r0 (1, 5) (cA (f_X5_number r0 (7 : Int32) M) fun v1 M1 =>
pI M1 r1 1 2 v1 fun M2 =>
gI M2 r0 5 6 fun v2 =>
pI M2 r1 1 3 v2 fun M3 =>
gI M3 r0 5 6 fun v3 =>
(if v3 < (7 : Int32) then
cR M3 r0 (1, 5) (cA (f_X5_fail r0 (1 : Int32) M3) fun _ M4 =>
f_X5_act_41 r0 r1 M4)
else
gI M3 r0 5 6 fun v4 =>
(if v4 ≤ (10 : Int32) then
f_X5_act_41 r0 r1 M3
else
cR M3 r0 (1, 5) (cA (f_X5_fail r0 (1 : Int32) M3) fun _ M5 =>
f_X5_act_41 r0 r1 M5))))
def L_X5_mayOpen : List (Option (Instr × Nat)) := [some (.iload_n 1, 1), some (.bipush 8, 2), none, some (.if_icmp .lt 8, 3), none, none, some (.aload_n 0, 1), some (.iconst 3, 1), some (.invokevirtual 56, 3), none, none, some (.iload_n 1, 1), some (.bipush 8, 2), none, some (.if_icmp .ge 7, 3), none, none, some (.iconst 1, 1), some (.goto 4, 3), none, none, some (.iconst 0, 1), some (.ireturn, 1)]
def Y_X5_mayOpen : YM := (⟨RX5, "mayOpen", "(I)Z"⟩, prog_7_method_13_code, L_X5_mayOpen, 2, some .boolean)
def f_X5_mayOpen (r0 : Option Nat) (i1 : Int32) (M : Mem) : Option (Int32 × Mem) :=
(if i1 < (8 : Int32) then
(if (8 : Int32) ≤ i1 then
tv (0 : Int32) (some ((0 : Int32), M))
else
tv (1 : Int32) (some ((1 : Int32), M)))
else
cR M r0 (1, 5) (cA (f_X5_fail r0 (3 : Int32) M) fun _ M1 =>
(if (8 : Int32) ≤ i1 then
tv (0 : Int32) (some ((0 : Int32), M1))
else
tv (1 : Int32) (some ((1 : Int32), M1)))))
def L_X6_emit : List (Option (Instr × Nat)) := [some (.aload_n 0, 1), some (.getfield 34, 3), none, none, some (.aload_n 0, 1), some (.getfield 23, 3), none, none, some (.arraylength, 1), some (.if_icmp .ge 23, 3), none, none, some (.aload_n 0, 1), some (.getfield 23, 3), none, none, some (.aload_n 0, 1), some (.getfield 34, 3), none, none, some (.iload_n 1, 1), some (.iastore, 1), some (.aload_n 0, 1), some (.dup, 1), some (.getfield 34, 3), none, none, some (.iconst 1, 1), some (.iadd, 1), some (.putfield 34, 3), none, none, some (.return_, 1)]
def Y_X6_emit : YM := (⟨RX6, "emit", "(I)V"⟩, prog_8_method_6_code, L_X6_emit, 2, none)
def f_X6_emit (r0 : Option Nat) (i1 : Int32) (M : Mem) : Option (Unit × Mem) :=
gI M r0 6 5 fun v1 =>
gR M r0 6 3 fun v2 =>
aN M v2 fun v3 =>
(if v3 ≤ v1 then
some ((), M)
else
gR M r0 6 3 fun v4 =>
gI M r0 6 5 fun v5 =>
wI M v4 2 v5 i1 fun M1 =>
gI M1 r0 6 5 fun v6 =>
pI M1 r0 6 5 (v6 + (1 : Int32)) fun M2 =>
some ((), M2))
def L_X5_levelOf : List (Option (Instr × Nat)) := [some (.iload_n 0, 1), some (.tableswitch 79 17 30 #[73, 71, 79, 79, 79, 79, 79, 79, 79, 79, 75, 75, 77, 77], 71), none, none, none, none, none, none, none, none, none, none, none, none, none, none, none, none, none, none, none, none, none, none, none, none, none, none, none, none, none, none, none, none, none, none, none, none, none, none, none, none, none, none, none, none, none, none, none, none, none, none, none, none, none, none, none, none, none, none, none, none, none, none, none, none, none, none, none, none, none, none, some (.iconst 0, 1), some (.ireturn, 1), some (.iconst 1, 1), some (.ireturn, 1), some (.iconst 3, 1), some (.ireturn, 1), some (.iconst 4, 1), some (.ireturn, 1), some (.iconst (-1), 1), some (.ireturn, 1)]
def Y_X5_levelOf : YM := (⟨RX5, "levelOf", "(I)I"⟩, prog_7_method_10_code, L_X5_levelOf, 1, some .int)
def f_X5_levelOf (i0 : Int32) (M : Mem) : Option (Int32 × Mem) :=
(if i0 = (17 : Int32) then
some ((1 : Int32), M)
else
(if i0 = (18 : Int32) then
some ((0 : Int32), M)
else
(if i0 = (19 : Int32) then
some ((-1 : Int32), M)
else
(if i0 = (20 : Int32) then
some ((-1 : Int32), M)
else
(if i0 = (21 : Int32) then
some ((-1 : Int32), M)
else
(if i0 = (22 : Int32) then
some ((-1 : Int32), M)
else
(if i0 = (23 : Int32) then
some ((-1 : Int32), M)
else
(if i0 = (24 : Int32) then
some ((-1 : Int32), M)
else
(if i0 = (25 : Int32) then
some ((-1 : Int32), M)
else
(if i0 = (26 : Int32) then
some ((-1 : Int32), M)
else
(if i0 = (27 : Int32) then
some ((3 : Int32), M)
else
(if i0 = (28 : Int32) then
some ((3 : Int32), M)
else
(if i0 = (29 : Int32) then
some ((4 : Int32), M)
else
(if i0 = (30 : Int32) then
some ((4 : Int32), M)
else
some ((-1 : Int32), M)))))))))))))))
set_option maxRecDepth 30000 in
theorem ok_X5_isDigit : okY Y_X5_isDigit := ⟨(gw_in 564 rfl rfl), (gw_in 6 (by decide +kernel) (by decide +kernel)), by decide +kernel, by decide +kernel⟩
theorem ml_5_126 : MLs RX5 126 Y_X5_isDigit 1 := ⟨(gw_in 562 (by decide +kernel) (by decide +kernel)), (gw_in 563 (by decide +kernel) (by decide +kernel)), ok_X5_isDigit, by decide +kernel⟩
theorem fl_5_101 : FLk RX5 101 5 8 false := ⟨_, rfl, by decide, (gw_in 181 (by decide +kernel) (by decide +kernel)), rfl⟩
theorem mk_5_129 : Jvm.Cond.methodLink RX5 129 Lib.Math.min.name ∈ gw := gw_in 565 (by decide +kernel) (by decide +kernel)
set_option maxRecDepth 30000 in
theorem ok_X5_word : okY Y_X5_word := ⟨(gw_in 512 rfl rfl), (gw_in 6 (by decide +kernel) (by decide +kernel)), by decide +kernel, by decide +kernel⟩
theorem ml_5_122 : MLv RX5 122 Y_X5_word 0 := ⟨(gw_in 509 (by decide +kernel) (by decide +kernel)), (gw_in 511 (by decide +kernel) (by decide +kernel)), (gw_sel (n := 9) 1 (by decide +kernel) (by decide +kernel)), ok_X5_word, by decide +kernel⟩
theorem fl_5_40 : FLk RX5 40 5 6 false := ⟨_, rfl, by decide, (gw_in 179 (by decide +kernel) (by decide +kernel)), rfl⟩
set_option maxRecDepth 30000 in
theorem ok_X5_isLetter : okY Y_X5_isLetter := ⟨(gw_in 508 rfl rfl), (gw_in 6 (by decide +kernel) (by decide +kernel)), by decide +kernel, by decide +kernel⟩
theorem ml_5_119 : MLs RX5 119 Y_X5_isLetter 1 := ⟨(gw_in 506 (by decide +kernel) (by decide +kernel)), (gw_in 507 (by decide +kernel) (by decide +kernel)), ok_X5_isLetter, by decide +kernel⟩
set_option maxRecDepth 30000 in
theorem ok_X5_sign : okY Y_X5_sign := ⟨(gw_in 569 rfl rfl), (gw_in 6 (by decide +kernel) (by decide +kernel)), by decide +kernel, by decide +kernel⟩
theorem ml_5_135 : MLv RX5 135 Y_X5_sign 0 := ⟨(gw_in 566 (by decide +kernel) (by decide +kernel)), (gw_in 568 (by decide +kernel) (by decide +kernel)), (gw_sel (n := 9) 2 (by decide +kernel) (by decide +kernel)), ok_X5_sign, by decide +kernel⟩
set_option maxRecDepth 30000 in
theorem ok_X5_advance : okY Y_X5_advance := ⟨(gw_in 505 rfl rfl), (gw_in 6 (by decide +kernel) (by decide +kernel)), by decide +kernel, by decide +kernel⟩
theorem ml_5_37 : MLv RX5 37 Y_X5_advance 0 := ⟨(gw_in 502 (by decide +kernel) (by decide +kernel)), (gw_in 504 (by decide +kernel) (by decide +kernel)), (gw_sel (n := 9) 0 (by decide +kernel) (by decide +kernel)), ok_X5_advance, by decide +kernel⟩
set_option maxRecDepth 30000 in
theorem ok_X5_fail : okY Y_X5_fail := ⟨(gw_in 638 rfl rfl), (gw_in 6 (by decide +kernel) (by decide +kernel)), by decide +kernel, by decide +kernel⟩
theorem ml_5_56 : MLv RX5 56 Y_X5_fail 1 := ⟨(gw_in 635 (by decide +kernel) (by decide +kernel)), (gw_in 637 (by decide +kernel) (by decide +kernel)), (gw_sel (n := 9) 4 (by decide +kernel) (by decide +kernel)), ok_X5_fail, by decide +kernel⟩
theorem fl_5_93 : FLk RX5 93 1 3 false := ⟨_, rfl, by decide, (gw_in 107 (by decide +kernel) (by decide +kernel)), rfl⟩
set_option maxRecDepth 30000 in
theorem ok_X5_expect : okY Y_X5_expect := ⟨(gw_in 659 rfl rfl), (gw_in 6 (by decide +kernel) (by decide +kernel)), by decide +kernel, by decide +kernel⟩
theorem ml_5_83 : MLv RX5 83 Y_X5_expect 1 := ⟨(gw_in 656 (by decide +kernel) (by decide +kernel)), (gw_in 658 (by decide +kernel) (by decide +kernel)), (gw_sel (n := 9) 7 (by decide +kernel) (by decide +kernel)), ok_X5_expect, by decide +kernel⟩
set_option maxRecDepth 30000 in
theorem ok_X5_number : okY Y_X5_number := ⟨(gw_in 655 rfl rfl), (gw_in 6 (by decide +kernel) (by decide +kernel)), by decide +kernel, by decide +kernel⟩
theorem ml_5_86 : MLv RX5 86 Y_X5_number 1 := ⟨(gw_in 652 (by decide +kernel) (by decide +kernel)), (gw_in 654 (by decide +kernel) (by decide +kernel)), (gw_sel (n := 9) 6 (by decide +kernel) (by decide +kernel)), ok_X5_number, by decide +kernel⟩
theorem fl_5_95 : FLk RX5 95 1 4 false := ⟨_, rfl, by decide, (gw_in 109 (by decide +kernel) (by decide +kernel)), rfl⟩
theorem fl_5_98 : FLk RX5 98 1 5 false := ⟨_, rfl, by decide, (gw_in 111 (by decide +kernel) (by decide +kernel)), rfl⟩
theorem fl_5_90 : FLk RX5 90 1 2 false := ⟨_, rfl, by decide, (gw_in 104 (by decide +kernel) (by decide +kernel)), rfl⟩
set_option maxRecDepth 20000 in
theorem dk_X5_advance : ∀ pc i, L_X5_advance[pc]? = some (some i) → decode prog_7_method_14_code pc = .ok i := dk_of (by decide +kernel)
theorem sb_X5_advance_171 {d : Nat} {P : Unit → Mem → Prop} {q171 : Option Nat → Mem → Option (Unit × Mem)} (hq171 : ∀ (r0 : Option Nat) (M : Mem), FQ (q171 r0 M) P → wp Y_X5_advance (rmD (d + 8) 0 0) (FM (QV P) 0 0) 0 0 171 [some (va_rf r0)] [] M) (r0 : Option Nat) (M : Mem) (h : FQ (b_X5_advance_171 q171 r0 M) P) : wp Y_X5_advance (rmD (d + 8) 0 0) (FM (QV P) 0 0) 0 0 171 [some (va_rf r0)] [] M := by
  unfold b_X5_advance_171 at h
  refine r_aload_n rfl rfl ?_
  refine r_getI rfl fl_5_34 rfl h (fun v1 h => ?_)
  refine r_aload_n rfl rfl ?_
  refine r_getI rfl fl_5_15 rfl h (fun v2 h => ?_)
  refine r_ic_ge 248 rfl (by decide) h (fun h => ?_) (fun h => ?_)
  · exact r_vret rfl rfl ⟨Nat.le_of_ble_eq_true rfl, Nat.le_of_ble_eq_true rfl⟩ h
  · refine r_aload_n rfl rfl ?_
    refine r_getR rfl fl_5_9 rfl h (fun v3 h => ?_)
    refine r_aload_n rfl rfl ?_
    refine r_getI rfl fl_5_34 rfl h (fun v4 h => ?_)
    refine r_iald rfl h (fun v5 h => ?_)
    refine r_cs_i (vs := [.int v5]) rfl ml_5_126 (rOk.of rfl) ⟨Nat.zero_le _, Nat.zero_le _⟩ rfl rfl rfl h s_X5_isDigit (fun v6 M1 h => ?_)
    refine r_if_eq 248 rfl (by decide) h (fun h => ?_) (fun h => ?_)
    · exact r_vret rfl rfl ⟨Nat.le_of_ble_eq_true rfl, Nat.le_of_ble_eq_true rfl⟩ h
    · refine r_aload_n rfl rfl ?_
      refine r_sipush (v := 10000) rfl (by decide) ?_
      refine r_aload_n rfl rfl ?_
      refine r_getI rfl fl_5_101 rfl h (fun v7 h => ?_)
      refine r_bipush (v := 10) rfl (by decide) ?_
      refine r_imul rfl ?_
      refine r_aload_n rfl rfl ?_
      refine r_getR rfl fl_5_9 rfl h (fun v8 h => ?_)
      refine r_aload_n rfl rfl ?_
      refine r_getI rfl fl_5_34 rfl h (fun v9 h => ?_)
      refine r_iald rfl h (fun v10 h => ?_)
      refine r_iadd rfl ?_
      refine r_bipush (v := 48) rfl (by decide) ?_
      refine r_isub rfl ?_
      refine r_mmin rfl mk_5_129 ⟨by show 1 ≤ _ + 1; omega, by show 40 ≤ 64 * (_ + 1); omega⟩ ⟨Nat.le_of_ble_eq_true rfl, Nat.le_of_ble_eq_true rfl⟩ rfl ?_
      refine r_putI rfl fl_5_101 (fun z => by cases z) rfl h (fun M2 h => ?_)
      refine r_aload_n rfl rfl ?_
      refine r_dup rfl (cat_rf _) ?_
      refine r_getI rfl fl_5_34 rfl h (fun v11 h => ?_)
      refine r_iconst (v := 1) rfl (by decide) ?_
      refine r_iadd rfl ?_
      refine r_putI rfl fl_5_34 (fun z => by cases z) rfl h (fun M3 h => ?_)
      refine r_goto 171 rfl (by decide) ?_
      exact hq171 _ _ h
theorem s_X5_advance_171 {d : Nat} {P : Unit → Mem → Prop}   : ∀ (k : Nat) (r0 : Option Nat) (M : Mem), FQ (f_X5_advance_171  k r0 M) P → wp Y_X5_advance (rmD (d + 8) 0 0) (FM (QV P) 0 0) 0 0 171 [some (va_rf r0)] [] M
  | 0, _, _, h => h.no
  | k + 1, r0, M, h => sb_X5_advance_171  (s_X5_advance_171  k) r0 M h
theorem sb_X5_advance_95 {d : Nat} {P : Unit → Mem → Prop} {q95 : Option Nat → Mem → Option (Unit × Mem)} (hq95 : ∀ (r0 : Option Nat) (M : Mem), FQ (q95 r0 M) P → wp Y_X5_advance (rmD (d + 8) 0 0) (FM (QV P) 0 0) 0 0 95 [some (va_rf r0)] [] M) (r0 : Option Nat) (M : Mem) (h : FQ (b_X5_advance_95 q95 r0 M) P) : wp Y_X5_advance (rmD (d + 8) 0 0) (FM (QV P) 0 0) 0 0 95 [some (va_rf r0)] [] M := by
  unfold b_X5_advance_95 at h
  refine r_aload_n rfl rfl ?_
  refine r_getI rfl fl_5_34 rfl h (fun v1 h => ?_)
  refine r_aload_n rfl rfl ?_
  refine r_getI rfl fl_5_15 rfl h (fun v2 h => ?_)
  refine r_ic_ge 134 rfl (by decide) h (fun h => ?_) (fun h => ?_)
  · refine r_aload_n rfl rfl ?_
    refine r_aload_n rfl rfl ?_
    refine r_cv_i (vs := []) rfl ml_5_122 rfl (rOk.of rfl) ⟨Nat.zero_le _, Nat.zero_le _⟩ rfl rfl rfl h s_X5_word (fun v3 M1 h => ?_)
    refine r_putI rfl fl_5_40 (fun z => by cases z) rfl h (fun M2 h => ?_)
    refine r_goto 248 rfl (by decide) ?_
    exact r_vret rfl rfl ⟨Nat.le_of_ble_eq_true rfl, Nat.le_of_ble_eq_true rfl⟩ h
  · refine r_aload_n rfl rfl ?_
    refine r_getR rfl fl_5_9 rfl h (fun v4 h => ?_)
    refine r_aload_n rfl rfl ?_
    refine r_getI rfl fl_5_34 rfl h (fun v5 h => ?_)
    refine r_iald rfl h (fun v6 h => ?_)
    refine r_cs_i (vs := [.int v6]) rfl ml_5_119 (rOk.of rfl) ⟨Nat.zero_le _, Nat.zero_le _⟩ rfl rfl rfl h s_X5_isLetter (fun v7 M3 h => ?_)
    refine r_if_eq 134 rfl (by decide) h (fun h => ?_) (fun h => ?_)
    · refine r_aload_n rfl rfl ?_
      refine r_aload_n rfl rfl ?_
      refine r_cv_i (vs := []) rfl ml_5_122 rfl (rOk.of rfl) ⟨Nat.zero_le _, Nat.zero_le _⟩ rfl rfl rfl h s_X5_word (fun v8 M4 h => ?_)
      refine r_putI rfl fl_5_40 (fun z => by cases z) rfl h (fun M5 h => ?_)
      refine r_goto 248 rfl (by decide) ?_
      exact r_vret rfl rfl ⟨Nat.le_of_ble_eq_true rfl, Nat.le_of_ble_eq_true rfl⟩ h
    · refine r_aload_n rfl rfl ?_
      refine r_dup rfl (cat_rf _) ?_
      refine r_getI rfl fl_5_34 rfl h (fun v9 h => ?_)
      refine r_iconst (v := 1) rfl (by decide) ?_
      refine r_iadd rfl ?_
      refine r_putI rfl fl_5_34 (fun z => by cases z) rfl h (fun M6 h => ?_)
      refine r_goto 95 rfl (by decide) ?_
      exact hq95 _ _ h
theorem s_X5_advance_95 {d : Nat} {P : Unit → Mem → Prop}   : ∀ (k : Nat) (r0 : Option Nat) (M : Mem), FQ (f_X5_advance_95  k r0 M) P → wp Y_X5_advance (rmD (d + 8) 0 0) (FM (QV P) 0 0) 0 0 95 [some (va_rf r0)] [] M
  | 0, _, _, h => h.no
  | k + 1, r0, M, h => sb_X5_advance_95  (s_X5_advance_95  k) r0 M h
theorem s_X5_advance_52 {d : Nat} {P : Unit → Mem → Prop}   (r0 : Option Nat) (M : Mem) (h : FQ (f_X5_advance_52  r0 M) P) : wp Y_X5_advance (rmD (d + 8) 0 0) (FM (QV P) 0 0) 0 0 52 [some (va_rf r0)] [] M := by
  unfold f_X5_advance_52 at h
  refine r_aload_n rfl rfl ?_
  refine r_aload_n rfl rfl ?_
  refine r_getI rfl fl_5_34 rfl h (fun v1 h => ?_)
  refine r_putI rfl fl_5_49 (fun z => by cases z) rfl h (fun M1 h => ?_)
  refine r_aload_n rfl rfl ?_
  refine r_getI rfl fl_5_34 rfl h (fun v2 h => ?_)
  refine r_aload_n rfl rfl ?_
  refine r_getI rfl fl_5_15 rfl h (fun v3 h => ?_)
  refine r_ic_lt 80 rfl (by decide) h (fun h => ?_) (fun h => ?_)
  · refine r_aload_n rfl rfl ?_
    refine r_getR rfl fl_5_9 rfl h (fun v4 h => ?_)
    refine r_aload_n rfl rfl ?_
    refine r_getI rfl fl_5_34 rfl h (fun v5 h => ?_)
    refine r_iald rfl h (fun v6 h => ?_)
    refine r_cs_i (vs := [.int v6]) rfl ml_5_119 (rOk.of rfl) ⟨Nat.zero_le _, Nat.zero_le _⟩ rfl rfl rfl h s_X5_isLetter (fun v7 M2 h => ?_)
    refine r_if_eq 145 rfl (by decide) h (fun h => ?_) (fun h => ?_)
    · refine r_aload_n rfl rfl ?_
      refine r_getR rfl fl_5_9 rfl h (fun v8 h => ?_)
      refine r_aload_n rfl rfl ?_
      refine r_getI rfl fl_5_34 rfl h (fun v9 h => ?_)
      refine r_iald rfl h (fun v10 h => ?_)
      refine r_cs_i (vs := [.int v10]) rfl ml_5_126 (rOk.of rfl) ⟨Nat.zero_le _, Nat.zero_le _⟩ rfl rfl rfl h s_X5_isDigit (fun v11 M3 h => ?_)
      refine r_if_eq 240 rfl (by decide) h (fun h => ?_) (fun h => ?_)
      · refine r_aload_n rfl rfl ?_
        refine r_aload_n rfl rfl ?_
        refine r_cv_i (vs := []) rfl ml_5_135 rfl (rOk.of rfl) ⟨Nat.zero_le _, Nat.zero_le _⟩ rfl rfl rfl h s_X5_sign (fun v12 M4 h => ?_)
        refine r_putI rfl fl_5_40 (fun z => by cases z) rfl h (fun M5 h => ?_)
        exact r_vret rfl rfl ⟨Nat.le_of_ble_eq_true rfl, Nat.le_of_ble_eq_true rfl⟩ h
      · refine r_aload_n rfl rfl ?_
        refine r_bipush (v := 20) rfl (by decide) ?_
        refine r_putI rfl fl_5_40 (fun z => by cases z) rfl h (fun M6 h => ?_)
        refine r_aload_n rfl rfl ?_
        refine r_iconst (v := 0) rfl (by decide) ?_
        refine r_putI rfl fl_5_101 (fun z => by cases z) rfl h (fun M7 h => ?_)
        exact s_X5_advance_171 FU _ _ h
    · exact s_X5_advance_95 FU _ _ h
  · refine r_aload_n rfl rfl ?_
    refine r_bipush (v := 35) rfl (by decide) ?_
    refine r_putI rfl fl_5_40 (fun z => by cases z) rfl h (fun M8 h => ?_)
    refine r_goto 248 rfl (by decide) ?_
    exact r_vret rfl rfl ⟨Nat.le_of_ble_eq_true rfl, Nat.le_of_ble_eq_true rfl⟩ h
theorem sb_X5_advance_0 {d : Nat} {P : Unit → Mem → Prop} {q0 : Option Nat → Mem → Option (Unit × Mem)} (hq0 : ∀ (r0 : Option Nat) (M : Mem), FQ (q0 r0 M) P → wp Y_X5_advance (rmD (d + 8) 0 0) (FM (QV P) 0 0) 0 0 0 [some (va_rf r0)] [] M) (r0 : Option Nat) (M : Mem) (h : FQ (b_X5_advance_0 q0 r0 M) P) : wp Y_X5_advance (rmD (d + 8) 0 0) (FM (QV P) 0 0) 0 0 0 [some (va_rf r0)] [] M := by
  unfold b_X5_advance_0 at h
  refine r_aload_n rfl rfl ?_
  refine r_getI rfl fl_5_34 rfl h (fun v1 h => ?_)
  refine r_aload_n rfl rfl ?_
  refine r_getI rfl fl_5_15 rfl h (fun v2 h => ?_)
  refine r_ic_ge 52 rfl (by decide) h (fun h => ?_) (fun h => ?_)
  · exact s_X5_advance_52 _ _ h
  · refine r_aload_n rfl rfl ?_
    refine r_getR rfl fl_5_9 rfl h (fun v3 h => ?_)
    refine r_aload_n rfl rfl ?_
    refine r_getI rfl fl_5_34 rfl h (fun v4 h => ?_)
    refine r_iald rfl h (fun v5 h => ?_)
    refine r_bipush (v := 32) rfl (by decide) ?_
    refine r_ic_eq 39 rfl (by decide) h (fun h => ?_) (fun h => ?_)
    · refine r_aload_n rfl rfl ?_
      refine r_dup rfl (cat_rf _) ?_
      refine r_getI rfl fl_5_34 rfl h (fun v6 h => ?_)
      refine r_iconst (v := 1) rfl (by decide) ?_
      refine r_iadd rfl ?_
      refine r_putI rfl fl_5_34 (fun z => by cases z) rfl h (fun M1 h => ?_)
      refine r_goto 0 rfl (by decide) ?_
      exact hq0 _ _ h
    · refine r_aload_n rfl rfl ?_
      refine r_getR rfl fl_5_9 rfl h (fun v7 h => ?_)
      refine r_aload_n rfl rfl ?_
      refine r_getI rfl fl_5_34 rfl h (fun v8 h => ?_)
      refine r_iald rfl h (fun v9 h => ?_)
      refine r_bipush (v := 10) rfl (by decide) ?_
      refine r_ic_ne 52 rfl (by decide) h (fun h => ?_) (fun h => ?_)
      · refine r_aload_n rfl rfl ?_
        refine r_dup rfl (cat_rf _) ?_
        refine r_getI rfl fl_5_34 rfl h (fun v10 h => ?_)
        refine r_iconst (v := 1) rfl (by decide) ?_
        refine r_iadd rfl ?_
        refine r_putI rfl fl_5_34 (fun z => by cases z) rfl h (fun M2 h => ?_)
        refine r_goto 0 rfl (by decide) ?_
        exact hq0 _ _ h
      · exact s_X5_advance_52 _ _ h
theorem s_X5_advance_0 {d : Nat} {P : Unit → Mem → Prop}   : ∀ (k : Nat) (r0 : Option Nat) (M : Mem), FQ (f_X5_advance_0  k r0 M) P → wp Y_X5_advance (rmD (d + 8) 0 0) (FM (QV P) 0 0) 0 0 0 [some (va_rf r0)] [] M
  | 0, _, _, h => h.no
  | k + 1, r0, M, h => sb_X5_advance_0  (s_X5_advance_0  k) r0 M h
theorem s_X5_advance {d : Nat} {P : Unit → Mem → Prop} {r0 : Option Nat} {M : Mem} (h : FQ (f_X5_advance r0 M) P) : Con Y_X5_advance (d + 8) 0 0 [va_rf r0] M (QV P) := by
  refine Con.of [some (va_rf r0)] (by decide +kernel) dk_X5_advance (by simp [Y_X5_advance, cat_rf, cat_i, cat_l]) (by simp [loE, Y_X5_advance, cat_rf, cat_i, cat_l, List.replicate]) ?_
  unfold f_X5_advance at h
  exact s_X5_advance_0 FU _ _ h
set_option maxRecDepth 20000 in
theorem dk_X5_fail : ∀ pc i, L_X5_fail[pc]? = some (some i) → decode prog_7_method_4_code pc = .ok i := dk_of (by decide +kernel)
theorem s_X5_fail {d : Nat} {P : Unit → Mem → Prop} {r0 : Option Nat} {i1 : Int32} {M : Mem} (h : FQ (f_X5_fail r0 i1 M) P) : Con Y_X5_fail d 0 0 [va_rf r0, .int i1] M (QV P) := by
  refine Con.of [some (va_rf r0), some (.int i1)] (by decide +kernel) dk_X5_fail (by simp [Y_X5_fail, cat_rf, cat_i, cat_l]) (by simp [loE, Y_X5_fail, cat_rf, cat_i, cat_l, List.replicate]) ?_
  unfold f_X5_fail at h
  refine r_aload_n rfl rfl ?_
  refine r_getI rfl fl_5_19 rfl h (fun v1 h => ?_)
  refine r_if_ne 20 rfl (by decide) h (fun h => ?_) (fun h => ?_)
  · refine r_aload_n rfl rfl ?_
    refine r_iload_n rfl rfl ?_
    refine r_putI rfl fl_5_19 (fun z => by cases z) rfl h (fun M1 h => ?_)
    refine r_aload_n rfl rfl ?_
    refine r_aload_n rfl rfl ?_
    refine r_getI rfl fl_5_49 rfl h (fun v2 h => ?_)
    refine r_putI rfl fl_5_22 (fun z => by cases z) rfl h (fun M2 h => ?_)
    exact r_vret rfl rfl ⟨Nat.le_of_ble_eq_true rfl, Nat.le_of_ble_eq_true rfl⟩ h
  · exact r_vret rfl rfl ⟨Nat.le_of_ble_eq_true rfl, Nat.le_of_ble_eq_true rfl⟩ h
set_option maxRecDepth 20000 in
theorem dk_X5_expect : ∀ pc i, L_X5_expect[pc]? = some (some i) → decode prog_7_method_7_code pc = .ok i := dk_of (by decide +kernel)
theorem s_X5_expect {d : Nat} {P : Unit → Mem → Prop} {r0 : Option Nat} {i1 : Int32} {M : Mem} (h : FQ (f_X5_expect r0 i1 M) P) : Con Y_X5_expect (d + 9) 0 0 [va_rf r0, .int i1] M (QV P) := by
  refine Con.of [some (va_rf r0), some (.int i1)] (by decide +kernel) dk_X5_expect (by simp [Y_X5_expect, cat_rf, cat_i, cat_l]) (by simp [loE, Y_X5_expect, cat_rf, cat_i, cat_l, List.replicate]) ?_
  unfold f_X5_expect at h
  refine r_aload_n rfl rfl ?_
  refine r_getI rfl fl_5_19 rfl h (fun v1 h => ?_)
  refine r_if_eq 8 rfl (by decide) h (fun h => ?_) (fun h => ?_)
  · refine r_aload_n rfl rfl ?_
    refine r_getI rfl fl_5_40 rfl h (fun v2 h => ?_)
    refine r_iload_n rfl rfl ?_
    refine r_ic_ne 23 rfl (by decide) h (fun h => ?_) (fun h => ?_)
    · refine r_aload_n rfl rfl ?_
      refine r_cv_v (vs := []) rfl ml_5_37 rfl (rOk.of rfl) ⟨Nat.zero_le _, Nat.zero_le _⟩ rfl rfl rfl h s_X5_advance (fun _ M1 h => ?_)
      refine r_goto 28 rfl (by decide) ?_
      exact r_vret rfl rfl ⟨Nat.le_of_ble_eq_true rfl, Nat.le_of_ble_eq_true rfl⟩ h
    · refine r_aload_n rfl rfl ?_
      refine r_iconst (v := 1) rfl (by decide) ?_
      refine r_cv_v (vs := [.int (1 : Int32)]) rfl ml_5_56 rfl (rOk.of rfl) ⟨Nat.zero_le _, Nat.zero_le _⟩ rfl rfl rfl h s_X5_fail (fun _ M2 h => ?_)
      exact r_vret rfl rfl ⟨Nat.le_of_ble_eq_true rfl, Nat.le_of_ble_eq_true rfl⟩ h
  · exact r_vret rfl rfl ⟨Nat.le_of_ble_eq_true rfl, Nat.le_of_ble_eq_true rfl⟩ h
set_option maxRecDepth 20000 in
theorem dk_X5_number : ∀ pc i, L_X5_number[pc]? = some (some i) → decode prog_7_method_8_code pc = .ok i := dk_of (by decide +kernel)
theorem s_X5_number {d : Nat} {P : Int32 → Mem → Prop} {r0 : Option Nat} {i1 : Int32} {M : Mem} (h : FQ (f_X5_number r0 i1 M) P) : Con Y_X5_number (d + 9) 0 0 [va_rf r0, .int i1] M (QI P) := by
  refine Con.of [some (va_rf r0), some (.int i1), none] (by decide +kernel) dk_X5_number (by simp [Y_X5_number, cat_rf, cat_i, cat_l]) (by simp [loE, Y_X5_number, cat_rf, cat_i, cat_l, List.replicate]) ?_
  unfold f_X5_number at h
  refine r_aload_n rfl rfl ?_
  refine r_getI rfl fl_5_19 rfl h (fun v1 h => ?_)
  refine r_if_eq 9 rfl (by decide) h (fun h => ?_) (fun h => ?_)
  · refine r_aload_n rfl rfl ?_
    refine r_getI rfl fl_5_101 rfl h (fun v2 h => ?_)
    refine r_istore_n (lo' := [some (va_rf r0), some (.int i1), some (.int v2)]) rfl rfl rfl rfl ?_
    refine r_aload_n rfl rfl ?_
    refine r_getI rfl fl_5_40 rfl h (fun v3 h => ?_)
    refine r_bipush (v := 20) rfl (by decide) ?_
    refine r_ic_eq 31 rfl (by decide) h (fun h => ?_) (fun h => ?_)
    · refine r_iload_n rfl rfl ?_
      refine r_iload_n rfl rfl ?_
      refine r_ic_le 44 rfl (by decide) h (fun h => ?_) (fun h => ?_)
      · refine r_aload_n rfl rfl ?_
        refine r_cv_v (vs := []) rfl ml_5_37 rfl (rOk.of rfl) ⟨Nat.zero_le _, Nat.zero_le _⟩ rfl rfl rfl h s_X5_advance (fun _ M1 h => ?_)
        refine r_iload_n rfl rfl ?_
        exact r_iret rfl rfl ⟨Nat.le_of_ble_eq_true rfl, Nat.le_of_ble_eq_true rfl⟩ h
      · refine r_aload_n rfl rfl ?_
        refine r_iconst (v := 2) rfl (by decide) ?_
        refine r_cv_v (vs := [.int (2 : Int32)]) rfl ml_5_56 rfl (rOk.of rfl) ⟨Nat.zero_le _, Nat.zero_le _⟩ rfl rfl rfl h s_X5_fail (fun _ M2 h => ?_)
        refine r_goto 48 rfl (by decide) ?_
        refine r_iload_n rfl rfl ?_
        exact r_iret rfl rfl ⟨Nat.le_of_ble_eq_true rfl, Nat.le_of_ble_eq_true rfl⟩ h
    · refine r_aload_n rfl rfl ?_
      refine r_iconst (v := 1) rfl (by decide) ?_
      refine r_cv_v (vs := [.int (1 : Int32)]) rfl ml_5_56 rfl (rOk.of rfl) ⟨Nat.zero_le _, Nat.zero_le _⟩ rfl rfl rfl h s_X5_fail (fun _ M3 h => ?_)
      refine r_goto 48 rfl (by decide) ?_
      refine r_iload_n rfl rfl ?_
      exact r_iret rfl rfl ⟨Nat.le_of_ble_eq_true rfl, Nat.le_of_ble_eq_true rfl⟩ h
  · refine r_iconst (v := 0) rfl (by decide) ?_
    exact r_iret rfl rfl ⟨Nat.le_of_ble_eq_true rfl, Nat.le_of_ble_eq_true rfl⟩ h
set_option maxRecDepth 20000 in
theorem dk_X5_act : ∀ pc i, L_X5_act[pc]? = some (some i) → decode prog_7_method_6_code pc = .ok i := dk_of (by decide +kernel)
theorem s_X5_act_41 {d : Nat} {P : Unit → Mem → Prop}   (r0 : Option Nat) (r1 : Option Nat) (M : Mem) (h : FQ (f_X5_act_41  r0 r1 M) P) : wp Y_X5_act (rmD (d + 10) 0 0) (FM (QV P) 0 0) 0 0 41 [some (va_rf r0), some (va_rf r1)] [] M := by
  unfold f_X5_act_41 at h
  refine r_aload_n rfl rfl ?_
  refine r_aload_n rfl rfl ?_
  refine r_getI rfl fl_5_93 rfl h (fun v1 h => ?_)
  refine r_cv_v (vs := [.int v1]) rfl ml_5_83 rfl (rOk.of rfl) ⟨Nat.zero_le _, Nat.zero_le _⟩ rfl rfl rfl h s_X5_expect (fun _ M1 h => ?_)
  refine r_aload_n rfl rfl ?_
  refine r_aload_n rfl rfl ?_
  refine r_iconst (v := 3) rfl (by decide) ?_
  refine r_cv_i (vs := [.int (3 : Int32)]) rfl ml_5_86 rfl (rOk.of rfl) ⟨Nat.zero_le _, Nat.zero_le _⟩ rfl rfl rfl h s_X5_number (fun v2 M2 h => ?_)
  refine r_putI rfl fl_5_95 (fun z => by cases z) rfl h (fun M3 h => ?_)
  refine r_aload_n rfl rfl ?_
  refine r_bipush (v := 33) rfl (by decide) ?_
  refine r_cv_v (vs := [.int (33 : Int32)]) rfl ml_5_83 rfl (rOk.of rfl) ⟨Nat.zero_le _, Nat.zero_le _⟩ rfl rfl rfl h s_X5_expect (fun _ M4 h => ?_)
  refine r_aload_n rfl rfl ?_
  refine r_aload_n rfl rfl ?_
  refine r_iconst (v := 3) rfl (by decide) ?_
  refine r_cv_i (vs := [.int (3 : Int32)]) rfl ml_5_86 rfl (rOk.of rfl) ⟨Nat.zero_le _, Nat.zero_le _⟩ rfl rfl rfl h s_X5_number (fun v3 M5 h => ?_)
  refine r_putI rfl fl_5_98 (fun z => by cases z) rfl h (fun M6 h => ?_)
  exact r_vret rfl rfl ⟨Nat.le_of_ble_eq_true rfl, Nat.le_of_ble_eq_true rfl⟩ h
theorem s_X5_act {d : Nat} {P : Unit → Mem → Prop} {r0 : Option Nat} {r1 : Option Nat} {M : Mem} (h : FQ (f_X5_act r0 r1 M) P) : Con Y_X5_act (d + 10) 0 0 [va_rf r0, va_rf r1] M (QV P) := by
  refine Con.of [some (va_rf r0), some (va_rf r1)] (by decide +kernel) dk_X5_act (by simp [Y_X5_act, cat_rf, cat_i, cat_l]) (by simp [loE, Y_X5_act, cat_rf, cat_i, cat_l, List.replicate]) ?_
  unfold f_X5_act at h
  refine r_aload_n rfl rfl ?_
  refine r_aload_n rfl rfl ?_
  refine r_bipush (v := 7) rfl (by decide) ?_
  refine r_cv_i (vs := [.int (7 : Int32)]) rfl ml_5_86 rfl (rOk.of rfl) ⟨Nat.zero_le _, Nat.zero_le _⟩ rfl rfl rfl h s_X5_number (fun v1 M1 h => ?_)
  refine r_putI rfl fl_5_90 (fun z => by cases z) rfl h (fun M2 h => ?_)
  refine r_aload_n rfl rfl ?_
  refine r_aload_n rfl rfl ?_
  refine r_getI rfl fl_5_40 rfl h (fun v2 h => ?_)
  refine r_putI rfl fl_5_93 (fun z => by cases z) rfl h (fun M3 h => ?_)
  refine r_aload_n rfl rfl ?_
  refine r_getI rfl fl_5_40 rfl h (fun v3 h => ?_)
  refine r_bipush (v := 7) rfl (by decide) ?_
  refine r_ic_lt 36 rfl (by decide) h (fun h => ?_) (fun h => ?_)
  · refine r_aload_n rfl rfl ?_
    refine r_iconst (v := 1) rfl (by decide) ?_
    refine r_cv_v (vs := [.int (1 : Int32)]) rfl ml_5_56 rfl (rOk.of rfl) ⟨Nat.zero_le _, Nat.zero_le _⟩ rfl rfl rfl h s_X5_fail (fun _ M4 h => ?_)
    exact s_X5_act_41 _ _ _ h
  · refine r_aload_n rfl rfl ?_
    refine r_getI rfl fl_5_40 rfl h (fun v4 h => ?_)
    refine r_bipush (v := 10) rfl (by decide) ?_
    refine r_ic_le 41 rfl (by decide) h (fun h => ?_) (fun h => ?_)
    · exact s_X5_act_41 _ _ _ h
    · refine r_aload_n rfl rfl ?_
      refine r_iconst (v := 1) rfl (by decide) ?_
      refine r_cv_v (vs := [.int (1 : Int32)]) rfl ml_5_56 rfl (rOk.of rfl) ⟨Nat.zero_le _, Nat.zero_le _⟩ rfl rfl rfl h s_X5_fail (fun _ M5 h => ?_)
      exact s_X5_act_41 _ _ _ h
set_option maxRecDepth 20000 in
theorem dk_X5_mayOpen : ∀ pc i, L_X5_mayOpen[pc]? = some (some i) → decode prog_7_method_13_code pc = .ok i := dk_of (by decide +kernel)
theorem s_X5_mayOpen {d : Nat} {P : Int32 → Mem → Prop} {r0 : Option Nat} {i1 : Int32} {M : Mem} (h : FQ (f_X5_mayOpen r0 i1 M) P) : Con Y_X5_mayOpen (d + 1) 0 0 [va_rf r0, .int i1] M (QI P) := by
  refine Con.of [some (va_rf r0), some (.int i1)] (by decide +kernel) dk_X5_mayOpen (by simp [Y_X5_mayOpen, cat_rf, cat_i, cat_l]) (by simp [loE, Y_X5_mayOpen, cat_rf, cat_i, cat_l, List.replicate]) ?_
  unfold f_X5_mayOpen at h
  refine r_iload_n rfl rfl ?_
  refine r_bipush (v := 8) rfl (by decide) ?_
  refine r_ic_lt 11 rfl (by decide) h (fun h => ?_) (fun h => ?_)
  · refine r_iload_n rfl rfl ?_
    refine r_bipush (v := 8) rfl (by decide) ?_
    refine r_ic_ge 21 rfl (by decide) h (fun h => ?_) (fun h => ?_)
    · refine r_iconst (v := 0) rfl (by decide) ?_
      exact r_zret rfl rfl ⟨Nat.le_of_ble_eq_true rfl, Nat.le_of_ble_eq_true rfl⟩ h
    · refine r_iconst (v := 1) rfl (by decide) ?_
      refine r_goto 22 rfl (by decide) ?_
      exact r_zret rfl rfl ⟨Nat.le_of_ble_eq_true rfl, Nat.le_of_ble_eq_true rfl⟩ h
  · refine r_aload_n rfl rfl ?_
    refine r_iconst (v := 3) rfl (by decide) ?_
    refine r_cv_v (vs := [.int (3 : Int32)]) rfl ml_5_56 rfl (rOk.of rfl) ⟨Nat.zero_le _, Nat.zero_le _⟩ rfl rfl rfl h s_X5_fail (fun _ M1 h => ?_)
    refine r_iload_n rfl rfl ?_
    refine r_bipush (v := 8) rfl (by decide) ?_
    refine r_ic_ge 21 rfl (by decide) h (fun h => ?_) (fun h => ?_)
    · refine r_iconst (v := 0) rfl (by decide) ?_
      exact r_zret rfl rfl ⟨Nat.le_of_ble_eq_true rfl, Nat.le_of_ble_eq_true rfl⟩ h
    · refine r_iconst (v := 1) rfl (by decide) ?_
      refine r_goto 22 rfl (by decide) ?_
      exact r_zret rfl rfl ⟨Nat.le_of_ble_eq_true rfl, Nat.le_of_ble_eq_true rfl⟩ h
set_option maxRecDepth 20000 in
theorem dk_X6_emit : ∀ pc i, L_X6_emit[pc]? = some (some i) → decode prog_8_method_6_code pc = .ok i := dk_of (by decide +kernel)
theorem s_X6_emit {d : Nat} {P : Unit → Mem → Prop} {r0 : Option Nat} {i1 : Int32} {M : Mem} (h : FQ (f_X6_emit r0 i1 M) P) : Con Y_X6_emit d 0 0 [va_rf r0, .int i1] M (QV P) := by
  refine Con.of [some (va_rf r0), some (.int i1)] (by decide +kernel) dk_X6_emit (by simp [Y_X6_emit, cat_rf, cat_i, cat_l]) (by simp [loE, Y_X6_emit, cat_rf, cat_i, cat_l, List.replicate]) ?_
  unfold f_X6_emit at h
  refine r_aload_n rfl rfl ?_
  refine r_getI rfl fl_6_34 rfl h (fun v1 h => ?_)
  refine r_aload_n rfl rfl ?_
  refine r_getR rfl fl_6_23 rfl h (fun v2 h => ?_)
  refine r_alen rfl h (fun v3 h => ?_)
  refine r_ic_ge 32 rfl (by decide) h (fun h => ?_) (fun h => ?_)
  · exact r_vret rfl rfl ⟨Nat.le_of_ble_eq_true rfl, Nat.le_of_ble_eq_true rfl⟩ h
  · refine r_aload_n rfl rfl ?_
    refine r_getR rfl fl_6_23 rfl h (fun v4 h => ?_)
    refine r_aload_n rfl rfl ?_
    refine r_getI rfl fl_6_34 rfl h (fun v5 h => ?_)
    refine r_iload_n rfl rfl ?_
    refine r_iast rfl h (fun M1 h => ?_)
    refine r_aload_n rfl rfl ?_
    refine r_dup rfl (cat_rf _) ?_
    refine r_getI rfl fl_6_34 rfl h (fun v6 h => ?_)
    refine r_iconst (v := 1) rfl (by decide) ?_
    refine r_iadd rfl ?_
    refine r_putI rfl fl_6_34 (fun z => by cases z) rfl h (fun M2 h => ?_)
    exact r_vret rfl rfl ⟨Nat.le_of_ble_eq_true rfl, Nat.le_of_ble_eq_true rfl⟩ h
set_option maxRecDepth 20000 in
theorem dk_X5_levelOf : ∀ pc i, L_X5_levelOf[pc]? = some (some i) → decode prog_7_method_10_code pc = .ok i := dk_of (by decide +kernel)
theorem s_X5_levelOf {d : Nat} {P : Int32 → Mem → Prop} {i0 : Int32} {M : Mem} (h : FQ (f_X5_levelOf i0 M) P) : Con Y_X5_levelOf d 0 0 [.int i0] M (QI P) := by
  refine Con.of [some (.int i0)] (by decide +kernel) dk_X5_levelOf (by simp [Y_X5_levelOf, cat_rf, cat_i, cat_l]) (by simp [loE, Y_X5_levelOf, cat_rf, cat_i, cat_l, List.replicate]) ?_
  unfold f_X5_levelOf at h
  refine r_iload_n rfl rfl ?_
  refine r_table (ks := [(17, 74), (18, 72), (19, 80), (20, 80), (21, 80), (22, 80), (23, 80), (24, 80), (25, 80), (26, 80), (27, 76), (28, 76), (29, 78), (30, 78)]) (dt := 80) rfl (by decide) (by decide) ?_
  refine r_swc h (fun h => ?_) (fun h => ?_)
  · refine r_iconst (v := 1) rfl (by decide) ?_
    exact r_iret rfl rfl ⟨Nat.le_of_ble_eq_true rfl, Nat.le_of_ble_eq_true rfl⟩ h
  · refine r_swc h (fun h => ?_) (fun h => ?_)
    · refine r_iconst (v := 0) rfl (by decide) ?_
      exact r_iret rfl rfl ⟨Nat.le_of_ble_eq_true rfl, Nat.le_of_ble_eq_true rfl⟩ h
    · refine r_swc h (fun h => ?_) (fun h => ?_)
      · refine r_iconst (v := -1) rfl (by decide) ?_
        exact r_iret rfl rfl ⟨Nat.le_of_ble_eq_true rfl, Nat.le_of_ble_eq_true rfl⟩ h
      · refine r_swc h (fun h => ?_) (fun h => ?_)
        · refine r_iconst (v := -1) rfl (by decide) ?_
          exact r_iret rfl rfl ⟨Nat.le_of_ble_eq_true rfl, Nat.le_of_ble_eq_true rfl⟩ h
        · refine r_swc h (fun h => ?_) (fun h => ?_)
          · refine r_iconst (v := -1) rfl (by decide) ?_
            exact r_iret rfl rfl ⟨Nat.le_of_ble_eq_true rfl, Nat.le_of_ble_eq_true rfl⟩ h
          · refine r_swc h (fun h => ?_) (fun h => ?_)
            · refine r_iconst (v := -1) rfl (by decide) ?_
              exact r_iret rfl rfl ⟨Nat.le_of_ble_eq_true rfl, Nat.le_of_ble_eq_true rfl⟩ h
            · refine r_swc h (fun h => ?_) (fun h => ?_)
              · refine r_iconst (v := -1) rfl (by decide) ?_
                exact r_iret rfl rfl ⟨Nat.le_of_ble_eq_true rfl, Nat.le_of_ble_eq_true rfl⟩ h
              · refine r_swc h (fun h => ?_) (fun h => ?_)
                · refine r_iconst (v := -1) rfl (by decide) ?_
                  exact r_iret rfl rfl ⟨Nat.le_of_ble_eq_true rfl, Nat.le_of_ble_eq_true rfl⟩ h
                · refine r_swc h (fun h => ?_) (fun h => ?_)
                  · refine r_iconst (v := -1) rfl (by decide) ?_
                    exact r_iret rfl rfl ⟨Nat.le_of_ble_eq_true rfl, Nat.le_of_ble_eq_true rfl⟩ h
                  · refine r_swc h (fun h => ?_) (fun h => ?_)
                    · refine r_iconst (v := -1) rfl (by decide) ?_
                      exact r_iret rfl rfl ⟨Nat.le_of_ble_eq_true rfl, Nat.le_of_ble_eq_true rfl⟩ h
                    · refine r_swc h (fun h => ?_) (fun h => ?_)
                      · refine r_iconst (v := 3) rfl (by decide) ?_
                        exact r_iret rfl rfl ⟨Nat.le_of_ble_eq_true rfl, Nat.le_of_ble_eq_true rfl⟩ h
                      · refine r_swc h (fun h => ?_) (fun h => ?_)
                        · refine r_iconst (v := 3) rfl (by decide) ?_
                          exact r_iret rfl rfl ⟨Nat.le_of_ble_eq_true rfl, Nat.le_of_ble_eq_true rfl⟩ h
                        · refine r_swc h (fun h => ?_) (fun h => ?_)
                          · refine r_iconst (v := 4) rfl (by decide) ?_
                            exact r_iret rfl rfl ⟨Nat.le_of_ble_eq_true rfl, Nat.le_of_ble_eq_true rfl⟩ h
                          · refine r_swc h (fun h => ?_) (fun h => ?_)
                            · refine r_iconst (v := 4) rfl (by decide) ?_
                              exact r_iret rfl rfl ⟨Nat.le_of_ble_eq_true rfl, Nat.le_of_ble_eq_true rfl⟩ h
                            · refine r_swd ?_
                              refine r_iconst (v := -1) rfl (by decide) ?_
                              exact r_iret rfl rfl ⟨Nat.le_of_ble_eq_true rfl, Nat.le_of_ble_eq_true rfl⟩ h
