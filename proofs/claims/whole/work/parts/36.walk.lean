/-! walked by program (wip/gen): X5_rec X6_add X5_clause -/
def L_X5_level : List (Option (Instr × Nat)) := [some (.iload_n 1, 1), some (.iconst 2, 1), some (.if_icmp .ne 11, 3), none, none, some (.aload_n 0, 1), some (.iload_n 2, 1), some (.invokevirtual 104, 3), none, none, some (.goto 88, 3), none, none, some (.iload_n 1, 1), some (.iconst 5, 1), some (.if_icmp .lt 11, 3), none, none, some (.aload_n 0, 1), some (.iload_n 2, 1), some (.invokevirtual 107, 3), none, none, some (.goto 75, 3), none, none, some (.aload_n 0, 1), some (.iload_n 1, 1), some (.iconst 1, 1), some (.iadd, 1), some (.iload_n 2, 1), some (.invokevirtual 71, 3), none, none, some (.iconst 0, 1), some (.istore_n 3, 1), some (.iload_n 3, 1), some (.sipush 300, 3), none, none, some (.if_icmp .ge 58, 3), none, none, some (.aload_n 0, 1), some (.getfield 19, 3), none, none, some (.ifCond .ne 51, 3), none, none, some (.aload_n 0, 1), some (.getfield 40, 3), none, none, some (.invokestatic 110, 3), none, none, some (.iload_n 1, 1), some (.if_icmp .ne 40, 3), none, none, some (.aload_n 0, 1), some (.getfield 40, 3), none, none, some (.istore 4, 2), none, some (.aload_n 0, 1), some (.invokevirtual 37, 3), none, none, some (.aload_n 0, 1), some (.iload_n 1, 1), some (.iconst 1, 1), some (.iadd, 1), some (.iload_n 2, 1), some (.invokevirtual 71, 3), none, none, some (.aload_n 0, 1), some (.getfield 25, 3), none, none, some (.sipush 10000, 3), none, none, some (.iload 4, 2), none, some (.iadd, 1), some (.invokevirtual 113, 3), none, none, some (.iinc 3 1, 3), none, none, some (.goto (-59), 3), none, none, some (.return_, 1)]
def Y_X5_level : YM := (⟨RX5, "level", "(II)V"⟩, prog_7_method_9_code, L_X5_level, 5, none)
def b_X5_level_36 (self : Nat → Option Nat → Int32 → Int32 → Mem → Option (Unit × Mem)) (q36 : Option Nat → Int32 → Int32 → Int32 → Mem → Option (Unit × Mem)) (r0 : Option Nat) (i1 : Int32) (i2 : Int32) (i3 : Int32) (M : Mem) : Option (Unit × Mem) :=
(if (300 : Int32) ≤ i3 then
some ((), M)
else
gI M r0 5 2 fun v1 =>
(if v1 = 0 then
gI M r0 5 6 fun v2 =>
cA (f_X5_levelOf v2 M) fun v3 M1 =>
(if v3 = i1 then
gI M1 r0 5 6 fun v4 =>
cR M1 r0 (1, 5) (cA (f_X5_advance r0 M1) fun _ M2 =>
cR M2 r0 (1, 5) (cA (self 0 r0 (i1 + (1 : Int32)) i2 M2) fun _ M3 =>
gR M3 r0 5 4 fun v5 =>
cR M3 v5 (1, 6) (cA (f_X6_emit v5 ((10000 : Int32) + v4) M3) fun _ M4 =>
q36 r0 i1 i2 (i3 + (1 : Int32)) M4)))
else
some ((), M1))
else
some ((), M)))
def f_X5_level_36 (self : Nat → Option Nat → Int32 → Int32 → Mem → Option (Unit × Mem)) (n : Nat) : Option Nat → Int32 → Int32 → Int32 → Mem → Option (Unit × Mem) := lpN (fun _ _ _ _ _ => none) (b_X5_level_36 self ) n
def b_X5_level (self : Nat → Option Nat → Int32 → Int32 → Mem → Option (Unit × Mem)) (r0 : Option Nat) (i1 : Int32) (i2 : Int32) (M : Mem) : Option (Unit × Mem) :=
(if i1 = (2 : Int32) then
cR M r0 (1, 5) (cA (self 1 r0 i2 0 M) fun _ M1 =>
some ((), M1))
else
(if i1 < (5 : Int32) then
cR M r0 (1, 5) (cA (self 0 r0 (i1 + (1 : Int32)) i2 M) fun _ M2 =>
f_X5_level_36 self FU r0 i1 i2 (0 : Int32) M2)
else
cR M r0 (1, 5) (cA (self 2 r0 i2 0 M) fun _ M3 =>
some ((), M3))))
def L_X5_ask : List (Option (Instr × Nat)) := [some (.aload_n 0, 1), some (.getfield 19, 3), none, none, some (.ifCond .eq 4, 3), none, none, some (.return_, 1), some (.aload_n 0, 1), some (.getfield 40, 3), none, none, some (.bipush 19, 2), none, some (.if_icmp .ne 33, 3), none, none, some (.aload_n 0, 1), some (.iload_n 1, 1), some (.invokevirtual 116, 3), none, none, some (.ifCond .eq 24, 3), none, none, some (.aload_n 0, 1), some (.invokevirtual 37, 3), none, none, some (.aload_n 0, 1), some (.iload_n 1, 1), some (.iconst 1, 1), some (.iadd, 1), some (.invokevirtual 104, 3), none, none, some (.aload_n 0, 1), some (.getfield 25, 3), none, none, some (.sipush 10019, 3), none, none, some (.invokevirtual 113, 3), none, none, some (.return_, 1), some (.aload_n 0, 1), some (.iconst 3, 1), some (.iload_n 1, 1), some (.invokevirtual 71, 3), none, none, some (.aload_n 0, 1), some (.getfield 40, 3), none, none, some (.istore_n 2, 1), some (.iload_n 2, 1), some (.bipush 21, 2), none, some (.if_icmp .lt 9, 3), none, none, some (.iload_n 2, 1), some (.bipush 26, 2), none, some (.if_icmp .le 8, 3), none, none, some (.aload_n 0, 1), some (.iconst 1, 1), some (.invokevirtual 56, 3), none, none, some (.aload_n 0, 1), some (.iload_n 2, 1), some (.invokevirtual 83, 3), none, none, some (.aload_n 0, 1), some (.iconst 3, 1), some (.iload_n 1, 1), some (.invokevirtual 71, 3), none, none, some (.aload_n 0, 1), some (.getfield 25, 3), none, none, some (.sipush 10000, 3), none, none, some (.iload_n 2, 1), some (.iadd, 1), some (.invokevirtual 113, 3), none, none, some (.return_, 1)]
def Y_X5_ask : YM := (⟨RX5, "ask", "(I)V"⟩, prog_7_method_11_code, L_X5_ask, 3, none)
def f_X5_ask_70 (self : Nat → Option Nat → Int32 → Int32 → Mem → Option (Unit × Mem))  (r0 : Option Nat) (i1 : Int32) (i2 : Int32) (M : Mem) : Option (Unit × Mem) :=
cR M r0 (1, 5) (cA (f_X5_fail r0 (1 : Int32) M) fun _ M1 =>
cR M1 r0 (1, 5) (cA (f_X5_expect r0 i2 M1) fun _ M2 =>
cR M2 r0 (1, 5) (cA (self 0 r0 (3 : Int32) i1 M2) fun _ M3 =>
gR M3 r0 5 4 fun v1 =>
cR M3 v1 (1, 6) (cA (f_X6_emit v1 ((10000 : Int32) + i2) M3) fun _ M4 =>
some ((), M4)))))
def b_X5_ask (self : Nat → Option Nat → Int32 → Int32 → Mem → Option (Unit × Mem)) (r0 : Option Nat) (i1 : Int32) (M : Mem) : Option (Unit × Mem) :=
gI M r0 5 2 fun v1 =>
(if v1 = 0 then
gI M r0 5 6 fun v2 =>
(if v2 = (19 : Int32) then
cR M r0 (1, 5) (cA (f_X5_mayOpen r0 i1 M) fun v3 M1 =>
(if v3 = 0 then
some ((), M1)
else
cR M1 r0 (1, 5) (cA (f_X5_advance r0 M1) fun _ M2 =>
cR M2 r0 (1, 5) (cA (self 1 r0 (i1 + (1 : Int32)) 0 M2) fun _ M3 =>
gR M3 r0 5 4 fun v4 =>
cR M3 v4 (1, 6) (cA (f_X6_emit v4 (10019 : Int32) M3) fun _ M4 =>
some ((), M4))))))
else
cR M r0 (1, 5) (cA (self 0 r0 (3 : Int32) i1 M) fun _ M5 =>
gI M5 r0 5 6 fun v5 =>
(if v5 < (21 : Int32) then
f_X5_ask_70 self r0 i1 v5 M5
else
(if v5 ≤ (26 : Int32) then
cR M5 r0 (1, 5) (cA (f_X5_expect r0 v5 M5) fun _ M6 =>
cR M6 r0 (1, 5) (cA (self 0 r0 (3 : Int32) i1 M6) fun _ M7 =>
gR M7 r0 5 4 fun v6 =>
cR M7 v6 (1, 6) (cA (f_X6_emit v6 ((10000 : Int32) + v5) M7) fun _ M8 =>
some ((), M8))))
else
f_X5_ask_70 self r0 i1 v5 M5))))
else
some ((), M))
def L_X5_one : List (Option (Instr × Nat)) := [some (.aload_n 0, 1), some (.getfield 19, 3), none, none, some (.ifCond .eq 4, 3), none, none, some (.return_, 1), some (.aload_n 0, 1), some (.getfield 40, 3), none, none, some (.bipush 20, 2), none, some (.if_icmp .ne 21, 3), none, none, some (.aload_n 0, 1), some (.getfield 101, 3), none, none, some (.sipush 9999, 3), none, none, some (.if_icmp .le 11, 3), none, none, some (.aload_n 0, 1), some (.iconst 2, 1), some (.invokevirtual 56, 3), none, none, some (.goto 145, 3), none, none, some (.aload_n 0, 1), some (.getfield 40, 3), none, none, some (.bipush 20, 2), none, some (.if_icmp .ne 21, 3), none, none, some (.aload_n 0, 1), some (.getfield 25, 3), none, none, some (.aload_n 0, 1), some (.getfield 101, 3), none, none, some (.invokevirtual 113, 3), none, none, some (.aload_n 0, 1), some (.invokevirtual 37, 3), none, none, some (.goto 118, 3), none, none, some (.aload_n 0, 1), some (.getfield 40, 3), none, none, some (.bipush 6, 2), none, some (.if_icmp .gt 25, 3), none, none, some (.aload_n 0, 1), some (.getfield 25, 3), none, none, some (.sipush 10000, 3), none, none, some (.aload_n 0, 1), some (.getfield 40, 3), none, none, some (.iadd, 1), some (.invokevirtual 113, 3), none, none, some (.aload_n 0, 1), some (.invokevirtual 37, 3), none, none, some (.goto 87, 3), none, none, some (.aload_n 0, 1), some (.getfield 40, 3), none, none, some (.bipush 31, 2), none, some (.if_icmp .ne 32, 3), none, none, some (.aload_n 0, 1), some (.iload_n 1, 1), some (.invokevirtual 116, 3), none, none, some (.ifCond .eq 24, 3), none, none, some (.aload_n 0, 1), some (.invokevirtual 37, 3), none, none, some (.aload_n 0, 1), some (.iconst 3, 1), some (.iload_n 1, 1), some (.iconst 1, 1), some (.iadd, 1), some (.invokevirtual 71, 3), none, none, some (.aload_n 0, 1), some (.bipush 32, 2), none, some (.invokevirtual 83, 3), none, none, some (.goto 49, 3), none, none, some (.aload_n 0, 1), some (.getfield 40, 3), none, none, some (.bipush 28, 2), none, some (.if_icmp .ne 35, 3), none, none, some (.aload_n 0, 1), some (.iload_n 1, 1), some (.invokevirtual 116, 3), none, none, some (.ifCond .eq 27, 3), none, none, some (.aload_n 0, 1), some (.invokevirtual 37, 3), none, none, some (.aload_n 0, 1), some (.iload_n 1, 1), some (.iconst 1, 1), some (.iadd, 1), some (.invokevirtual 107, 3), none, none, some (.aload_n 0, 1), some (.getfield 25, 3), none, none, some (.sipush 10037, 3), none, none, some (.invokevirtual 113, 3), none, none, some (.goto 8, 3), none, none, some (.aload_n 0, 1), some (.iconst 1, 1), some (.invokevirtual 56, 3), none, none, some (.return_, 1)]
def Y_X5_one : YM := (⟨RX5, "one", "(I)V"⟩, prog_7_method_12_code, L_X5_one, 2, none)
def f_X5_one_131 (self : Nat → Option Nat → Int32 → Int32 → Mem → Option (Unit × Mem))  (r0 : Option Nat) (i1 : Int32) (M : Mem) : Option (Unit × Mem) :=
gI M r0 5 6 fun v1 =>
(if v1 = (28 : Int32) then
cR M r0 (1, 5) (cA (f_X5_mayOpen r0 i1 M) fun v2 M1 =>
(if v2 = 0 then
cR M1 r0 (1, 5) (cA (f_X5_fail r0 (1 : Int32) M1) fun _ M2 =>
some ((), M2))
else
cR M1 r0 (1, 5) (cA (f_X5_advance r0 M1) fun _ M3 =>
cR M3 r0 (1, 5) (cA (self 2 r0 (i1 + (1 : Int32)) 0 M3) fun _ M4 =>
gR M4 r0 5 4 fun v3 =>
cR M4 v3 (1, 6) (cA (f_X6_emit v3 (10037 : Int32) M4) fun _ M5 =>
some ((), M5))))))
else
cR M r0 (1, 5) (cA (f_X5_fail r0 (1 : Int32) M) fun _ M6 =>
some ((), M6)))
def f_X5_one_35 (self : Nat → Option Nat → Int32 → Int32 → Mem → Option (Unit × Mem))  (r0 : Option Nat) (i1 : Int32) (M : Mem) : Option (Unit × Mem) :=
gI M r0 5 6 fun v1 =>
(if v1 = (20 : Int32) then
gR M r0 5 4 fun v2 =>
gI M r0 5 8 fun v3 =>
cR M v2 (1, 6) (cA (f_X6_emit v2 v3 M) fun _ M1 =>
cR M1 r0 (1, 5) (cA (f_X5_advance r0 M1) fun _ M2 =>
some ((), M2)))
else
gI M r0 5 6 fun v4 =>
(if (6 : Int32) < v4 then
gI M r0 5 6 fun v5 =>
(if v5 = (31 : Int32) then
cR M r0 (1, 5) (cA (f_X5_mayOpen r0 i1 M) fun v6 M3 =>
(if v6 = 0 then
f_X5_one_131 self r0 i1 M3
else
cR M3 r0 (1, 5) (cA (f_X5_advance r0 M3) fun _ M4 =>
cR M4 r0 (1, 5) (cA (self 0 r0 (3 : Int32) (i1 + (1 : Int32)) M4) fun _ M5 =>
cR M5 r0 (1, 5) (cA (f_X5_expect r0 (32 : Int32) M5) fun _ M6 =>
some ((), M6))))))
else
f_X5_one_131 self r0 i1 M)
else
gR M r0 5 4 fun v7 =>
gI M r0 5 6 fun v8 =>
cR M v7 (1, 6) (cA (f_X6_emit v7 ((10000 : Int32) + v8) M) fun _ M7 =>
cR M7 r0 (1, 5) (cA (f_X5_advance r0 M7) fun _ M8 =>
some ((), M8)))))
def b_X5_one (self : Nat → Option Nat → Int32 → Int32 → Mem → Option (Unit × Mem)) (r0 : Option Nat) (i1 : Int32) (M : Mem) : Option (Unit × Mem) :=
gI M r0 5 2 fun v1 =>
(if v1 = 0 then
gI M r0 5 6 fun v2 =>
(if v2 = (20 : Int32) then
gI M r0 5 8 fun v3 =>
(if v3 ≤ (9999 : Int32) then
f_X5_one_35 self r0 i1 M
else
cR M r0 (1, 5) (cA (f_X5_fail r0 (2 : Int32) M) fun _ M1 =>
some ((), M1)))
else
f_X5_one_35 self r0 i1 M)
else
some ((), M))
/-- the three that call one another: level, ask, one -/
def f_X5_rec : Nat → Nat → Option Nat → Int32 → Int32 → Mem → Option (Unit × Mem)
  | 0, _, _, _, _, _ => none
  | d + 1, k, r0, i1, i2, M => if k = 0 then b_X5_level (f_X5_rec d) r0 i1 i2 M else if k = 1 then b_X5_ask (f_X5_rec d) r0 i1 M else b_X5_one (f_X5_rec d) r0 i1 M
def f_X5_level (r0 : Option Nat) (i1 i2 : Int32) (M : Mem) : Option (Unit × Mem) := f_X5_rec 64 0 r0 i1 i2 M
def f_X5_ask (r0 : Option Nat) (i1 : Int32) (M : Mem) : Option (Unit × Mem) := f_X5_rec 64 1 r0 i1 0 M
def f_X5_one (r0 : Option Nat) (i1 : Int32) (M : Mem) : Option (Unit × Mem) := f_X5_rec 64 2 r0 i1 0 M
def L_X6_add : List (Option (Instr × Nat)) := [some (.aload_n 0, 1), some (.getfield 30, 3), none, none, some (.bipush 20, 2), none, some (.if_icmp .lt 5, 3), none, none, some (.aconst_null, 1), some (.areturn, 1), some (.aload_n 0, 1), some (.getfield 13, 3), none, none, some (.aload_n 0, 1), some (.getfield 30, 3), none, none, some (.aaload, 1), some (.astore_n 2, 1), some (.aload_n 0, 1), some (.dup, 1), some (.getfield 30, 3), none, none, some (.iconst 1, 1), some (.iadd, 1), some (.putfield 30, 3), none, none, some (.aload_n 2, 1), some (.iload_n 1, 1), some (.putfield 41, 3), none, none, some (.aload_n 2, 1), some (.aload_n 0, 1), some (.getfield 34, 3), none, none, some (.putfield 44, 3), none, none, some (.iload_n 1, 1), some (.invokestatic 37, 3), none, none, some (.ifCond .eq 13, 3), none, none, some (.aload_n 0, 1), some (.getfield 20, 3), none, none, some (.iload_n 1, 1), some (.bipush 12, 2), none, some (.isub, 1), some (.aload_n 2, 1), some (.aastore, 1), some (.aload_n 2, 1), some (.areturn, 1)]
def Y_X6_add : YM := (⟨RX6, "add", "(I)LGameOfNoes$Clause;"⟩, prog_8_method_5_code, L_X6_add, 3, some (.object "GameOfNoes$Clause"))
def f_X6_add (r0 : Option Nat) (i1 : Int32) (M : Mem) : Option (Option Nat × Mem) :=
gI M r0 6 4 fun v1 =>
(if v1 < (20 : Int32) then
gR M r0 6 0 fun v2 =>
gI M r0 6 4 fun v3 =>
aR M v2 6 v3 fun v4 =>
gI M r0 6 4 fun v5 =>
pI M r0 6 4 (v5 + (1 : Int32)) fun M1 =>
pI M1 v4 1 1 i1 fun M2 =>
gI M2 r0 6 5 fun v6 =>
pI M2 v4 1 6 v6 fun M3 =>
cA (f_X6_isSingle i1 M3) fun v7 M4 =>
(if v7 = 0 then
some (v4, M4)
else
gR M4 r0 6 2 fun v8 =>
wR M4 v8 6 (i1 - (12 : Int32)) v4 fun M5 =>
some (v4, M5))
else
some (none, M))
def L_X5_clause : List (Option (Instr × Nat)) := [some (.aload_n 0, 1), some (.getfield 40, 3), none, none, some (.istore_n 1, 1), some (.iload_n 1, 1), some (.ifCond .eq 22, 3), none, none, some (.iload_n 1, 1), some (.bipush 16, 2), none, some (.if_icmp .eq 16, 3), none, none, some (.iload_n 1, 1), some (.invokestatic 52, 3), none, none, some (.ifCond .ne 9, 3), none, none, some (.aload_n 0, 1), some (.iconst 1, 1), some (.invokevirtual 56, 3), none, none, some (.return_, 1), some (.aload_n 0, 1), some (.getfield 25, 3), none, none, some (.iload_n 1, 1), some (.invokevirtual 60, 3), none, none, some (.ifnull 9, 3), none, none, some (.aload_n 0, 1), some (.iconst 4, 1), some (.invokevirtual 56, 3), none, none, some (.return_, 1), some (.aload_n 0, 1), some (.getfield 25, 3), none, none, some (.iload_n 1, 1), some (.invokevirtual 64, 3), none, none, some (.astore_n 2, 1), some (.aload_n 2, 1), some (.ifnonnull 9, 3), none, none, some (.aload_n 0, 1), some (.iconst 5, 1), some (.invokevirtual 56, 3), none, none, some (.return_, 1), some (.aload_n 0, 1), some (.invokevirtual 37, 3), none, none, some (.iload_n 1, 1), some (.ifCond .ne 11, 3), none, none, some (.aload_n 0, 1), some (.aload_n 2, 1), some (.invokevirtual 67, 3), none, none, some (.goto 19, 3), none, none, some (.aload_n 0, 1), some (.iload_n 1, 1), some (.bipush 16, 2), none, some (.if_icmp .ne 7, 3), none, none, some (.iconst 0, 1), some (.goto 4, 3), none, none, some (.iconst 3, 1), some (.iconst 0, 1), some (.invokevirtual 71, 3), none, none, some (.iload_n 1, 1), some (.ifCond .ne 29, 3), none, none, some (.aload_n 0, 1), some (.getfield 19, 3), none, none, some (.ifCond .ne 22, 3), none, none, some (.aload_n 0, 1), some (.getfield 40, 3), none, none, some (.bipush 11, 2), none, some (.if_icmp .ne 13, 3), none, none, some (.aload_n 0, 1), some (.invokevirtual 37, 3), none, none, some (.aload_n 0, 1), some (.iconst 0, 1), some (.iconst 0, 1), some (.invokevirtual 71, 3), none, none, some (.aload_n 2, 1), some (.aload_n 0, 1), some (.getfield 25, 3), none, none, some (.getfield 75, 3), none, none, some (.putfield 78, 3), none, none, some (.aload_n 0, 1), some (.bipush 34, 2), none, some (.invokevirtual 83, 3), none, none, some (.return_, 1)]
def Y_X5_clause : YM := (⟨RX5, "clause", "()V"⟩, prog_7_method_5_code, L_X5_clause, 3, none)
def f_X5_clause_96  (r0 : Option Nat) (i1 : Int32) (r2 : Option Nat) (M : Mem) : Option (Unit × Mem) :=
(if i1 = 0 then
gI M r0 5 2 fun v1 =>
(if v1 = 0 then
gI M r0 5 6 fun v2 =>
(if v2 = (11 : Int32) then
cR M r0 (1, 5) (cA (f_X5_advance r0 M) fun _ M1 =>
cR M1 r0 (1, 5) (cA (f_X5_level r0 (0 : Int32) (0 : Int32) M1) fun _ M2 =>
gR M2 r0 5 4 fun v3 =>
gI M2 v3 6 5 fun v4 =>
pI M2 r2 1 7 v4 fun M3 =>
cR M3 r0 (1, 5) (cA (f_X5_expect r0 (34 : Int32) M3) fun _ M4 =>
some ((), M4))))
else
gR M r0 5 4 fun v5 =>
gI M v5 6 5 fun v6 =>
pI M r2 1 7 v6 fun M5 =>
cR M5 r0 (1, 5) (cA (f_X5_expect r0 (34 : Int32) M5) fun _ M6 =>
some ((), M6)))
else
gR M r0 5 4 fun v7 =>
gI M v7 6 5 fun v8 =>
pI M r2 1 7 v8 fun M7 =>
cR M7 r0 (1, 5) (cA (f_X5_expect r0 (34 : Int32) M7) fun _ M8 =>
some ((), M8)))
else
gR M r0 5 4 fun v9 =>
gI M v9 6 5 fun v10 =>
pI M r2 1 7 v10 fun M9 =>
cR M9 r0 (1, 5) (cA (f_X5_expect r0 (34 : Int32) M9) fun _ M10 =>
some ((), M10)))
def f_X5_clause_28  (r0 : Option Nat) (i1 : Int32) (M : Mem) : Option (Unit × Mem) :=
gR M r0 5 4 fun v1 =>
cR M v1 (1, 6) (cA (f_X6_singleOf v1 i1 M) fun v2 M1 =>
(if v2 = none then
gR M1 r0 5 4 fun v3 =>
cR M1 v3 (1, 6) (cA (f_X6_add v3 i1 M1) fun v4 M2 =>
(if v4 = none then
cR M2 r0 (1, 5) (cA (f_X5_fail r0 (5 : Int32) M2) fun _ M3 =>
some ((), M3))
else
cR M2 r0 (1, 5) (cA (f_X5_advance r0 M2) fun _ M4 =>
(if i1 = 0 then
cR M4 r0 (1, 5) (cA (f_X5_act r0 v4 M4) fun _ M5 =>
f_X5_clause_96 r0 i1 v4 M5)
else
(if i1 = (16 : Int32) then
cR M4 r0 (1, 5) (cA (f_X5_level r0 (0 : Int32) (0 : Int32) M4) fun _ M6 =>
f_X5_clause_96 r0 i1 v4 M6)
else
cR M4 r0 (1, 5) (cA (f_X5_level r0 (3 : Int32) (0 : Int32) M4) fun _ M7 =>
f_X5_clause_96 r0 i1 v4 M7))))))
else
cR M1 r0 (1, 5) (cA (f_X5_fail r0 (4 : Int32) M1) fun _ M8 =>
some ((), M8))))
def f_X5_clause (r0 : Option Nat) (M : Mem) : Option (Unit × Mem) :=
gI M r0 5 6 fun v1 =>
(if v1 = 0 then
f_X5_clause_28 r0 v1 M
else
(if v1 = (16 : Int32) then
f_X5_clause_28 r0 v1 M
else
cA (f_X6_isSingle v1 M) fun v2 M1 =>
(if v2 = 0 then
cR M1 r0 (1, 5) (cA (f_X5_fail r0 (1 : Int32) M1) fun _ M2 =>
some ((), M2))
else
f_X5_clause_28 r0 v1 M1)))
set_option maxRecDepth 30000 in
theorem ok_X5_levelOf : okY Y_X5_levelOf := ⟨(gw_in 682 rfl rfl), (gw_in 6 (by decide +kernel) (by decide +kernel)), by decide +kernel, by decide +kernel⟩
theorem ml_5_110 : MLs RX5 110 Y_X5_levelOf 1 := ⟨(gw_in 680 (by decide +kernel) (by decide +kernel)), (gw_in 681 (by decide +kernel) (by decide +kernel)), ok_X5_levelOf, by decide +kernel⟩
set_option maxRecDepth 30000 in
theorem ok_X5_level : okY Y_X5_level := ⟨(gw_in 663 rfl rfl), (gw_in 6 (by decide +kernel) (by decide +kernel)), by decide +kernel, by decide +kernel⟩
theorem ml_5_71 : MLv RX5 71 Y_X5_level 2 := ⟨(gw_in 660 (by decide +kernel) (by decide +kernel)), (gw_in 662 (by decide +kernel) (by decide +kernel)), (gw_sel (n := 9) 8 (by decide +kernel) (by decide +kernel)), ok_X5_level, by decide +kernel⟩
theorem fl_5_25 : FLk RX5 25 5 4 false := ⟨_, rfl, by decide, (gw_in 177 (by decide +kernel) (by decide +kernel)), rfl⟩
set_option maxRecDepth 30000 in
theorem ok_X6_emit : okY Y_X6_emit := ⟨(gw_in 675 rfl rfl), (gw_in 4 (by decide +kernel) (by decide +kernel)), by decide +kernel, by decide +kernel⟩
theorem ml_5_113 : MLv RX5 113 Y_X6_emit 1 := ⟨(gw_in 672 (by decide +kernel) (by decide +kernel)), (gw_in 673 (by decide +kernel) (by decide +kernel)), (gw_in 674 (by decide +kernel) (by decide +kernel)), ok_X6_emit, by decide +kernel⟩
set_option maxRecDepth 30000 in
theorem ok_X5_ask : okY Y_X5_ask := ⟨(gw_in 667 rfl rfl), (gw_in 6 (by decide +kernel) (by decide +kernel)), by decide +kernel, by decide +kernel⟩
theorem ml_5_104 : MLv RX5 104 Y_X5_ask 1 := ⟨(gw_in 664 (by decide +kernel) (by decide +kernel)), (gw_in 666 (by decide +kernel) (by decide +kernel)), (gw_sel (n := 9) 9 (by decide +kernel) (by decide +kernel)), ok_X5_ask, by decide +kernel⟩
set_option maxRecDepth 30000 in
theorem ok_X5_one : okY Y_X5_one := ⟨(gw_in 679 rfl rfl), (gw_in 6 (by decide +kernel) (by decide +kernel)), by decide +kernel, by decide +kernel⟩
theorem ml_5_107 : MLv RX5 107 Y_X5_one 1 := ⟨(gw_in 676 (by decide +kernel) (by decide +kernel)), (gw_in 678 (by decide +kernel) (by decide +kernel)), (gw_sel (n := 9) 11 (by decide +kernel) (by decide +kernel)), ok_X5_one, by decide +kernel⟩
set_option maxRecDepth 30000 in
theorem ok_X5_mayOpen : okY Y_X5_mayOpen := ⟨(gw_in 671 rfl rfl), (gw_in 6 (by decide +kernel) (by decide +kernel)), by decide +kernel, by decide +kernel⟩
theorem ml_5_116 : MLv RX5 116 Y_X5_mayOpen 1 := ⟨(gw_in 668 (by decide +kernel) (by decide +kernel)), (gw_in 670 (by decide +kernel) (by decide +kernel)), (gw_sel (n := 9) 10 (by decide +kernel) (by decide +kernel)), ok_X5_mayOpen, by decide +kernel⟩
theorem fl_6_41 : FLk RX6 41 1 1 false := ⟨_, rfl, by decide, (gw_in 103 (by decide +kernel) (by decide +kernel)), rfl⟩
theorem fl_6_44 : FLk RX6 44 1 6 false := ⟨_, rfl, by decide, (gw_in 114 (by decide +kernel) (by decide +kernel)), rfl⟩
theorem fl_5_75 : FLk RX5 75 6 5 false := ⟨_, rfl, by decide, (gw_in 150 (by decide +kernel) (by decide +kernel)), rfl⟩
theorem fl_5_78 : FLk RX5 78 1 7 false := ⟨_, rfl, by decide, (gw_in 117 (by decide +kernel) (by decide +kernel)), rfl⟩
theorem ml_5_60 : MLv RX5 60 Y_X6_singleOf 1 := ⟨(gw_in 639 (by decide +kernel) (by decide +kernel)), (gw_in 640 (by decide +kernel) (by decide +kernel)), (gw_in 641 (by decide +kernel) (by decide +kernel)), ok_X6_singleOf, by decide +kernel⟩
set_option maxRecDepth 30000 in
theorem ok_X6_add : okY Y_X6_add := ⟨(gw_in 647 rfl rfl), (gw_in 4 (by decide +kernel) (by decide +kernel)), by decide +kernel, by decide +kernel⟩
theorem ml_5_64 : MLv RX5 64 Y_X6_add 1 := ⟨(gw_in 644 (by decide +kernel) (by decide +kernel)), (gw_in 645 (by decide +kernel) (by decide +kernel)), (gw_in 646 (by decide +kernel) (by decide +kernel)), ok_X6_add, by decide +kernel⟩
set_option maxRecDepth 30000 in
theorem ok_X5_act : okY Y_X5_act := ⟨(gw_in 651 rfl rfl), (gw_in 6 (by decide +kernel) (by decide +kernel)), by decide +kernel, by decide +kernel⟩
theorem ml_5_67 : MLv RX5 67 Y_X5_act 1 := ⟨(gw_in 648 (by decide +kernel) (by decide +kernel)), (gw_in 650 (by decide +kernel) (by decide +kernel)), (gw_sel (n := 9) 5 (by decide +kernel) (by decide +kernel)), ok_X5_act, by decide +kernel⟩
theorem ml_5_52 : MLs RX5 52 Y_X6_isSingle 1 := ⟨(gw_in 632 (by decide +kernel) (by decide +kernel)), (gw_in 633 (by decide +kernel) (by decide +kernel)), ok_X6_isSingle, by decide +kernel⟩
set_option maxRecDepth 20000 in
theorem dk_X5_level : ∀ pc i, L_X5_level[pc]? = some (some i) → decode prog_7_method_9_code pc = .ok i := dk_of (by decide +kernel)
theorem sb_X5_level_36 {d : Nat} {P : Unit → Mem → Prop} {self : Nat → Option Nat → Int32 → Int32 → Mem → Option (Unit × Mem)} {q36 : Option Nat → Int32 → Int32 → Int32 → Mem → Option (Unit × Mem)} (hself_0 : ∀ {Q : Unit → Mem → Prop} {r0 : Option Nat} {i1 i2 : Int32} {M : Mem}, FQ (self 0 r0 i1 i2 M) Q → Con Y_X5_level (d + 10) 0 0 [va_rf r0, .int i1, .int i2] M (QV Q)) (hself_1 : ∀ {Q : Unit → Mem → Prop} {r0 : Option Nat} {i1 : Int32} {M : Mem}, FQ (self 1 r0 i1 0 M) Q → Con Y_X5_ask (d + 10) 0 0 [va_rf r0, .int i1] M (QV Q)) (hself_2 : ∀ {Q : Unit → Mem → Prop} {r0 : Option Nat} {i1 : Int32} {M : Mem}, FQ (self 2 r0 i1 0 M) Q → Con Y_X5_one (d + 10) 0 0 [va_rf r0, .int i1] M (QV Q)) (hq36 : ∀ (r0 : Option Nat) (i1 : Int32) (i2 : Int32) (i3 : Int32) (M : Mem), FQ (q36 r0 i1 i2 i3 M) P → wp Y_X5_level (rmD (d + 11) 0 0) (FM (QV P) 0 0) 0 0 36 [some (va_rf r0), some (.int i1), some (.int i2), some (.int i3), none] [] M) (r0 : Option Nat) (i1 : Int32) (i2 : Int32) (i3 : Int32) (M : Mem) (h : FQ (b_X5_level_36 self q36 r0 i1 i2 i3 M) P) : wp Y_X5_level (rmD (d + 11) 0 0) (FM (QV P) 0 0) 0 0 36 [some (va_rf r0), some (.int i1), some (.int i2), some (.int i3), none] [] M := by
  unfold b_X5_level_36 at h
  refine r_iload_n rfl rfl ?_
  refine r_sipush (v := 300) rfl (by decide) ?_
  refine r_ic_ge 98 rfl (by decide) h (fun h => ?_) (fun h => ?_)
  · exact r_vret rfl rfl ⟨Nat.le_of_ble_eq_true rfl, Nat.le_of_ble_eq_true rfl⟩ h
  · refine r_aload_n rfl rfl ?_
    refine r_getI rfl fl_5_19 rfl h (fun v1 h => ?_)
    refine r_if_ne 98 rfl (by decide) h (fun h => ?_) (fun h => ?_)
    · refine r_aload_n rfl rfl ?_
      refine r_getI rfl fl_5_40 rfl h (fun v2 h => ?_)
      refine r_cs_i (vs := [.int v2]) rfl ml_5_110 (rOk.of rfl) ⟨Nat.zero_le _, Nat.zero_le _⟩ rfl rfl rfl h s_X5_levelOf (fun v3 M1 h => ?_)
      refine r_iload_n rfl rfl ?_
      refine r_ic_ne 98 rfl (by decide) h (fun h => ?_) (fun h => ?_)
      · refine r_aload_n rfl rfl ?_
        refine r_getI rfl fl_5_40 rfl h (fun v4 h => ?_)
        refine r_istore (lo' := [some (va_rf r0), some (.int i1), some (.int i2), some (.int i3), some (.int v4)]) rfl rfl rfl rfl ?_
        refine r_aload_n rfl rfl ?_
        refine r_cv_v (vs := []) rfl ml_5_37 rfl (rOk.of rfl) ⟨Nat.zero_le _, Nat.zero_le _⟩ rfl rfl rfl h s_X5_advance (fun _ M2 h => ?_)
        refine r_aload_n rfl rfl ?_
        refine r_iload_n rfl rfl ?_
        refine r_iconst (v := 1) rfl (by decide) ?_
        refine r_iadd rfl ?_
        refine r_iload_n rfl rfl ?_
        refine r_cv_v (vs := [.int (i1 + (1 : Int32)), .int i2]) rfl ml_5_71 rfl (rOk.of rfl) ⟨Nat.zero_le _, Nat.zero_le _⟩ rfl rfl rfl h (fun z => hself_0 z) (fun _ M3 h => ?_)
        refine r_aload_n rfl rfl ?_
        refine r_getR rfl fl_5_25 rfl h (fun v5 h => ?_)
        refine r_sipush (v := 10000) rfl (by decide) ?_
        refine r_iload rfl rfl ?_
        refine r_iadd rfl ?_
        refine r_cv_v (vs := [.int ((10000 : Int32) + v4)]) rfl ml_5_113 rfl (rOk.of rfl) ⟨Nat.zero_le _, Nat.zero_le _⟩ rfl rfl rfl h s_X6_emit (fun _ M4 h => ?_)
        refine r_iinc (v := 1) (lo' := [some (va_rf r0), some (.int i1), some (.int i2), some (.int (i3 + (1 : Int32))), some (.int v4)]) rfl rfl rfl (by decide) rfl rfl ?_
        refine r_goto 36 rfl (by decide) ?_
        refine r_msk [true, true, true, true, false] rfl ?_
        exact hq36 _ _ _ _ _ h
      · exact r_vret rfl rfl ⟨Nat.le_of_ble_eq_true rfl, Nat.le_of_ble_eq_true rfl⟩ h
    · exact r_vret rfl rfl ⟨Nat.le_of_ble_eq_true rfl, Nat.le_of_ble_eq_true rfl⟩ h
theorem s_X5_level_36 {d : Nat} {P : Unit → Mem → Prop} {self : Nat → Option Nat → Int32 → Int32 → Mem → Option (Unit × Mem)}  (hself_0 : ∀ {Q : Unit → Mem → Prop} {r0 : Option Nat} {i1 i2 : Int32} {M : Mem}, FQ (self 0 r0 i1 i2 M) Q → Con Y_X5_level (d + 10) 0 0 [va_rf r0, .int i1, .int i2] M (QV Q)) (hself_1 : ∀ {Q : Unit → Mem → Prop} {r0 : Option Nat} {i1 : Int32} {M : Mem}, FQ (self 1 r0 i1 0 M) Q → Con Y_X5_ask (d + 10) 0 0 [va_rf r0, .int i1] M (QV Q)) (hself_2 : ∀ {Q : Unit → Mem → Prop} {r0 : Option Nat} {i1 : Int32} {M : Mem}, FQ (self 2 r0 i1 0 M) Q → Con Y_X5_one (d + 10) 0 0 [va_rf r0, .int i1] M (QV Q))  : ∀ (k : Nat) (r0 : Option Nat) (i1 : Int32) (i2 : Int32) (i3 : Int32) (M : Mem), FQ (f_X5_level_36 self  k r0 i1 i2 i3 M) P → wp Y_X5_level (rmD (d + 11) 0 0) (FM (QV P) 0 0) 0 0 36 [some (va_rf r0), some (.int i1), some (.int i2), some (.int i3), none] [] M
  | 0, _, _, _, _, _, h => h.no
  | k + 1, r0, i1, i2, i3, M, h => sb_X5_level_36 hself_0 hself_1 hself_2  (s_X5_level_36 hself_0 hself_1 hself_2  k) r0 i1 i2 i3 M h
theorem sb_X5_level {d : Nat} {P : Unit → Mem → Prop} {self : Nat → Option Nat → Int32 → Int32 → Mem → Option (Unit × Mem)} (hself_0 : ∀ {Q : Unit → Mem → Prop} {r0 : Option Nat} {i1 i2 : Int32} {M : Mem}, FQ (self 0 r0 i1 i2 M) Q → Con Y_X5_level (d + 10) 0 0 [va_rf r0, .int i1, .int i2] M (QV Q)) (hself_1 : ∀ {Q : Unit → Mem → Prop} {r0 : Option Nat} {i1 : Int32} {M : Mem}, FQ (self 1 r0 i1 0 M) Q → Con Y_X5_ask (d + 10) 0 0 [va_rf r0, .int i1] M (QV Q)) (hself_2 : ∀ {Q : Unit → Mem → Prop} {r0 : Option Nat} {i1 : Int32} {M : Mem}, FQ (self 2 r0 i1 0 M) Q → Con Y_X5_one (d + 10) 0 0 [va_rf r0, .int i1] M (QV Q)) {r0 : Option Nat} {i1 : Int32} {i2 : Int32} {M : Mem} (h : FQ (b_X5_level self r0 i1 i2 M) P) : Con Y_X5_level (d + 11) 0 0 [va_rf r0, .int i1, .int i2] M (QV P) := by
  refine Con.of [some (va_rf r0), some (.int i1), some (.int i2), none, none] (by decide +kernel) dk_X5_level (by simp [Y_X5_level, cat_rf, cat_i, cat_l]) (by simp [loE, Y_X5_level, cat_rf, cat_i, cat_l, List.replicate]) ?_
  unfold b_X5_level at h
  refine r_iload_n rfl rfl ?_
  refine r_iconst (v := 2) rfl (by decide) ?_
  refine r_ic_ne 13 rfl (by decide) h (fun h => ?_) (fun h => ?_)
  · refine r_aload_n rfl rfl ?_
    refine r_iload_n rfl rfl ?_
    refine r_cv_v (vs := [.int i2]) rfl ml_5_104 rfl (rOk.of rfl) ⟨Nat.zero_le _, Nat.zero_le _⟩ rfl rfl rfl h (fun z => hself_1 z) (fun _ M1 h => ?_)
    refine r_goto 98 rfl (by decide) ?_
    exact r_vret rfl rfl ⟨Nat.le_of_ble_eq_true rfl, Nat.le_of_ble_eq_true rfl⟩ h
  · refine r_iload_n rfl rfl ?_
    refine r_iconst (v := 5) rfl (by decide) ?_
    refine r_ic_lt 26 rfl (by decide) h (fun h => ?_) (fun h => ?_)
    · refine r_aload_n rfl rfl ?_
      refine r_iload_n rfl rfl ?_
      refine r_iconst (v := 1) rfl (by decide) ?_
      refine r_iadd rfl ?_
      refine r_iload_n rfl rfl ?_
      refine r_cv_v (vs := [.int (i1 + (1 : Int32)), .int i2]) rfl ml_5_71 rfl (rOk.of rfl) ⟨Nat.zero_le _, Nat.zero_le _⟩ rfl rfl rfl h (fun z => hself_0 z) (fun _ M2 h => ?_)
      refine r_iconst (v := 0) rfl (by decide) ?_
      refine r_istore_n (lo' := [some (va_rf r0), some (.int i1), some (.int i2), some (.int (0 : Int32)), none]) rfl rfl rfl rfl ?_
      exact s_X5_level_36 hself_0 hself_1 hself_2 FU _ _ _ _ _ h
    · refine r_aload_n rfl rfl ?_
      refine r_iload_n rfl rfl ?_
      refine r_cv_v (vs := [.int i2]) rfl ml_5_107 rfl (rOk.of rfl) ⟨Nat.zero_le _, Nat.zero_le _⟩ rfl rfl rfl h (fun z => hself_2 z) (fun _ M3 h => ?_)
      refine r_goto 98 rfl (by decide) ?_
      exact r_vret rfl rfl ⟨Nat.le_of_ble_eq_true rfl, Nat.le_of_ble_eq_true rfl⟩ h
set_option maxRecDepth 20000 in
theorem dk_X5_ask : ∀ pc i, L_X5_ask[pc]? = some (some i) → decode prog_7_method_11_code pc = .ok i := dk_of (by decide +kernel)
theorem s_X5_ask_70 {d : Nat} {P : Unit → Mem → Prop} {self : Nat → Option Nat → Int32 → Int32 → Mem → Option (Unit × Mem)}  (hself_0 : ∀ {Q : Unit → Mem → Prop} {r0 : Option Nat} {i1 i2 : Int32} {M : Mem}, FQ (self 0 r0 i1 i2 M) Q → Con Y_X5_level (d + 10) 0 0 [va_rf r0, .int i1, .int i2] M (QV Q)) (hself_1 : ∀ {Q : Unit → Mem → Prop} {r0 : Option Nat} {i1 : Int32} {M : Mem}, FQ (self 1 r0 i1 0 M) Q → Con Y_X5_ask (d + 10) 0 0 [va_rf r0, .int i1] M (QV Q)) (hself_2 : ∀ {Q : Unit → Mem → Prop} {r0 : Option Nat} {i1 : Int32} {M : Mem}, FQ (self 2 r0 i1 0 M) Q → Con Y_X5_one (d + 10) 0 0 [va_rf r0, .int i1] M (QV Q))  (r0 : Option Nat) (i1 : Int32) (i2 : Int32) (M : Mem) (h : FQ (f_X5_ask_70 self  r0 i1 i2 M) P) : wp Y_X5_ask (rmD (d + 11) 0 0) (FM (QV P) 0 0) 0 0 70 [some (va_rf r0), some (.int i1), some (.int i2)] [] M := by
  unfold f_X5_ask_70 at h
  refine r_aload_n rfl rfl ?_
  refine r_iconst (v := 1) rfl (by decide) ?_
  refine r_cv_v (vs := [.int (1 : Int32)]) rfl ml_5_56 rfl (rOk.of rfl) ⟨Nat.zero_le _, Nat.zero_le _⟩ rfl rfl rfl h s_X5_fail (fun _ M1 h => ?_)
  refine r_aload_n rfl rfl ?_
  refine r_iload_n rfl rfl ?_
  refine r_cv_v (vs := [.int i2]) rfl ml_5_83 rfl (rOk.of rfl) ⟨Nat.zero_le _, Nat.zero_le _⟩ rfl rfl rfl h s_X5_expect (fun _ M2 h => ?_)
  refine r_aload_n rfl rfl ?_
  refine r_iconst (v := 3) rfl (by decide) ?_
  refine r_iload_n rfl rfl ?_
  refine r_cv_v (vs := [.int (3 : Int32), .int i1]) rfl ml_5_71 rfl (rOk.of rfl) ⟨Nat.zero_le _, Nat.zero_le _⟩ rfl rfl rfl h (fun z => hself_0 z) (fun _ M3 h => ?_)
  refine r_aload_n rfl rfl ?_
  refine r_getR rfl fl_5_25 rfl h (fun v1 h => ?_)
  refine r_sipush (v := 10000) rfl (by decide) ?_
  refine r_iload_n rfl rfl ?_
  refine r_iadd rfl ?_
  refine r_cv_v (vs := [.int ((10000 : Int32) + i2)]) rfl ml_5_113 rfl (rOk.of rfl) ⟨Nat.zero_le _, Nat.zero_le _⟩ rfl rfl rfl h s_X6_emit (fun _ M4 h => ?_)
  exact r_vret rfl rfl ⟨Nat.le_of_ble_eq_true rfl, Nat.le_of_ble_eq_true rfl⟩ h
theorem sb_X5_ask {d : Nat} {P : Unit → Mem → Prop} {self : Nat → Option Nat → Int32 → Int32 → Mem → Option (Unit × Mem)} (hself_0 : ∀ {Q : Unit → Mem → Prop} {r0 : Option Nat} {i1 i2 : Int32} {M : Mem}, FQ (self 0 r0 i1 i2 M) Q → Con Y_X5_level (d + 10) 0 0 [va_rf r0, .int i1, .int i2] M (QV Q)) (hself_1 : ∀ {Q : Unit → Mem → Prop} {r0 : Option Nat} {i1 : Int32} {M : Mem}, FQ (self 1 r0 i1 0 M) Q → Con Y_X5_ask (d + 10) 0 0 [va_rf r0, .int i1] M (QV Q)) (hself_2 : ∀ {Q : Unit → Mem → Prop} {r0 : Option Nat} {i1 : Int32} {M : Mem}, FQ (self 2 r0 i1 0 M) Q → Con Y_X5_one (d + 10) 0 0 [va_rf r0, .int i1] M (QV Q)) {r0 : Option Nat} {i1 : Int32} {M : Mem} (h : FQ (b_X5_ask self r0 i1 M) P) : Con Y_X5_ask (d + 11) 0 0 [va_rf r0, .int i1] M (QV P) := by
  refine Con.of [some (va_rf r0), some (.int i1), none] (by decide +kernel) dk_X5_ask (by simp [Y_X5_ask, cat_rf, cat_i, cat_l]) (by simp [loE, Y_X5_ask, cat_rf, cat_i, cat_l, List.replicate]) ?_
  unfold b_X5_ask at h
  refine r_aload_n rfl rfl ?_
  refine r_getI rfl fl_5_19 rfl h (fun v1 h => ?_)
  refine r_if_eq 8 rfl (by decide) h (fun h => ?_) (fun h => ?_)
  · refine r_aload_n rfl rfl ?_
    refine r_getI rfl fl_5_40 rfl h (fun v2 h => ?_)
    refine r_bipush (v := 19) rfl (by decide) ?_
    refine r_ic_ne 47 rfl (by decide) h (fun h => ?_) (fun h => ?_)
    · refine r_aload_n rfl rfl ?_
      refine r_iload_n rfl rfl ?_
      refine r_cv_i (vs := [.int i1]) rfl ml_5_116 rfl (rOk.of rfl) ⟨Nat.zero_le _, Nat.zero_le _⟩ rfl rfl rfl h s_X5_mayOpen (fun v3 M1 h => ?_)
      refine r_if_eq 46 rfl (by decide) h (fun h => ?_) (fun h => ?_)
      · exact r_vret rfl rfl ⟨Nat.le_of_ble_eq_true rfl, Nat.le_of_ble_eq_true rfl⟩ h
      · refine r_aload_n rfl rfl ?_
        refine r_cv_v (vs := []) rfl ml_5_37 rfl (rOk.of rfl) ⟨Nat.zero_le _, Nat.zero_le _⟩ rfl rfl rfl h s_X5_advance (fun _ M2 h => ?_)
        refine r_aload_n rfl rfl ?_
        refine r_iload_n rfl rfl ?_
        refine r_iconst (v := 1) rfl (by decide) ?_
        refine r_iadd rfl ?_
        refine r_cv_v (vs := [.int (i1 + (1 : Int32))]) rfl ml_5_104 rfl (rOk.of rfl) ⟨Nat.zero_le _, Nat.zero_le _⟩ rfl rfl rfl h (fun z => hself_1 z) (fun _ M3 h => ?_)
        refine r_aload_n rfl rfl ?_
        refine r_getR rfl fl_5_25 rfl h (fun v4 h => ?_)
        refine r_sipush (v := 10019) rfl (by decide) ?_
        refine r_cv_v (vs := [.int (10019 : Int32)]) rfl ml_5_113 rfl (rOk.of rfl) ⟨Nat.zero_le _, Nat.zero_le _⟩ rfl rfl rfl h s_X6_emit (fun _ M4 h => ?_)
        exact r_vret rfl rfl ⟨Nat.le_of_ble_eq_true rfl, Nat.le_of_ble_eq_true rfl⟩ h
    · refine r_aload_n rfl rfl ?_
      refine r_iconst (v := 3) rfl (by decide) ?_
      refine r_iload_n rfl rfl ?_
      refine r_cv_v (vs := [.int (3 : Int32), .int i1]) rfl ml_5_71 rfl (rOk.of rfl) ⟨Nat.zero_le _, Nat.zero_le _⟩ rfl rfl rfl h (fun z => hself_0 z) (fun _ M5 h => ?_)
      refine r_aload_n rfl rfl ?_
      refine r_getI rfl fl_5_40 rfl h (fun v5 h => ?_)
      refine r_istore_n (lo' := [some (va_rf r0), some (.int i1), some (.int v5)]) rfl rfl rfl rfl ?_
      refine r_iload_n rfl rfl ?_
      refine r_bipush (v := 21) rfl (by decide) ?_
      refine r_ic_lt 70 rfl (by decide) h (fun h => ?_) (fun h => ?_)
      · exact s_X5_ask_70 hself_0 hself_1 hself_2 _ _ _ _ h
      · refine r_iload_n rfl rfl ?_
        refine r_bipush (v := 26) rfl (by decide) ?_
        refine r_ic_le 75 rfl (by decide) h (fun h => ?_) (fun h => ?_)
        · refine r_aload_n rfl rfl ?_
          refine r_iload_n rfl rfl ?_
          refine r_cv_v (vs := [.int v5]) rfl ml_5_83 rfl (rOk.of rfl) ⟨Nat.zero_le _, Nat.zero_le _⟩ rfl rfl rfl h s_X5_expect (fun _ M6 h => ?_)
          refine r_aload_n rfl rfl ?_
          refine r_iconst (v := 3) rfl (by decide) ?_
          refine r_iload_n rfl rfl ?_
          refine r_cv_v (vs := [.int (3 : Int32), .int i1]) rfl ml_5_71 rfl (rOk.of rfl) ⟨Nat.zero_le _, Nat.zero_le _⟩ rfl rfl rfl h (fun z => hself_0 z) (fun _ M7 h => ?_)
          refine r_aload_n rfl rfl ?_
          refine r_getR rfl fl_5_25 rfl h (fun v6 h => ?_)
          refine r_sipush (v := 10000) rfl (by decide) ?_
          refine r_iload_n rfl rfl ?_
          refine r_iadd rfl ?_
          refine r_cv_v (vs := [.int ((10000 : Int32) + v5)]) rfl ml_5_113 rfl (rOk.of rfl) ⟨Nat.zero_le _, Nat.zero_le _⟩ rfl rfl rfl h s_X6_emit (fun _ M8 h => ?_)
          exact r_vret rfl rfl ⟨Nat.le_of_ble_eq_true rfl, Nat.le_of_ble_eq_true rfl⟩ h
        · exact s_X5_ask_70 hself_0 hself_1 hself_2 _ _ _ _ h
  · exact r_vret rfl rfl ⟨Nat.le_of_ble_eq_true rfl, Nat.le_of_ble_eq_true rfl⟩ h
set_option maxRecDepth 20000 in
theorem dk_X5_one : ∀ pc i, L_X5_one[pc]? = some (some i) → decode prog_7_method_12_code pc = .ok i := dk_of (by decide +kernel)
theorem s_X5_one_131 {d : Nat} {P : Unit → Mem → Prop} {self : Nat → Option Nat → Int32 → Int32 → Mem → Option (Unit × Mem)}  (hself_0 : ∀ {Q : Unit → Mem → Prop} {r0 : Option Nat} {i1 i2 : Int32} {M : Mem}, FQ (self 0 r0 i1 i2 M) Q → Con Y_X5_level (d + 10) 0 0 [va_rf r0, .int i1, .int i2] M (QV Q)) (hself_1 : ∀ {Q : Unit → Mem → Prop} {r0 : Option Nat} {i1 : Int32} {M : Mem}, FQ (self 1 r0 i1 0 M) Q → Con Y_X5_ask (d + 10) 0 0 [va_rf r0, .int i1] M (QV Q)) (hself_2 : ∀ {Q : Unit → Mem → Prop} {r0 : Option Nat} {i1 : Int32} {M : Mem}, FQ (self 2 r0 i1 0 M) Q → Con Y_X5_one (d + 10) 0 0 [va_rf r0, .int i1] M (QV Q))  (r0 : Option Nat) (i1 : Int32) (M : Mem) (h : FQ (f_X5_one_131 self  r0 i1 M) P) : wp Y_X5_one (rmD (d + 11) 0 0) (FM (QV P) 0 0) 0 0 131 [some (va_rf r0), some (.int i1)] [] M := by
  unfold f_X5_one_131 at h
  refine r_aload_n rfl rfl ?_
  refine r_getI rfl fl_5_40 rfl h (fun v1 h => ?_)
  refine r_bipush (v := 28) rfl (by decide) ?_
  refine r_ic_ne 172 rfl (by decide) h (fun h => ?_) (fun h => ?_)
  · refine r_aload_n rfl rfl ?_
    refine r_iload_n rfl rfl ?_
    refine r_cv_i (vs := [.int i1]) rfl ml_5_116 rfl (rOk.of rfl) ⟨Nat.zero_le _, Nat.zero_le _⟩ rfl rfl rfl h s_X5_mayOpen (fun v2 M1 h => ?_)
    refine r_if_eq 172 rfl (by decide) h (fun h => ?_) (fun h => ?_)
    · refine r_aload_n rfl rfl ?_
      refine r_iconst (v := 1) rfl (by decide) ?_
      refine r_cv_v (vs := [.int (1 : Int32)]) rfl ml_5_56 rfl (rOk.of rfl) ⟨Nat.zero_le _, Nat.zero_le _⟩ rfl rfl rfl h s_X5_fail (fun _ M2 h => ?_)
      exact r_vret rfl rfl ⟨Nat.le_of_ble_eq_true rfl, Nat.le_of_ble_eq_true rfl⟩ h
    · refine r_aload_n rfl rfl ?_
      refine r_cv_v (vs := []) rfl ml_5_37 rfl (rOk.of rfl) ⟨Nat.zero_le _, Nat.zero_le _⟩ rfl rfl rfl h s_X5_advance (fun _ M3 h => ?_)
      refine r_aload_n rfl rfl ?_
      refine r_iload_n rfl rfl ?_
      refine r_iconst (v := 1) rfl (by decide) ?_
      refine r_iadd rfl ?_
      refine r_cv_v (vs := [.int (i1 + (1 : Int32))]) rfl ml_5_107 rfl (rOk.of rfl) ⟨Nat.zero_le _, Nat.zero_le _⟩ rfl rfl rfl h (fun z => hself_2 z) (fun _ M4 h => ?_)
      refine r_aload_n rfl rfl ?_
      refine r_getR rfl fl_5_25 rfl h (fun v3 h => ?_)
      refine r_sipush (v := 10037) rfl (by decide) ?_
      refine r_cv_v (vs := [.int (10037 : Int32)]) rfl ml_5_113 rfl (rOk.of rfl) ⟨Nat.zero_le _, Nat.zero_le _⟩ rfl rfl rfl h s_X6_emit (fun _ M5 h => ?_)
      refine r_goto 177 rfl (by decide) ?_
      exact r_vret rfl rfl ⟨Nat.le_of_ble_eq_true rfl, Nat.le_of_ble_eq_true rfl⟩ h
  · refine r_aload_n rfl rfl ?_
    refine r_iconst (v := 1) rfl (by decide) ?_
    refine r_cv_v (vs := [.int (1 : Int32)]) rfl ml_5_56 rfl (rOk.of rfl) ⟨Nat.zero_le _, Nat.zero_le _⟩ rfl rfl rfl h s_X5_fail (fun _ M6 h => ?_)
    exact r_vret rfl rfl ⟨Nat.le_of_ble_eq_true rfl, Nat.le_of_ble_eq_true rfl⟩ h
theorem s_X5_one_35 {d : Nat} {P : Unit → Mem → Prop} {self : Nat → Option Nat → Int32 → Int32 → Mem → Option (Unit × Mem)}  (hself_0 : ∀ {Q : Unit → Mem → Prop} {r0 : Option Nat} {i1 i2 : Int32} {M : Mem}, FQ (self 0 r0 i1 i2 M) Q → Con Y_X5_level (d + 10) 0 0 [va_rf r0, .int i1, .int i2] M (QV Q)) (hself_1 : ∀ {Q : Unit → Mem → Prop} {r0 : Option Nat} {i1 : Int32} {M : Mem}, FQ (self 1 r0 i1 0 M) Q → Con Y_X5_ask (d + 10) 0 0 [va_rf r0, .int i1] M (QV Q)) (hself_2 : ∀ {Q : Unit → Mem → Prop} {r0 : Option Nat} {i1 : Int32} {M : Mem}, FQ (self 2 r0 i1 0 M) Q → Con Y_X5_one (d + 10) 0 0 [va_rf r0, .int i1] M (QV Q))  (r0 : Option Nat) (i1 : Int32) (M : Mem) (h : FQ (f_X5_one_35 self  r0 i1 M) P) : wp Y_X5_one (rmD (d + 11) 0 0) (FM (QV P) 0 0) 0 0 35 [some (va_rf r0), some (.int i1)] [] M := by
  unfold f_X5_one_35 at h
  refine r_aload_n rfl rfl ?_
  refine r_getI rfl fl_5_40 rfl h (fun v1 h => ?_)
  refine r_bipush (v := 20) rfl (by decide) ?_
  refine r_ic_ne 62 rfl (by decide) h (fun h => ?_) (fun h => ?_)
  · refine r_aload_n rfl rfl ?_
    refine r_getR rfl fl_5_25 rfl h (fun v2 h => ?_)
    refine r_aload_n rfl rfl ?_
    refine r_getI rfl fl_5_101 rfl h (fun v3 h => ?_)
    refine r_cv_v (vs := [.int v3]) rfl ml_5_113 rfl (rOk.of rfl) ⟨Nat.zero_le _, Nat.zero_le _⟩ rfl rfl rfl h s_X6_emit (fun _ M1 h => ?_)
    refine r_aload_n rfl rfl ?_
    refine r_cv_v (vs := []) rfl ml_5_37 rfl (rOk.of rfl) ⟨Nat.zero_le _, Nat.zero_le _⟩ rfl rfl rfl h s_X5_advance (fun _ M2 h => ?_)
    refine r_goto 177 rfl (by decide) ?_
    exact r_vret rfl rfl ⟨Nat.le_of_ble_eq_true rfl, Nat.le_of_ble_eq_true rfl⟩ h
  · refine r_aload_n rfl rfl ?_
    refine r_getI rfl fl_5_40 rfl h (fun v4 h => ?_)
    refine r_bipush (v := 6) rfl (by decide) ?_
    refine r_ic_gt 93 rfl (by decide) h (fun h => ?_) (fun h => ?_)
    · refine r_aload_n rfl rfl ?_
      refine r_getI rfl fl_5_40 rfl h (fun v5 h => ?_)
      refine r_bipush (v := 31) rfl (by decide) ?_
      refine r_ic_ne 131 rfl (by decide) h (fun h => ?_) (fun h => ?_)
      · refine r_aload_n rfl rfl ?_
        refine r_iload_n rfl rfl ?_
        refine r_cv_i (vs := [.int i1]) rfl ml_5_116 rfl (rOk.of rfl) ⟨Nat.zero_le _, Nat.zero_le _⟩ rfl rfl rfl h s_X5_mayOpen (fun v6 M3 h => ?_)
        refine r_if_eq 131 rfl (by decide) h (fun h => ?_) (fun h => ?_)
        · exact s_X5_one_131 hself_0 hself_1 hself_2 _ _ _ h
        · refine r_aload_n rfl rfl ?_
          refine r_cv_v (vs := []) rfl ml_5_37 rfl (rOk.of rfl) ⟨Nat.zero_le _, Nat.zero_le _⟩ rfl rfl rfl h s_X5_advance (fun _ M4 h => ?_)
          refine r_aload_n rfl rfl ?_
          refine r_iconst (v := 3) rfl (by decide) ?_
          refine r_iload_n rfl rfl ?_
          refine r_iconst (v := 1) rfl (by decide) ?_
          refine r_iadd rfl ?_
          refine r_cv_v (vs := [.int (3 : Int32), .int (i1 + (1 : Int32))]) rfl ml_5_71 rfl (rOk.of rfl) ⟨Nat.zero_le _, Nat.zero_le _⟩ rfl rfl rfl h (fun z => hself_0 z) (fun _ M5 h => ?_)
          refine r_aload_n rfl rfl ?_
          refine r_bipush (v := 32) rfl (by decide) ?_
          refine r_cv_v (vs := [.int (32 : Int32)]) rfl ml_5_83 rfl (rOk.of rfl) ⟨Nat.zero_le _, Nat.zero_le _⟩ rfl rfl rfl h s_X5_expect (fun _ M6 h => ?_)
          refine r_goto 177 rfl (by decide) ?_
          exact r_vret rfl rfl ⟨Nat.le_of_ble_eq_true rfl, Nat.le_of_ble_eq_true rfl⟩ h
      · exact s_X5_one_131 hself_0 hself_1 hself_2 _ _ _ h
    · refine r_aload_n rfl rfl ?_
      refine r_getR rfl fl_5_25 rfl h (fun v7 h => ?_)
      refine r_sipush (v := 10000) rfl (by decide) ?_
      refine r_aload_n rfl rfl ?_
      refine r_getI rfl fl_5_40 rfl h (fun v8 h => ?_)
      refine r_iadd rfl ?_
      refine r_cv_v (vs := [.int ((10000 : Int32) + v8)]) rfl ml_5_113 rfl (rOk.of rfl) ⟨Nat.zero_le _, Nat.zero_le _⟩ rfl rfl rfl h s_X6_emit (fun _ M7 h => ?_)
      refine r_aload_n rfl rfl ?_
      refine r_cv_v (vs := []) rfl ml_5_37 rfl (rOk.of rfl) ⟨Nat.zero_le _, Nat.zero_le _⟩ rfl rfl rfl h s_X5_advance (fun _ M8 h => ?_)
      refine r_goto 177 rfl (by decide) ?_
      exact r_vret rfl rfl ⟨Nat.le_of_ble_eq_true rfl, Nat.le_of_ble_eq_true rfl⟩ h
theorem sb_X5_one {d : Nat} {P : Unit → Mem → Prop} {self : Nat → Option Nat → Int32 → Int32 → Mem → Option (Unit × Mem)} (hself_0 : ∀ {Q : Unit → Mem → Prop} {r0 : Option Nat} {i1 i2 : Int32} {M : Mem}, FQ (self 0 r0 i1 i2 M) Q → Con Y_X5_level (d + 10) 0 0 [va_rf r0, .int i1, .int i2] M (QV Q)) (hself_1 : ∀ {Q : Unit → Mem → Prop} {r0 : Option Nat} {i1 : Int32} {M : Mem}, FQ (self 1 r0 i1 0 M) Q → Con Y_X5_ask (d + 10) 0 0 [va_rf r0, .int i1] M (QV Q)) (hself_2 : ∀ {Q : Unit → Mem → Prop} {r0 : Option Nat} {i1 : Int32} {M : Mem}, FQ (self 2 r0 i1 0 M) Q → Con Y_X5_one (d + 10) 0 0 [va_rf r0, .int i1] M (QV Q)) {r0 : Option Nat} {i1 : Int32} {M : Mem} (h : FQ (b_X5_one self r0 i1 M) P) : Con Y_X5_one (d + 11) 0 0 [va_rf r0, .int i1] M (QV P) := by
  refine Con.of [some (va_rf r0), some (.int i1)] (by decide +kernel) dk_X5_one (by simp [Y_X5_one, cat_rf, cat_i, cat_l]) (by simp [loE, Y_X5_one, cat_rf, cat_i, cat_l, List.replicate]) ?_
  unfold b_X5_one at h
  refine r_aload_n rfl rfl ?_
  refine r_getI rfl fl_5_19 rfl h (fun v1 h => ?_)
  refine r_if_eq 8 rfl (by decide) h (fun h => ?_) (fun h => ?_)
  · refine r_aload_n rfl rfl ?_
    refine r_getI rfl fl_5_40 rfl h (fun v2 h => ?_)
    refine r_bipush (v := 20) rfl (by decide) ?_
    refine r_ic_ne 35 rfl (by decide) h (fun h => ?_) (fun h => ?_)
    · refine r_aload_n rfl rfl ?_
      refine r_getI rfl fl_5_101 rfl h (fun v3 h => ?_)
      refine r_sipush (v := 9999) rfl (by decide) ?_
      refine r_ic_le 35 rfl (by decide) h (fun h => ?_) (fun h => ?_)
      · exact s_X5_one_35 hself_0 hself_1 hself_2 _ _ _ h
      · refine r_aload_n rfl rfl ?_
        refine r_iconst (v := 2) rfl (by decide) ?_
        refine r_cv_v (vs := [.int (2 : Int32)]) rfl ml_5_56 rfl (rOk.of rfl) ⟨Nat.zero_le _, Nat.zero_le _⟩ rfl rfl rfl h s_X5_fail (fun _ M1 h => ?_)
        refine r_goto 177 rfl (by decide) ?_
        exact r_vret rfl rfl ⟨Nat.le_of_ble_eq_true rfl, Nat.le_of_ble_eq_true rfl⟩ h
    · exact s_X5_one_35 hself_0 hself_1 hself_2 _ _ _ h
  · exact r_vret rfl rfl ⟨Nat.le_of_ble_eq_true rfl, Nat.le_of_ble_eq_true rfl⟩ h
theorem s_X5_rec : ∀ (k d : Nat), (∀ {Q : Unit → Mem → Prop} {r0 : Option Nat} {i1 i2 : Int32} {M : Mem}, FQ (f_X5_rec k 0 r0 i1 i2 M) Q → Con Y_X5_level (d + k + 10) 0 0 [va_rf r0, .int i1, .int i2] M (QV Q)) ∧ (∀ {Q : Unit → Mem → Prop} {r0 : Option Nat} {i1 : Int32} {M : Mem}, FQ (f_X5_rec k 1 r0 i1 0 M) Q → Con Y_X5_ask (d + k + 10) 0 0 [va_rf r0, .int i1] M (QV Q)) ∧ (∀ {Q : Unit → Mem → Prop} {r0 : Option Nat} {i1 : Int32} {M : Mem}, FQ (f_X5_rec k 2 r0 i1 0 M) Q → Con Y_X5_one (d + k + 10) 0 0 [va_rf r0, .int i1] M (QV Q))
  | 0, d => ⟨fun h => h.no, fun h => h.no, fun h => h.no⟩
  | k + 1, d => by
    obtain ⟨h0, h1, h2⟩ := s_X5_rec k d
    refine ⟨fun h => ?_, fun h => ?_, fun h => ?_⟩
    · rw [show d + (k + 1) + 10 = d + k + 11 by omega]; exact sb_X5_level h0 h1 h2 h
    · rw [show d + (k + 1) + 10 = d + k + 11 by omega]; exact sb_X5_ask h0 h1 h2 h
    · rw [show d + (k + 1) + 10 = d + k + 11 by omega]; exact sb_X5_one h0 h1 h2 h
theorem s_X5_level {d : Nat} {P : Unit → Mem → Prop} {r0 : Option Nat} {i1 i2 : Int32} {M : Mem} (h : FQ (f_X5_level r0 i1 i2 M) P) : Con Y_X5_level (d + 74) 0 0 [va_rf r0, .int i1, .int i2] M (QV P) := (s_X5_rec 64 d).1 h
theorem s_X5_ask {d : Nat} {P : Unit → Mem → Prop} {r0 : Option Nat} {i1 : Int32} {M : Mem} (h : FQ (f_X5_ask r0 i1 M) P) : Con Y_X5_ask (d + 74) 0 0 [va_rf r0, .int i1] M (QV P) := (s_X5_rec 64 d).2.1 h
theorem s_X5_one {d : Nat} {P : Unit → Mem → Prop} {r0 : Option Nat} {i1 : Int32} {M : Mem} (h : FQ (f_X5_one r0 i1 M) P) : Con Y_X5_one (d + 74) 0 0 [va_rf r0, .int i1] M (QV P) := (s_X5_rec 64 d).2.2 h
set_option maxRecDepth 20000 in
theorem dk_X6_add : ∀ pc i, L_X6_add[pc]? = some (some i) → decode prog_8_method_5_code pc = .ok i := dk_of (by decide +kernel)
theorem s_X6_add {d : Nat} {P : Option Nat → Mem → Prop} {r0 : Option Nat} {i1 : Int32} {M : Mem} (h : FQ (f_X6_add r0 i1 M) P) : Con Y_X6_add (d + 1) 0 0 [va_rf r0, .int i1] M (QR P) := by
  refine Con.of [some (va_rf r0), some (.int i1), none] (by decide +kernel) dk_X6_add (by simp [Y_X6_add, cat_rf, cat_i, cat_l]) (by simp [loE, Y_X6_add, cat_rf, cat_i, cat_l, List.replicate]) ?_
  unfold f_X6_add at h
  refine r_aload_n rfl rfl ?_
  refine r_getI rfl fl_6_30 rfl h (fun v1 h => ?_)
  refine r_bipush (v := 20) rfl (by decide) ?_
  refine r_ic_lt 11 rfl (by decide) h (fun h => ?_) (fun h => ?_)
  · refine r_aload_n rfl rfl ?_
    refine r_getR rfl fl_6_13 rfl h (fun v2 h => ?_)
    refine r_aload_n rfl rfl ?_
    refine r_getI rfl fl_6_30 rfl h (fun v3 h => ?_)
    refine r_aald6 rfl h (fun v4 h => ?_)
    refine r_astore_n (lo' := [some (va_rf r0), some (.int i1), some (va_rf v4)]) rfl rfl rfl rfl ?_
    refine r_aload_n rfl rfl ?_
    refine r_dup rfl (cat_rf _) ?_
    refine r_getI rfl fl_6_30 rfl h (fun v5 h => ?_)
    refine r_iconst (v := 1) rfl (by decide) ?_
    refine r_iadd rfl ?_
    refine r_putI rfl fl_6_30 (fun z => by cases z) rfl h (fun M1 h => ?_)
    refine r_aload_n rfl rfl ?_
    refine r_iload_n rfl rfl ?_
    refine r_putI rfl fl_6_41 (fun z => by cases z) rfl h (fun M2 h => ?_)
    refine r_aload_n rfl rfl ?_
    refine r_aload_n rfl rfl ?_
    refine r_getI rfl fl_6_34 rfl h (fun v6 h => ?_)
    refine r_putI rfl fl_6_44 (fun z => by cases z) rfl h (fun M3 h => ?_)
    refine r_iload_n rfl rfl ?_
    refine r_cs_i (vs := [.int i1]) rfl ml_6_37 (rOk.of rfl) ⟨Nat.zero_le _, Nat.zero_le _⟩ rfl rfl rfl h s_X6_isSingle (fun v7 M4 h => ?_)
    refine r_if_eq 61 rfl (by decide) h (fun h => ?_) (fun h => ?_)
    · refine r_aload_n rfl rfl ?_
      exact r_aret rfl rfl ⟨Nat.le_of_ble_eq_true rfl, Nat.le_of_ble_eq_true rfl⟩ h
    · refine r_aload_n rfl rfl ?_
      refine r_getR rfl fl_6_20 rfl h (fun v8 h => ?_)
      refine r_iload_n rfl rfl ?_
      refine r_bipush (v := 12) rfl (by decide) ?_
      refine r_isub rfl ?_
      refine r_aload_n rfl rfl ?_
      refine r_aast6 rfl h (fun M5 h => ?_)
      refine r_aload_n rfl rfl ?_
      exact r_aret rfl rfl ⟨Nat.le_of_ble_eq_true rfl, Nat.le_of_ble_eq_true rfl⟩ h
  · refine r_null rfl ?_
    exact r_aret rfl rfl ⟨Nat.le_of_ble_eq_true rfl, Nat.le_of_ble_eq_true rfl⟩ h
set_option maxRecDepth 20000 in
theorem dk_X5_clause : ∀ pc i, L_X5_clause[pc]? = some (some i) → decode prog_7_method_5_code pc = .ok i := dk_of (by decide +kernel)
theorem s_X5_clause_96 {d : Nat} {P : Unit → Mem → Prop}   (r0 : Option Nat) (i1 : Int32) (r2 : Option Nat) (M : Mem) (h : FQ (f_X5_clause_96  r0 i1 r2 M) P) : wp Y_X5_clause (rmD (d + 75) 0 0) (FM (QV P) 0 0) 0 0 96 [some (va_rf r0), some (.int i1), some (va_rf r2)] [] M := by
  unfold f_X5_clause_96 at h
  refine r_iload_n rfl rfl ?_
  refine r_if_ne 126 rfl (by decide) h (fun h => ?_) (fun h => ?_)
  · refine r_aload_n rfl rfl ?_
    refine r_getI rfl fl_5_19 rfl h (fun v1 h => ?_)
    refine r_if_ne 126 rfl (by decide) h (fun h => ?_) (fun h => ?_)
    · refine r_aload_n rfl rfl ?_
      refine r_getI rfl fl_5_40 rfl h (fun v2 h => ?_)
      refine r_bipush (v := 11) rfl (by decide) ?_
      refine r_ic_ne 126 rfl (by decide) h (fun h => ?_) (fun h => ?_)
      · refine r_aload_n rfl rfl ?_
        refine r_cv_v (vs := []) rfl ml_5_37 rfl (rOk.of rfl) ⟨Nat.zero_le _, Nat.zero_le _⟩ rfl rfl rfl h s_X5_advance (fun _ M1 h => ?_)
        refine r_aload_n rfl rfl ?_
        refine r_iconst (v := 0) rfl (by decide) ?_
        refine r_iconst (v := 0) rfl (by decide) ?_
        refine r_cv_v (vs := [.int (0 : Int32), .int (0 : Int32)]) rfl ml_5_71 rfl (rOk.of rfl) ⟨Nat.zero_le _, Nat.zero_le _⟩ rfl rfl rfl h s_X5_level (fun _ M2 h => ?_)
        refine r_aload_n rfl rfl ?_
        refine r_aload_n rfl rfl ?_
        refine r_getR rfl fl_5_25 rfl h (fun v3 h => ?_)
        refine r_getI rfl fl_5_75 rfl h (fun v4 h => ?_)
        refine r_putI rfl fl_5_78 (fun z => by cases z) rfl h (fun M3 h => ?_)
        refine r_aload_n rfl rfl ?_
        refine r_bipush (v := 34) rfl (by decide) ?_
        refine r_cv_v (vs := [.int (34 : Int32)]) rfl ml_5_83 rfl (rOk.of rfl) ⟨Nat.zero_le _, Nat.zero_le _⟩ rfl rfl rfl h s_X5_expect (fun _ M4 h => ?_)
        exact r_vret rfl rfl ⟨Nat.le_of_ble_eq_true rfl, Nat.le_of_ble_eq_true rfl⟩ h
      · refine r_aload_n rfl rfl ?_
        refine r_aload_n rfl rfl ?_
        refine r_getR rfl fl_5_25 rfl h (fun v5 h => ?_)
        refine r_getI rfl fl_5_75 rfl h (fun v6 h => ?_)
        refine r_putI rfl fl_5_78 (fun z => by cases z) rfl h (fun M5 h => ?_)
        refine r_aload_n rfl rfl ?_
        refine r_bipush (v := 34) rfl (by decide) ?_
        refine r_cv_v (vs := [.int (34 : Int32)]) rfl ml_5_83 rfl (rOk.of rfl) ⟨Nat.zero_le _, Nat.zero_le _⟩ rfl rfl rfl h s_X5_expect (fun _ M6 h => ?_)
        exact r_vret rfl rfl ⟨Nat.le_of_ble_eq_true rfl, Nat.le_of_ble_eq_true rfl⟩ h
    · refine r_aload_n rfl rfl ?_
      refine r_aload_n rfl rfl ?_
      refine r_getR rfl fl_5_25 rfl h (fun v7 h => ?_)
      refine r_getI rfl fl_5_75 rfl h (fun v8 h => ?_)
      refine r_putI rfl fl_5_78 (fun z => by cases z) rfl h (fun M7 h => ?_)
      refine r_aload_n rfl rfl ?_
      refine r_bipush (v := 34) rfl (by decide) ?_
      refine r_cv_v (vs := [.int (34 : Int32)]) rfl ml_5_83 rfl (rOk.of rfl) ⟨Nat.zero_le _, Nat.zero_le _⟩ rfl rfl rfl h s_X5_expect (fun _ M8 h => ?_)
      exact r_vret rfl rfl ⟨Nat.le_of_ble_eq_true rfl, Nat.le_of_ble_eq_true rfl⟩ h
  · refine r_aload_n rfl rfl ?_
    refine r_aload_n rfl rfl ?_
    refine r_getR rfl fl_5_25 rfl h (fun v9 h => ?_)
    refine r_getI rfl fl_5_75 rfl h (fun v10 h => ?_)
    refine r_putI rfl fl_5_78 (fun z => by cases z) rfl h (fun M9 h => ?_)
    refine r_aload_n rfl rfl ?_
    refine r_bipush (v := 34) rfl (by decide) ?_
    refine r_cv_v (vs := [.int (34 : Int32)]) rfl ml_5_83 rfl (rOk.of rfl) ⟨Nat.zero_le _, Nat.zero_le _⟩ rfl rfl rfl h s_X5_expect (fun _ M10 h => ?_)
    exact r_vret rfl rfl ⟨Nat.le_of_ble_eq_true rfl, Nat.le_of_ble_eq_true rfl⟩ h
theorem s_X5_clause_28 {d : Nat} {P : Unit → Mem → Prop}   (r0 : Option Nat) (i1 : Int32) (M : Mem) (h : FQ (f_X5_clause_28  r0 i1 M) P) : wp Y_X5_clause (rmD (d + 75) 0 0) (FM (QV P) 0 0) 0 0 28 [some (va_rf r0), some (.int i1), none] [] M := by
  unfold f_X5_clause_28 at h
  refine r_aload_n rfl rfl ?_
  refine r_getR rfl fl_5_25 rfl h (fun v1 h => ?_)
  refine r_iload_n rfl rfl ?_
  refine r_cv_r (vs := [.int i1]) rfl ml_5_60 rfl (rOk.of rfl) ⟨Nat.zero_le _, Nat.zero_le _⟩ rfl rfl rfl h s_X6_singleOf (fun v2 M1 h => ?_)
  refine r_null_t 45 rfl (by decide) h (fun h => ?_) (fun h => ?_)
  · refine r_aload_n rfl rfl ?_
    refine r_getR rfl fl_5_25 rfl h (fun v3 h => ?_)
    refine r_iload_n rfl rfl ?_
    refine r_cv_r (vs := [.int i1]) rfl ml_5_64 rfl (rOk.of rfl) ⟨Nat.zero_le _, Nat.zero_le _⟩ rfl rfl rfl h s_X6_add (fun v4 M2 h => ?_)
    refine r_astore_n (lo' := [some (va_rf r0), some (.int i1), some (va_rf v4)]) rfl rfl rfl rfl ?_
    refine r_aload_n rfl rfl ?_
    refine r_null_f 64 rfl (by decide) h (fun h => ?_) (fun h => ?_)
    · refine r_aload_n rfl rfl ?_
      refine r_iconst (v := 5) rfl (by decide) ?_
      refine r_cv_v (vs := [.int (5 : Int32)]) rfl ml_5_56 rfl (rOk.of rfl) ⟨Nat.zero_le _, Nat.zero_le _⟩ rfl rfl rfl h s_X5_fail (fun _ M3 h => ?_)
      exact r_vret rfl rfl ⟨Nat.le_of_ble_eq_true rfl, Nat.le_of_ble_eq_true rfl⟩ h
    · refine r_aload_n rfl rfl ?_
      refine r_cv_v (vs := []) rfl ml_5_37 rfl (rOk.of rfl) ⟨Nat.zero_le _, Nat.zero_le _⟩ rfl rfl rfl h s_X5_advance (fun _ M4 h => ?_)
      refine r_iload_n rfl rfl ?_
      refine r_if_ne 80 rfl (by decide) h (fun h => ?_) (fun h => ?_)
      · refine r_aload_n rfl rfl ?_
        refine r_aload_n rfl rfl ?_
        refine r_cv_v (vs := [va_rf v4]) rfl ml_5_67 rfl (rOk.of rfl) ⟨Nat.zero_le _, Nat.zero_le _⟩ rfl rfl rfl h s_X5_act (fun _ M5 h => ?_)
        refine r_goto 96 rfl (by decide) ?_
        exact s_X5_clause_96 _ _ _ _ h
      · refine r_aload_n rfl rfl ?_
        refine r_iload_n rfl rfl ?_
        refine r_bipush (v := 16) rfl (by decide) ?_
        refine r_ic_ne 91 rfl (by decide) h (fun h => ?_) (fun h => ?_)
        · refine r_iconst (v := 0) rfl (by decide) ?_
          refine r_goto 92 rfl (by decide) ?_
          refine r_iconst (v := 0) rfl (by decide) ?_
          refine r_cv_v (vs := [.int (0 : Int32), .int (0 : Int32)]) rfl ml_5_71 rfl (rOk.of rfl) ⟨Nat.zero_le _, Nat.zero_le _⟩ rfl rfl rfl h s_X5_level (fun _ M6 h => ?_)
          exact s_X5_clause_96 _ _ _ _ h
        · refine r_iconst (v := 3) rfl (by decide) ?_
          refine r_iconst (v := 0) rfl (by decide) ?_
          refine r_cv_v (vs := [.int (3 : Int32), .int (0 : Int32)]) rfl ml_5_71 rfl (rOk.of rfl) ⟨Nat.zero_le _, Nat.zero_le _⟩ rfl rfl rfl h s_X5_level (fun _ M7 h => ?_)
          exact s_X5_clause_96 _ _ _ _ h
  · refine r_aload_n rfl rfl ?_
    refine r_iconst (v := 4) rfl (by decide) ?_
    refine r_cv_v (vs := [.int (4 : Int32)]) rfl ml_5_56 rfl (rOk.of rfl) ⟨Nat.zero_le _, Nat.zero_le _⟩ rfl rfl rfl h s_X5_fail (fun _ M8 h => ?_)
    exact r_vret rfl rfl ⟨Nat.le_of_ble_eq_true rfl, Nat.le_of_ble_eq_true rfl⟩ h
theorem s_X5_clause {d : Nat} {P : Unit → Mem → Prop} {r0 : Option Nat} {M : Mem} (h : FQ (f_X5_clause r0 M) P) : Con Y_X5_clause (d + 75) 0 0 [va_rf r0] M (QV P) := by
  refine Con.of [some (va_rf r0), none, none] (by decide +kernel) dk_X5_clause (by simp [Y_X5_clause, cat_rf, cat_i, cat_l]) (by simp [loE, Y_X5_clause, cat_rf, cat_i, cat_l, List.replicate]) ?_
  unfold f_X5_clause at h
  refine r_aload_n rfl rfl ?_
  refine r_getI rfl fl_5_40 rfl h (fun v1 h => ?_)
  refine r_istore_n (lo' := [some (va_rf r0), some (.int v1), none]) rfl rfl (by simp [stOk, cat_rf]) rfl ?_
  refine r_iload_n rfl rfl ?_
  refine r_if_eq 28 rfl (by decide) h (fun h => ?_) (fun h => ?_)
  · exact s_X5_clause_28 _ _ _ h
  · refine r_iload_n rfl rfl ?_
    refine r_bipush (v := 16) rfl (by decide) ?_
    refine r_ic_eq 28 rfl (by decide) h (fun h => ?_) (fun h => ?_)
    · exact s_X5_clause_28 _ _ _ h
    · refine r_iload_n rfl rfl ?_
      refine r_cs_i (vs := [.int v1]) rfl ml_5_52 (rOk.of rfl) ⟨Nat.zero_le _, Nat.zero_le _⟩ rfl rfl rfl h s_X6_isSingle (fun v2 M1 h => ?_)
      refine r_if_ne 28 rfl (by decide) h (fun h => ?_) (fun h => ?_)
      · refine r_aload_n rfl rfl ?_
        refine r_iconst (v := 1) rfl (by decide) ?_
        refine r_cv_v (vs := [.int (1 : Int32)]) rfl ml_5_56 rfl (rOk.of rfl) ⟨Nat.zero_le _, Nat.zero_le _⟩ rfl rfl rfl h s_X5_fail (fun _ M2 h => ?_)
        exact r_vret rfl rfl ⟨Nat.le_of_ble_eq_true rfl, Nat.le_of_ble_eq_true rfl⟩ h
      · exact s_X5_clause_28 _ _ _ h
