/-! walked by program (wip/gen): X12_clauseIsOver X12_isSign X12_top X12_waitsFor X12_asksOn X12_oneIsOver X12_begins X12_number X12_wants X12_readsMove -/
def L_X12_clauseIsOver : List (Option (Instr × Nat)) := [some (.aload_n 0, 1), some (.iconst 1, 1), some (.invokevirtual 269, 3), none, none, some (.aload_n 0, 1), some (.iconst 0, 1), some (.putfield 243, 3), none, none, some (.aload_n 0, 1), some (.sipush 408, 3), none, none, some (.iconst 0, 1), some (.invokevirtual 265, 3), none, none, some (.aload_n 0, 1), some (.dup, 1), some (.getfield 303, 3), none, none, some (.iconst 1, 1), some (.iadd, 1), some (.putfield 303, 3), none, none, some (.aload_n 0, 1), some (.invokevirtual 255, 3), none, none, some (.aload_n 0, 1), some (.iconst 4, 1), some (.putfield 278, 3), none, none, some (.return_, 1)]
def Y_X12_clauseIsOver : YM := (⟨RX12, "clauseIsOver", "()V"⟩, prog_14_method_32_code, L_X12_clauseIsOver, 1, none)
def f_X12_clauseIsOver (r0 : Option Nat) (M : Mem) : Option (Unit × Mem) :=
cR M r0 (1, 12) (cA (f_X12_works r0 (1 : Int32) M) fun _ M1 =>
pI M1 r0 12 26 (0 : Int32) fun M2 =>
cR M2 r0 (1, 12) (cA (f_X12_emits r0 (408 : Int32) (0 : Int32) M2) fun _ M3 =>
gI M3 r0 12 33 fun v1 =>
pI M3 r0 12 33 (v1 + (1 : Int32)) fun M4 =>
cR M4 r0 (1, 12) (cA (f_X12_next r0 M4) fun _ M5 =>
pI M5 r0 12 32 (4 : Int32) fun M6 =>
some ((), M6))))
def L_X12_isSign : List (Option (Instr × Nat)) := [some (.aload_n 0, 1), some (.getfield 218, 3), none, none, some (.iconst 3, 1), some (.if_icmp .ne 15, 3), none, none, some (.aload_n 0, 1), some (.getfield 230, 3), none, none, some (.iload_n 1, 1), some (.if_icmp .ne 7, 3), none, none, some (.iconst 1, 1), some (.goto 4, 3), none, none, some (.iconst 0, 1), some (.ireturn, 1)]
def Y_X12_isSign : YM := (⟨RX12, "isSign", "(I)Z"⟩, prog_14_method_15_code, L_X12_isSign, 2, some .boolean)
def f_X12_isSign (r0 : Option Nat) (i1 : Int32) (M : Mem) : Option (Int32 × Mem) :=
gI M r0 12 21 fun v1 =>
(if v1 = (3 : Int32) then
gI M r0 12 22 fun v2 =>
(if v2 = i1 then
tv (1 : Int32) (some ((1 : Int32), M))
else
tv (0 : Int32) (some ((0 : Int32), M)))
else
tv (0 : Int32) (some ((0 : Int32), M)))
def L_X12_top : List (Option (Instr × Nat)) := [some (.aload_n 0, 1), some (.getfield 54, 3), none, none, some (.aload_n 0, 1), some (.getfield 243, 3), none, none, some (.iconst 1, 1), some (.isub, 1), some (.iaload, 1), some (.ireturn, 1)]
def Y_X12_top : YM := (⟨RX12, "top", "()I"⟩, prog_14_method_20_code, L_X12_top, 1, some .int)
def f_X12_top (r0 : Option Nat) (M : Mem) : Option (Int32 × Mem) :=
gR M r0 12 27 fun v1 =>
gI M r0 12 26 fun v2 =>
aI M v1 2 (v2 - (1 : Int32)) fun v3 =>
some (v3, M)
def L_X12_waitsFor : List (Option (Instr × Nat)) := [some (.aload_n 0, 1), some (.iload_n 1, 1), some (.invokestatic 261, 3), none, none, some (.invokevirtual 269, 3), none, none, some (.aload_n 0, 1), some (.getfield 60, 3), none, none, some (.aload_n 0, 1), some (.getfield 258, 3), none, none, some (.iload_n 1, 1), some (.iastore, 1), some (.aload_n 0, 1), some (.getfield 63, 3), none, none, some (.aload_n 0, 1), some (.getfield 258, 3), none, none, some (.aload_n 0, 1), some (.getfield 243, 3), none, none, some (.iastore, 1), some (.aload_n 0, 1), some (.dup, 1), some (.getfield 258, 3), none, none, some (.iconst 1, 1), some (.iadd, 1), some (.putfield 258, 3), none, none, some (.aload_n 0, 1), some (.invokevirtual 255, 3), none, none, some (.return_, 1)]
def Y_X12_waitsFor : YM := (⟨RX12, "waitsFor", "(I)V"⟩, prog_14_method_24_code, L_X12_waitsFor, 2, none)
def f_X12_waitsFor (r0 : Option Nat) (i1 : Int32) (M : Mem) : Option (Unit × Mem) :=
cA (f_X12_rank i1 M) fun v1 M1 =>
cR M1 r0 (1, 12) (cA (f_X12_works r0 v1 M1) fun _ M2 =>
gR M2 r0 12 30 fun v2 =>
gI M2 r0 12 29 fun v3 =>
wI M2 v2 2 v3 i1 fun M3 =>
gR M3 r0 12 31 fun v4 =>
gI M3 r0 12 29 fun v5 =>
gI M3 r0 12 26 fun v6 =>
wI M3 v4 2 v5 v6 fun M4 =>
gI M4 r0 12 29 fun v7 =>
pI M4 r0 12 29 (v7 + (1 : Int32)) fun M5 =>
cR M5 r0 (1, 12) (cA (f_X12_next r0 M5) fun _ M6 =>
some ((), M6)))
def L_X12_asksOn : List (Option (Instr × Nat)) := [some (.aload_n 0, 1), some (.bipush 11, 2), none, some (.invokevirtual 272, 3), none, none, some (.ifCond .ne 12, 3), none, none, some (.aload_n 0, 1), some (.bipush 12, 2), none, some (.invokevirtual 272, 3), none, none, some (.ifCond .eq 33, 3), none, none, some (.aload_n 0, 1), some (.aload_n 0, 1), some (.bipush 11, 2), none, some (.invokevirtual 272, 3), none, none, some (.ifCond .eq 9, 3), none, none, some (.sipush 407, 3), none, none, some (.goto 6, 3), none, none, some (.sipush 406, 3), none, none, some (.invokevirtual 291, 3), none, none, some (.aload_n 0, 1), some (.iconst 0, 1), some (.putfield 278, 3), none, none, some (.goto 32, 3), none, none, some (.aload_n 0, 1), some (.invokevirtual 287, 3), none, none, some (.iconst 2, 1), some (.if_icmp .ne 19, 3), none, none, some (.aload_n 0, 1), some (.bipush 59, 2), none, some (.invokevirtual 284, 3), none, none, some (.ifCond .eq 10, 3), none, none, some (.aload_n 0, 1), some (.invokevirtual 300, 3), none, none, some (.goto 8, 3), none, none, some (.aload_n 0, 1), some (.iconst 1, 1), some (.invokevirtual 249, 3), none, none, some (.return_, 1)]
def Y_X12_asksOn : YM := (⟨RX12, "asksOn", "()V"⟩, prog_14_method_31_code, L_X12_asksOn, 1, none)
def f_X12_asksOn_18  (r0 : Option Nat) (M : Mem) : Option (Unit × Mem) :=
cR M r0 (1, 12) (cA (f_X12_isWord r0 (11 : Int32) M) fun v1 M1 =>
(if v1 = 0 then
cR M1 r0 (1, 12) (cA (f_X12_waitsFor r0 (406 : Int32) M1) fun _ M2 =>
pI M2 r0 12 32 (0 : Int32) fun M3 =>
some ((), M3))
else
cR M1 r0 (1, 12) (cA (f_X12_waitsFor r0 (407 : Int32) M1) fun _ M4 =>
pI M4 r0 12 32 (0 : Int32) fun M5 =>
some ((), M5))))
def f_X12_asksOn (r0 : Option Nat) (M : Mem) : Option (Unit × Mem) :=
cR M r0 (1, 12) (cA (f_X12_isWord r0 (11 : Int32) M) fun v1 M1 =>
(if v1 = 0 then
cR M1 r0 (1, 12) (cA (f_X12_isWord r0 (12 : Int32) M1) fun v2 M2 =>
(if v2 = 0 then
cR M2 r0 (1, 12) (cA (f_X12_top r0 M2) fun v3 M3 =>
(if v3 = (2 : Int32) then
cR M3 r0 (1, 12) (cA (f_X12_isSign r0 (59 : Int32) M3) fun v4 M4 =>
(if v4 = 0 then
cR M4 r0 (1, 12) (cA (f_X12_errs r0 (1 : Int32) M4) fun _ M5 =>
some ((), M5))
else
cR M4 r0 (1, 12) (cA (f_X12_clauseIsOver r0 M4) fun _ M6 =>
some ((), M6))))
else
cR M3 r0 (1, 12) (cA (f_X12_errs r0 (1 : Int32) M3) fun _ M7 =>
some ((), M7))))
else
f_X12_asksOn_18 r0 M2))
else
f_X12_asksOn_18 r0 M1))
def L_X12_oneIsOver : List (Option (Instr × Nat)) := [some (.aload_n 0, 1), some (.invokevirtual 287, 3), none, none, some (.bipush 7, 2), none, some (.if_icmp .ne 34, 3), none, none, some (.aload_n 0, 1), some (.dup, 1), some (.getfield 243, 3), none, none, some (.iconst 1, 1), some (.isub, 1), some (.putfield 243, 3), none, none, some (.aload_n 0, 1), some (.dup, 1), some (.getfield 246, 3), none, none, some (.iconst 1, 1), some (.isub, 1), some (.putfield 246, 3), none, none, some (.aload_n 0, 1), some (.sipush 402, 3), none, none, some (.iconst 0, 1), some (.invokevirtual 265, 3), none, none, some (.goto (-37), 3), none, none, some (.aload_n 0, 1), some (.iconst 2, 1), some (.putfield 278, 3), none, none, some (.return_, 1)]
def Y_X12_oneIsOver : YM := (⟨RX12, "oneIsOver", "()V"⟩, prog_14_method_27_code, L_X12_oneIsOver, 1, none)
def b_X12_oneIsOver_0 (q0 : Option Nat → Mem → Option (Unit × Mem)) (r0 : Option Nat) (M : Mem) : Option (Unit × Mem) :=
cR M r0 (1, 12) (cA (f_X12_top r0 M) fun v1 M1 =>
(if v1 = (7 : Int32) then
gI M1 r0 12 26 fun v2 =>
pI M1 r0 12 26 (v2 - (1 : Int32)) fun M2 =>
gI M2 r0 12 25 fun v3 =>
pI M2 r0 12 25 (v3 - (1 : Int32)) fun M3 =>
cR M3 r0 (1, 12) (cA (f_X12_emits r0 (402 : Int32) (0 : Int32) M3) fun _ M4 =>
q0 r0 M4)
else
pI M1 r0 12 32 (2 : Int32) fun M5 =>
some ((), M5)))
def f_X12_oneIsOver_0 (n : Nat) : Option Nat → Mem → Option (Unit × Mem) := lpN (fun _ _ => none) (b_X12_oneIsOver_0 ) n
def f_X12_oneIsOver (r0 : Option Nat) (M : Mem) : Option (Unit × Mem) :=
f_X12_oneIsOver_0 FU r0 M
def L_X12_begins : List (Option (Instr × Nat)) := [some (.aload_n 0, 1), some (.getfield 218, 3), none, none, some (.iconst 2, 1), some (.if_icmp .ne 41, 3), none, none, some (.aload_n 0, 1), some (.getfield 230, 3), none, none, some (.sipush 9999, 3), none, none, some (.if_icmp .le 9, 3), none, none, some (.aload_n 0, 1), some (.iconst 2, 1), some (.invokevirtual 249, 3), none, none, some (.return_, 1), some (.aload_n 0, 1), some (.sipush 400, 3), none, none, some (.aload_n 0, 1), some (.getfield 230, 3), none, none, some (.invokevirtual 265, 3), none, none, some (.aload_n 0, 1), some (.invokevirtual 255, 3), none, none, some (.aload_n 0, 1), some (.invokevirtual 281, 3), none, none, some (.goto 106, 3), none, none, some (.aload_n 0, 1), some (.getfield 218, 3), none, none, some (.iconst 1, 1), some (.if_icmp .ne 55, 3), none, none, some (.aload_n 0, 1), some (.getfield 230, 3), none, none, some (.bipush 13, 2), none, some (.if_icmp .gt 10, 3), none, none, some (.aload_n 0, 1), some (.getfield 230, 3), none, none, some (.ifCond .ne 39, 3), none, none, some (.aload_n 0, 1), some (.sipush 401, 3), none, none, some (.aload_n 0, 1), some (.getfield 230, 3), none, none, some (.ifCond .ne 7, 3), none, none, some (.iconst 0, 1), some (.goto 10, 3), none, none, some (.aload_n 0, 1), some (.getfield 230, 3), none, none, some (.bipush 13, 2), none, some (.isub, 1), some (.invokevirtual 265, 3), none, none, some (.aload_n 0, 1), some (.invokevirtual 255, 3), none, none, some (.aload_n 0, 1), some (.invokevirtual 281, 3), none, none, some (.goto 46, 3), none, none, some (.aload_n 0, 1), some (.bipush 40, 2), none, some (.invokevirtual 284, 3), none, none, some (.ifCond .eq 13, 3), none, none, some (.aload_n 0, 1), some (.bipush 6, 2), none, some (.invokevirtual 275, 3), none, none, some (.istore_n 1, 1), some (.goto 27, 3), none, none, some (.aload_n 0, 1), some (.bipush 45, 2), none, some (.invokevirtual 284, 3), none, none, some (.ifCond .eq 13, 3), none, none, some (.aload_n 0, 1), some (.bipush 7, 2), none, some (.invokevirtual 275, 3), none, none, some (.istore_n 1, 1), some (.goto 8, 3), none, none, some (.aload_n 0, 1), some (.iconst 1, 1), some (.invokevirtual 249, 3), none, none, some (.return_, 1)]
def Y_X12_begins : YM := (⟨RX12, "begins", "()V"⟩, prog_14_method_26_code, L_X12_begins, 2, none)
def f_X12_begins_106  (r0 : Option Nat) (M : Mem) : Option (Unit × Mem) :=
cR M r0 (1, 12) (cA (f_X12_isSign r0 (40 : Int32) M) fun v1 M1 =>
(if v1 = 0 then
cR M1 r0 (1, 12) (cA (f_X12_isSign r0 (45 : Int32) M1) fun v2 M2 =>
(if v2 = 0 then
cR M2 r0 (1, 12) (cA (f_X12_errs r0 (1 : Int32) M2) fun _ M3 =>
some ((), M3))
else
cR M2 r0 (1, 12) (cA (f_X12_opensSign r0 (7 : Int32) M2) fun v3 M4 =>
some ((), M4))))
else
cR M1 r0 (1, 12) (cA (f_X12_opensSign r0 (6 : Int32) M1) fun v4 M5 =>
some ((), M5))))
def f_X12_begins_70  (r0 : Option Nat) (M : Mem) : Option (Unit × Mem) :=
gI M r0 12 22 fun v1 =>
(if v1 = 0 then
cR M r0 (1, 12) (cA (f_X12_emits r0 (401 : Int32) (0 : Int32) M) fun _ M1 =>
cR M1 r0 (1, 12) (cA (f_X12_next r0 M1) fun _ M2 =>
cR M2 r0 (1, 12) (cA (f_X12_oneIsOver r0 M2) fun _ M3 =>
some ((), M3))))
else
gI M r0 12 22 fun v2 =>
cR M r0 (1, 12) (cA (f_X12_emits r0 (401 : Int32) (v2 - (13 : Int32)) M) fun _ M4 =>
cR M4 r0 (1, 12) (cA (f_X12_next r0 M4) fun _ M5 =>
cR M5 r0 (1, 12) (cA (f_X12_oneIsOver r0 M5) fun _ M6 =>
some ((), M6)))))
def f_X12_begins (r0 : Option Nat) (M : Mem) : Option (Unit × Mem) :=
gI M r0 12 21 fun v1 =>
(if v1 = (2 : Int32) then
gI M r0 12 22 fun v2 =>
(if v2 ≤ (9999 : Int32) then
gI M r0 12 22 fun v3 =>
cR M r0 (1, 12) (cA (f_X12_emits r0 (400 : Int32) v3 M) fun _ M1 =>
cR M1 r0 (1, 12) (cA (f_X12_next r0 M1) fun _ M2 =>
cR M2 r0 (1, 12) (cA (f_X12_oneIsOver r0 M2) fun _ M3 =>
some ((), M3))))
else
cR M r0 (1, 12) (cA (f_X12_errs r0 (2 : Int32) M) fun _ M4 =>
some ((), M4)))
else
gI M r0 12 21 fun v4 =>
(if v4 = (1 : Int32) then
gI M r0 12 22 fun v5 =>
(if (13 : Int32) < v5 then
f_X12_begins_70 r0 M
else
gI M r0 12 22 fun v6 =>
(if v6 = 0 then
f_X12_begins_70 r0 M
else
f_X12_begins_106 r0 M))
else
f_X12_begins_106 r0 M))
def L_X12_number : List (Option (Instr × Nat)) := [some (.aload_n 0, 1), some (.getfield 234, 3), none, none, some (.ifCond .gt 11, 3), none, none, some (.aload_n 0, 1), some (.getfield 218, 3), none, none, some (.iconst 2, 1), some (.if_icmp .eq 10, 3), none, none, some (.aload_n 0, 1), some (.iconst 1, 1), some (.invokevirtual 249, 3), none, none, some (.iload_n 1, 1), some (.ireturn, 1), some (.aload_n 0, 1), some (.getfield 230, 3), none, none, some (.iload_n 1, 1), some (.iload_n 2, 1), some (.invokestatic 151, 3), none, none, some (.ifCond .ne 10, 3), none, none, some (.aload_n 0, 1), some (.iconst 2, 1), some (.invokevirtual 249, 3), none, none, some (.iload_n 1, 1), some (.ireturn, 1), some (.aload_n 0, 1), some (.getfield 230, 3), none, none, some (.istore_n 3, 1), some (.aload_n 0, 1), some (.invokevirtual 255, 3), none, none, some (.iload_n 3, 1), some (.ireturn, 1)]
def Y_X12_number : YM := (⟨RX12, "number", "(II)I"⟩, prog_14_method_33_code, L_X12_number, 4, some .int)
def f_X12_number (r0 : Option Nat) (i1 : Int32) (i2 : Int32) (M : Mem) : Option (Int32 × Mem) :=
gI M r0 12 23 fun v1 =>
(if 0 < v1 then
cR M r0 (1, 12) (cA (f_X12_errs r0 (1 : Int32) M) fun _ M1 =>
some (i1, M1))
else
gI M r0 12 21 fun v2 =>
(if v2 = (2 : Int32) then
gI M r0 12 22 fun v3 =>
cA (f_X12_in v3 i1 i2 M) fun v4 M2 =>
(if v4 = 0 then
cR M2 r0 (1, 12) (cA (f_X12_errs r0 (2 : Int32) M2) fun _ M3 =>
some (i1, M3))
else
gI M2 r0 12 22 fun v5 =>
cR M2 r0 (1, 12) (cA (f_X12_next r0 M2) fun _ M4 =>
some (v5, M4)))
else
cR M r0 (1, 12) (cA (f_X12_errs r0 (1 : Int32) M) fun _ M5 =>
some (i1, M5))))
def L_X12_wants : List (Option (Instr × Nat)) := [some (.aload_n 0, 1), some (.getfield 234, 3), none, none, some (.ifCond .ne 12, 3), none, none, some (.iload_n 1, 1), some (.ifCond .ne 8, 3), none, none, some (.aload_n 0, 1), some (.iconst 1, 1), some (.invokevirtual 249, 3), none, none, some (.aload_n 0, 1), some (.getfield 234, 3), none, none, some (.ifCond .ne 7, 3), none, none, some (.aload_n 0, 1), some (.invokevirtual 255, 3), none, none, some (.return_, 1)]
def Y_X12_wants : YM := (⟨RX12, "wants", "(Z)V"⟩, prog_14_method_34_code, L_X12_wants, 2, none)
def f_X12_wants (r0 : Option Nat) (i1 : Int32) (M : Mem) : Option (Unit × Mem) :=
gI M r0 12 23 fun v1 =>
(if v1 = 0 then
(if i1 = 0 then
cR M r0 (1, 12) (cA (f_X12_errs r0 (1 : Int32) M) fun _ M1 =>
gI M1 r0 12 23 fun v2 =>
(if v2 = 0 then
cR M1 r0 (1, 12) (cA (f_X12_next r0 M1) fun _ M2 =>
some ((), M2))
else
some ((), M1)))
else
gI M r0 12 23 fun v3 =>
(if v3 = 0 then
cR M r0 (1, 12) (cA (f_X12_next r0 M) fun _ M3 =>
some ((), M3))
else
some ((), M)))
else
gI M r0 12 23 fun v4 =>
(if v4 = 0 then
cR M r0 (1, 12) (cA (f_X12_next r0 M) fun _ M4 =>
some ((), M4))
else
some ((), M)))
def L_X12_readsMove : List (Option (Instr × Nat)) := [some (.iconst 4, 1), some (.aload_n 0, 1), some (.getfield 303, 3), none, none, some (.imul, 1), some (.istore_n 1, 1), some (.aload_n 0, 1), some (.getfield 72, 3), none, none, some (.iload_n 1, 1), some (.aload_n 0, 1), some (.iconst 0, 1), some (.bipush 7, 2), none, some (.invokevirtual 306, 3), none, none, some (.iastore, 1), some (.aload_n 0, 1), some (.getfield 230, 3), none, none, some (.bipush 6, 2), none, some (.isub, 1), some (.istore_n 2, 1), some (.aload_n 0, 1), some (.aload_n 0, 1), some (.getfield 218, 3), none, none, some (.iconst 1, 1), some (.if_icmp .ne 21, 3), none, none, some (.aload_n 0, 1), some (.getfield 230, 3), none, none, some (.bipush 6, 2), none, some (.bipush 9, 2), none, some (.invokestatic 151, 3), none, none, some (.ifCond .eq 7, 3), none, none, some (.iconst 1, 1), some (.goto 4, 3), none, none, some (.iconst 0, 1), some (.invokevirtual 310, 3), none, none, some (.aload_n 0, 1), some (.getfield 72, 3), none, none, some (.iload_n 1, 1), some (.iconst 1, 1), some (.iadd, 1), some (.iload_n 2, 1), some (.iastore, 1), some (.aload_n 0, 1), some (.getfield 72, 3), none, none, some (.iload_n 1, 1), some (.iconst 2, 1), some (.iadd, 1), some (.aload_n 0, 1), some (.iconst 0, 1), some (.iconst 3, 1), some (.invokevirtual 306, 3), none, none, some (.iastore, 1), some (.aload_n 0, 1), some (.aload_n 0, 1), some (.bipush 44, 2), none, some (.invokevirtual 284, 3), none, none, some (.invokevirtual 310, 3), none, none, some (.aload_n 0, 1), some (.getfield 72, 3), none, none, some (.iload_n 1, 1), some (.iconst 3, 1), some (.iadd, 1), some (.aload_n 0, 1), some (.iconst 0, 1), some (.iconst 3, 1), some (.invokevirtual 306, 3), none, none, some (.iastore, 1), some (.aload_n 0, 1), some (.getfield 234, 3), none, none, some (.ifCond .le 4, 3), none, none, some (.return_, 1), some (.aload_n 0, 1), some (.bipush 59, 2), none, some (.invokevirtual 284, 3), none, none, some (.ifCond .eq 20, 3), none, none, some (.aload_n 0, 1), some (.getfield 69, 3), none, none, some (.aload_n 0, 1), some (.getfield 303, 3), none, none, some (.iconst (-1), 1), some (.iastore, 1), some (.aload_n 0, 1), some (.invokevirtual 300, 3), none, none, some (.goto 23, 3), none, none, some (.aload_n 0, 1), some (.aload_n 0, 1), some (.bipush 10, 2), none, some (.invokevirtual 272, 3), none, none, some (.invokevirtual 310, 3), none, none, some (.aload_n 0, 1), some (.iconst 2, 1), some (.invokevirtual 252, 3), none, none, some (.aload_n 0, 1), some (.iconst 0, 1), some (.putfield 278, 3), none, none, some (.return_, 1)]
def Y_X12_readsMove : YM := (⟨RX12, "readsMove", "()V"⟩, prog_14_method_35_code, L_X12_readsMove, 3, none)
def f_X12_readsMove_56  (r0 : Option Nat) (i1 : Int32) (i2 : Int32) (sr0 : Option Nat) (si1 : Int32) (M : Mem) : Option (Unit × Mem) :=
cR M sr0 (1, 12) (cA (f_X12_wants sr0 si1 M) fun _ M1 =>
gR M1 r0 12 37 fun v1 =>
wI M1 v1 2 (i1 + (1 : Int32)) i2 fun M2 =>
gR M2 r0 12 37 fun v2 =>
cR M2 r0 (1, 12) (cA (f_X12_number r0 (0 : Int32) (3 : Int32) M2) fun v3 M3 =>
wI M3 v2 2 (i1 + (2 : Int32)) v3 fun M4 =>
cR M4 r0 (1, 12) (cA (f_X12_isSign r0 (44 : Int32) M4) fun v4 M5 =>
cR M5 r0 (1, 12) (cA (f_X12_wants r0 v4 M5) fun _ M6 =>
gR M6 r0 12 37 fun v5 =>
cR M6 r0 (1, 12) (cA (f_X12_number r0 (0 : Int32) (3 : Int32) M6) fun v6 M7 =>
wI M7 v5 2 (i1 + (3 : Int32)) v6 fun M8 =>
gI M8 r0 12 23 fun v7 =>
(if v7 ≤ 0 then
cR M8 r0 (1, 12) (cA (f_X12_isSign r0 (59 : Int32) M8) fun v8 M9 =>
(if v8 = 0 then
cR M9 r0 (1, 12) (cA (f_X12_isWord r0 (10 : Int32) M9) fun v9 M10 =>
cR M10 r0 (1, 12) (cA (f_X12_wants r0 v9 M10) fun _ M11 =>
cR M11 r0 (1, 12) (cA (f_X12_opensFrame r0 (2 : Int32) M11) fun _ M12 =>
pI M12 r0 12 32 (0 : Int32) fun M13 =>
some ((), M13))))
else
gR M9 r0 12 36 fun v10 =>
gI M9 r0 12 33 fun v11 =>
wI M9 v10 2 v11 (-1 : Int32) fun M14 =>
cR M14 r0 (1, 12) (cA (f_X12_clauseIsOver r0 M14) fun _ M15 =>
some ((), M15))))
else
some ((), M8)))))))
def f_X12_readsMove (r0 : Option Nat) (M : Mem) : Option (Unit × Mem) :=
gI M r0 12 33 fun v1 =>
gR M r0 12 37 fun v2 =>
cR M r0 (1, 12) (cA (f_X12_number r0 (0 : Int32) (7 : Int32) M) fun v3 M1 =>
wI M1 v2 2 ((4 : Int32) * v1) v3 fun M2 =>
gI M2 r0 12 22 fun v4 =>
gI M2 r0 12 21 fun v5 =>
(if v5 = (1 : Int32) then
gI M2 r0 12 22 fun v6 =>
cA (f_X12_in v6 (6 : Int32) (9 : Int32) M2) fun v7 M3 =>
(if v7 = 0 then
f_X12_readsMove_56 r0 ((4 : Int32) * v1) (v4 - (6 : Int32)) r0 (0 : Int32) M3
else
f_X12_readsMove_56 r0 ((4 : Int32) * v1) (v4 - (6 : Int32)) r0 (1 : Int32) M3)
else
f_X12_readsMove_56 r0 ((4 : Int32) * v1) (v4 - (6 : Int32)) r0 (0 : Int32) M2))
set_option maxRecDepth 30000 in
theorem ok_X12_works : okY Y_X12_works := ⟨(gw_in 1452 rfl rfl), (gw_in 14 (by decide +kernel) (by decide +kernel)), by decide +kernel, by decide +kernel⟩
theorem ml_12_269 : MLv RX12 269 Y_X12_works 1 := ⟨(gw_in 1449 (by decide +kernel) (by decide +kernel)), (gw_in 1451 (by decide +kernel) (by decide +kernel)), (gw_sel (n := 70) 62 (by decide +kernel) (by decide +kernel)), ok_X12_works, by decide +kernel⟩
theorem fl_12_303 : FLk RX12 303 12 33 false := ⟨_, rfl, by decide, (gw_in 1149 (by decide +kernel) (by decide +kernel)), rfl⟩
set_option maxRecDepth 30000 in
theorem ok_X12_waitsFor : okY Y_X12_waitsFor := ⟨(gw_in 1445 rfl rfl), (gw_in 14 (by decide +kernel) (by decide +kernel)), by decide +kernel, by decide +kernel⟩
theorem ml_12_291 : MLv RX12 291 Y_X12_waitsFor 1 := ⟨(gw_in 1442 (by decide +kernel) (by decide +kernel)), (gw_in 1444 (by decide +kernel) (by decide +kernel)), (gw_sel (n := 70) 61 (by decide +kernel) (by decide +kernel)), ok_X12_waitsFor, by decide +kernel⟩
set_option maxRecDepth 30000 in
theorem ok_X12_top : okY Y_X12_top := ⟨(gw_in 1433 rfl rfl), (gw_in 14 (by decide +kernel) (by decide +kernel)), by decide +kernel, by decide +kernel⟩
theorem ml_12_287 : MLv RX12 287 Y_X12_top 0 := ⟨(gw_in 1430 (by decide +kernel) (by decide +kernel)), (gw_in 1432 (by decide +kernel) (by decide +kernel)), (gw_sel (n := 70) 58 (by decide +kernel) (by decide +kernel)), ok_X12_top, by decide +kernel⟩
set_option maxRecDepth 30000 in
theorem ok_X12_isSign : okY Y_X12_isSign := ⟨(gw_in 1437 rfl rfl), (gw_in 14 (by decide +kernel) (by decide +kernel)), by decide +kernel, by decide +kernel⟩
theorem ml_12_284 : MLv RX12 284 Y_X12_isSign 1 := ⟨(gw_in 1434 (by decide +kernel) (by decide +kernel)), (gw_in 1436 (by decide +kernel) (by decide +kernel)), (gw_sel (n := 70) 59 (by decide +kernel) (by decide +kernel)), ok_X12_isSign, by decide +kernel⟩
set_option maxRecDepth 30000 in
theorem ok_X12_clauseIsOver : okY Y_X12_clauseIsOver := ⟨(gw_in 1463 rfl rfl), (gw_in 14 (by decide +kernel) (by decide +kernel)), by decide +kernel, by decide +kernel⟩
theorem ml_12_300 : MLv RX12 300 Y_X12_clauseIsOver 0 := ⟨(gw_in 1460 (by decide +kernel) (by decide +kernel)), (gw_in 1462 (by decide +kernel) (by decide +kernel)), (gw_sel (n := 70) 64 (by decide +kernel) (by decide +kernel)), ok_X12_clauseIsOver, by decide +kernel⟩
set_option maxRecDepth 30000 in
theorem ok_X12_oneIsOver : okY Y_X12_oneIsOver := ⟨(gw_in 1429 rfl rfl), (gw_in 14 (by decide +kernel) (by decide +kernel)), by decide +kernel, by decide +kernel⟩
theorem ml_12_281 : MLv RX12 281 Y_X12_oneIsOver 0 := ⟨(gw_in 1426 (by decide +kernel) (by decide +kernel)), (gw_in 1428 (by decide +kernel) (by decide +kernel)), (gw_sel (n := 70) 57 (by decide +kernel) (by decide +kernel)), ok_X12_oneIsOver, by decide +kernel⟩
set_option maxRecDepth 30000 in
theorem ok_X12_wants : okY Y_X12_wants := ⟨(gw_in 1487 rfl rfl), (gw_in 14 (by decide +kernel) (by decide +kernel)), by decide +kernel, by decide +kernel⟩
theorem ml_12_310 : MLv RX12 310 Y_X12_wants 1 := ⟨(gw_in 1484 (by decide +kernel) (by decide +kernel)), (gw_in 1486 (by decide +kernel) (by decide +kernel)), (gw_sel (n := 70) 70 (by decide +kernel) (by decide +kernel)), ok_X12_wants, by decide +kernel⟩
set_option maxRecDepth 30000 in
theorem ok_X12_number : okY Y_X12_number := ⟨(gw_in 1483 rfl rfl), (gw_in 14 (by decide +kernel) (by decide +kernel)), by decide +kernel, by decide +kernel⟩
theorem ml_12_306 : MLv RX12 306 Y_X12_number 2 := ⟨(gw_in 1480 (by decide +kernel) (by decide +kernel)), (gw_in 1482 (by decide +kernel) (by decide +kernel)), (gw_sel (n := 70) 69 (by decide +kernel) (by decide +kernel)), ok_X12_number, by decide +kernel⟩
set_option maxRecDepth 20000 in
theorem dk_X12_clauseIsOver : ∀ pc i, L_X12_clauseIsOver[pc]? = some (some i) → decode prog_14_method_32_code pc = .ok i := dk_of (by decide +kernel)
theorem s_X12_clauseIsOver {d : Nat} {P : Unit → Mem → Prop} {r0 : Option Nat} {M : Mem} (h : FQ (f_X12_clauseIsOver r0 M) P) : Con Y_X12_clauseIsOver (d + 3) 0 0 [va_rf r0] M (QV P) := by
  refine Con.of [some (va_rf r0)] (by decide +kernel) dk_X12_clauseIsOver (by simp [Y_X12_clauseIsOver, cat_rf, cat_i, cat_l]) (by simp [loE, Y_X12_clauseIsOver, cat_rf, cat_i, cat_l, List.replicate]) ?_
  unfold f_X12_clauseIsOver at h
  refine r_aload_n rfl rfl ?_
  refine r_iconst (v := 1) rfl (by decide) ?_
  refine r_cv_v (vs := [.int (1 : Int32)]) rfl ml_12_269 rfl (rOk.of rfl) ⟨Nat.zero_le _, Nat.zero_le _⟩ rfl rfl rfl h s_X12_works (fun _ M1 h => ?_)
  refine r_aload_n rfl rfl ?_
  refine r_iconst (v := 0) rfl (by decide) ?_
  refine r_putI rfl fl_12_243 (fun z => by cases z) rfl h (fun M2 h => ?_)
  refine r_aload_n rfl rfl ?_
  refine r_sipush (v := 408) rfl (by decide) ?_
  refine r_iconst (v := 0) rfl (by decide) ?_
  refine r_cv_v (vs := [.int (408 : Int32), .int (0 : Int32)]) rfl ml_12_265 rfl (rOk.of rfl) ⟨Nat.zero_le _, Nat.zero_le _⟩ rfl rfl rfl h s_X12_emits (fun _ M3 h => ?_)
  refine r_aload_n rfl rfl ?_
  refine r_dup rfl (cat_rf _) ?_
  refine r_getI rfl fl_12_303 rfl h (fun v1 h => ?_)
  refine r_iconst (v := 1) rfl (by decide) ?_
  refine r_iadd rfl ?_
  refine r_putI rfl fl_12_303 (fun z => by cases z) rfl h (fun M4 h => ?_)
  refine r_aload_n rfl rfl ?_
  refine r_cv_v (vs := []) rfl ml_12_255 rfl (rOk.of rfl) ⟨Nat.zero_le _, Nat.zero_le _⟩ rfl rfl rfl h s_X12_next (fun _ M5 h => ?_)
  refine r_aload_n rfl rfl ?_
  refine r_iconst (v := 4) rfl (by decide) ?_
  refine r_putI rfl fl_12_278 (fun z => by cases z) rfl h (fun M6 h => ?_)
  exact r_vret rfl rfl ⟨Nat.le_of_ble_eq_true rfl, Nat.le_of_ble_eq_true rfl⟩ h
set_option maxRecDepth 20000 in
theorem dk_X12_isSign : ∀ pc i, L_X12_isSign[pc]? = some (some i) → decode prog_14_method_15_code pc = .ok i := dk_of (by decide +kernel)
theorem s_X12_isSign {d : Nat} {P : Int32 → Mem → Prop} {r0 : Option Nat} {i1 : Int32} {M : Mem} (h : FQ (f_X12_isSign r0 i1 M) P) : Con Y_X12_isSign d 0 0 [va_rf r0, .int i1] M (QI P) := by
  refine Con.of [some (va_rf r0), some (.int i1)] (by decide +kernel) dk_X12_isSign (by simp [Y_X12_isSign, cat_rf, cat_i, cat_l]) (by simp [loE, Y_X12_isSign, cat_rf, cat_i, cat_l, List.replicate]) ?_
  unfold f_X12_isSign at h
  refine r_aload_n rfl rfl ?_
  refine r_getI rfl fl_12_218 rfl h (fun v1 h => ?_)
  refine r_iconst (v := 3) rfl (by decide) ?_
  refine r_ic_ne 20 rfl (by decide) h (fun h => ?_) (fun h => ?_)
  · refine r_aload_n rfl rfl ?_
    refine r_getI rfl fl_12_230 rfl h (fun v2 h => ?_)
    refine r_iload_n rfl rfl ?_
    refine r_ic_ne 20 rfl (by decide) h (fun h => ?_) (fun h => ?_)
    · refine r_iconst (v := 1) rfl (by decide) ?_
      refine r_goto 21 rfl (by decide) ?_
      exact r_zret rfl rfl ⟨Nat.le_of_ble_eq_true rfl, Nat.le_of_ble_eq_true rfl⟩ h
    · refine r_iconst (v := 0) rfl (by decide) ?_
      exact r_zret rfl rfl ⟨Nat.le_of_ble_eq_true rfl, Nat.le_of_ble_eq_true rfl⟩ h
  · refine r_iconst (v := 0) rfl (by decide) ?_
    exact r_zret rfl rfl ⟨Nat.le_of_ble_eq_true rfl, Nat.le_of_ble_eq_true rfl⟩ h
set_option maxRecDepth 20000 in
theorem dk_X12_top : ∀ pc i, L_X12_top[pc]? = some (some i) → decode prog_14_method_20_code pc = .ok i := dk_of (by decide +kernel)
theorem s_X12_top {d : Nat} {P : Int32 → Mem → Prop} {r0 : Option Nat} {M : Mem} (h : FQ (f_X12_top r0 M) P) : Con Y_X12_top d 0 0 [va_rf r0] M (QI P) := by
  refine Con.of [some (va_rf r0)] (by decide +kernel) dk_X12_top (by simp [Y_X12_top, cat_rf, cat_i, cat_l]) (by simp [loE, Y_X12_top, cat_rf, cat_i, cat_l, List.replicate]) ?_
  unfold f_X12_top at h
  refine r_aload_n rfl rfl ?_
  refine r_getR rfl fl_12_54 rfl h (fun v1 h => ?_)
  refine r_aload_n rfl rfl ?_
  refine r_getI rfl fl_12_243 rfl h (fun v2 h => ?_)
  refine r_iconst (v := 1) rfl (by decide) ?_
  refine r_isub rfl ?_
  refine r_iald rfl h (fun v3 h => ?_)
  exact r_iret rfl rfl ⟨Nat.le_of_ble_eq_true rfl, Nat.le_of_ble_eq_true rfl⟩ h
set_option maxRecDepth 20000 in
theorem dk_X12_waitsFor : ∀ pc i, L_X12_waitsFor[pc]? = some (some i) → decode prog_14_method_24_code pc = .ok i := dk_of (by decide +kernel)
theorem s_X12_waitsFor {d : Nat} {P : Unit → Mem → Prop} {r0 : Option Nat} {i1 : Int32} {M : Mem} (h : FQ (f_X12_waitsFor r0 i1 M) P) : Con Y_X12_waitsFor (d + 3) 0 0 [va_rf r0, .int i1] M (QV P) := by
  refine Con.of [some (va_rf r0), some (.int i1)] (by decide +kernel) dk_X12_waitsFor (by simp [Y_X12_waitsFor, cat_rf, cat_i, cat_l]) (by simp [loE, Y_X12_waitsFor, cat_rf, cat_i, cat_l, List.replicate]) ?_
  unfold f_X12_waitsFor at h
  refine r_aload_n rfl rfl ?_
  refine r_iload_n rfl rfl ?_
  refine r_cs_i (vs := [.int i1]) rfl ml_12_261 (rOk.of rfl) ⟨Nat.zero_le _, Nat.zero_le _⟩ rfl rfl rfl h s_X12_rank (fun v1 M1 h => ?_)
  refine r_cv_v (vs := [.int v1]) rfl ml_12_269 rfl (rOk.of rfl) ⟨Nat.zero_le _, Nat.zero_le _⟩ rfl rfl rfl h s_X12_works (fun _ M2 h => ?_)
  refine r_aload_n rfl rfl ?_
  refine r_getR rfl fl_12_60 rfl h (fun v2 h => ?_)
  refine r_aload_n rfl rfl ?_
  refine r_getI rfl fl_12_258 rfl h (fun v3 h => ?_)
  refine r_iload_n rfl rfl ?_
  refine r_iast rfl h (fun M3 h => ?_)
  refine r_aload_n rfl rfl ?_
  refine r_getR rfl fl_12_63 rfl h (fun v4 h => ?_)
  refine r_aload_n rfl rfl ?_
  refine r_getI rfl fl_12_258 rfl h (fun v5 h => ?_)
  refine r_aload_n rfl rfl ?_
  refine r_getI rfl fl_12_243 rfl h (fun v6 h => ?_)
  refine r_iast rfl h (fun M4 h => ?_)
  refine r_aload_n rfl rfl ?_
  refine r_dup rfl (cat_rf _) ?_
  refine r_getI rfl fl_12_258 rfl h (fun v7 h => ?_)
  refine r_iconst (v := 1) rfl (by decide) ?_
  refine r_iadd rfl ?_
  refine r_putI rfl fl_12_258 (fun z => by cases z) rfl h (fun M5 h => ?_)
  refine r_aload_n rfl rfl ?_
  refine r_cv_v (vs := []) rfl ml_12_255 rfl (rOk.of rfl) ⟨Nat.zero_le _, Nat.zero_le _⟩ rfl rfl rfl h s_X12_next (fun _ M6 h => ?_)
  exact r_vret rfl rfl ⟨Nat.le_of_ble_eq_true rfl, Nat.le_of_ble_eq_true rfl⟩ h
set_option maxRecDepth 20000 in
theorem dk_X12_asksOn : ∀ pc i, L_X12_asksOn[pc]? = some (some i) → decode prog_14_method_31_code pc = .ok i := dk_of (by decide +kernel)
theorem s_X12_asksOn_18 {d : Nat} {P : Unit → Mem → Prop}   (r0 : Option Nat) (M : Mem) (h : FQ (f_X12_asksOn_18  r0 M) P) : wp Y_X12_asksOn (rmD (d + 4) 0 0) (FM (QV P) 0 0) 0 0 18 [some (va_rf r0)] [] M := by
  unfold f_X12_asksOn_18 at h
  refine r_aload_n rfl rfl ?_
  refine r_aload_n rfl rfl ?_
  refine r_bipush (v := 11) rfl (by decide) ?_
  refine r_cv_i (vs := [.int (11 : Int32)]) rfl ml_12_272 rfl (rOk.of rfl) ⟨Nat.zero_le _, Nat.zero_le _⟩ rfl rfl rfl h s_X12_isWord (fun v1 M1 h => ?_)
  refine r_if_eq 34 rfl (by decide) h (fun h => ?_) (fun h => ?_)
  · refine r_sipush (v := 406) rfl (by decide) ?_
    refine r_cv_v (vs := [.int (406 : Int32)]) rfl ml_12_291 rfl (rOk.of rfl) ⟨Nat.zero_le _, Nat.zero_le _⟩ rfl rfl rfl h s_X12_waitsFor (fun _ M2 h => ?_)
    refine r_aload_n rfl rfl ?_
    refine r_iconst (v := 0) rfl (by decide) ?_
    refine r_putI rfl fl_12_278 (fun z => by cases z) rfl h (fun M3 h => ?_)
    refine r_goto 77 rfl (by decide) ?_
    exact r_vret rfl rfl ⟨Nat.le_of_ble_eq_true rfl, Nat.le_of_ble_eq_true rfl⟩ h
  · refine r_sipush (v := 407) rfl (by decide) ?_
    refine r_goto 37 rfl (by decide) ?_
    refine r_cv_v (vs := [.int (407 : Int32)]) rfl ml_12_291 rfl (rOk.of rfl) ⟨Nat.zero_le _, Nat.zero_le _⟩ rfl rfl rfl h s_X12_waitsFor (fun _ M4 h => ?_)
    refine r_aload_n rfl rfl ?_
    refine r_iconst (v := 0) rfl (by decide) ?_
    refine r_putI rfl fl_12_278 (fun z => by cases z) rfl h (fun M5 h => ?_)
    refine r_goto 77 rfl (by decide) ?_
    exact r_vret rfl rfl ⟨Nat.le_of_ble_eq_true rfl, Nat.le_of_ble_eq_true rfl⟩ h
theorem s_X12_asksOn {d : Nat} {P : Unit → Mem → Prop} {r0 : Option Nat} {M : Mem} (h : FQ (f_X12_asksOn r0 M) P) : Con Y_X12_asksOn (d + 4) 0 0 [va_rf r0] M (QV P) := by
  refine Con.of [some (va_rf r0)] (by decide +kernel) dk_X12_asksOn (by simp [Y_X12_asksOn, cat_rf, cat_i, cat_l]) (by simp [loE, Y_X12_asksOn, cat_rf, cat_i, cat_l, List.replicate]) ?_
  unfold f_X12_asksOn at h
  refine r_aload_n rfl rfl ?_
  refine r_bipush (v := 11) rfl (by decide) ?_
  refine r_cv_i (vs := [.int (11 : Int32)]) rfl ml_12_272 rfl (rOk.of rfl) ⟨Nat.zero_le _, Nat.zero_le _⟩ rfl rfl rfl h s_X12_isWord (fun v1 M1 h => ?_)
  refine r_if_ne 18 rfl (by decide) h (fun h => ?_) (fun h => ?_)
  · refine r_aload_n rfl rfl ?_
    refine r_bipush (v := 12) rfl (by decide) ?_
    refine r_cv_i (vs := [.int (12 : Int32)]) rfl ml_12_272 rfl (rOk.of rfl) ⟨Nat.zero_le _, Nat.zero_le _⟩ rfl rfl rfl h s_X12_isWord (fun v2 M2 h => ?_)
    refine r_if_eq 48 rfl (by decide) h (fun h => ?_) (fun h => ?_)
    · refine r_aload_n rfl rfl ?_
      refine r_cv_i (vs := []) rfl ml_12_287 rfl (rOk.of rfl) ⟨Nat.zero_le _, Nat.zero_le _⟩ rfl rfl rfl h s_X12_top (fun v3 M3 h => ?_)
      refine r_iconst (v := 2) rfl (by decide) ?_
      refine r_ic_ne 72 rfl (by decide) h (fun h => ?_) (fun h => ?_)
      · refine r_aload_n rfl rfl ?_
        refine r_bipush (v := 59) rfl (by decide) ?_
        refine r_cv_i (vs := [.int (59 : Int32)]) rfl ml_12_284 rfl (rOk.of rfl) ⟨Nat.zero_le _, Nat.zero_le _⟩ rfl rfl rfl h s_X12_isSign (fun v4 M4 h => ?_)
        refine r_if_eq 72 rfl (by decide) h (fun h => ?_) (fun h => ?_)
        · refine r_aload_n rfl rfl ?_
          refine r_iconst (v := 1) rfl (by decide) ?_
          refine r_cv_v (vs := [.int (1 : Int32)]) rfl ml_12_249 rfl (rOk.of rfl) ⟨Nat.zero_le _, Nat.zero_le _⟩ rfl rfl rfl h s_X12_errs (fun _ M5 h => ?_)
          exact r_vret rfl rfl ⟨Nat.le_of_ble_eq_true rfl, Nat.le_of_ble_eq_true rfl⟩ h
        · refine r_aload_n rfl rfl ?_
          refine r_cv_v (vs := []) rfl ml_12_300 rfl (rOk.of rfl) ⟨Nat.zero_le _, Nat.zero_le _⟩ rfl rfl rfl h s_X12_clauseIsOver (fun _ M6 h => ?_)
          refine r_goto 77 rfl (by decide) ?_
          exact r_vret rfl rfl ⟨Nat.le_of_ble_eq_true rfl, Nat.le_of_ble_eq_true rfl⟩ h
      · refine r_aload_n rfl rfl ?_
        refine r_iconst (v := 1) rfl (by decide) ?_
        refine r_cv_v (vs := [.int (1 : Int32)]) rfl ml_12_249 rfl (rOk.of rfl) ⟨Nat.zero_le _, Nat.zero_le _⟩ rfl rfl rfl h s_X12_errs (fun _ M7 h => ?_)
        exact r_vret rfl rfl ⟨Nat.le_of_ble_eq_true rfl, Nat.le_of_ble_eq_true rfl⟩ h
    · exact s_X12_asksOn_18 _ _ h
  · exact s_X12_asksOn_18 _ _ h
set_option maxRecDepth 20000 in
theorem dk_X12_oneIsOver : ∀ pc i, L_X12_oneIsOver[pc]? = some (some i) → decode prog_14_method_27_code pc = .ok i := dk_of (by decide +kernel)
theorem sb_X12_oneIsOver_0 {d : Nat} {P : Unit → Mem → Prop} {q0 : Option Nat → Mem → Option (Unit × Mem)} (hq0 : ∀ (r0 : Option Nat) (M : Mem), FQ (q0 r0 M) P → wp Y_X12_oneIsOver (rmD (d + 1) 0 0) (FM (QV P) 0 0) 0 0 0 [some (va_rf r0)] [] M) (r0 : Option Nat) (M : Mem) (h : FQ (b_X12_oneIsOver_0 q0 r0 M) P) : wp Y_X12_oneIsOver (rmD (d + 1) 0 0) (FM (QV P) 0 0) 0 0 0 [some (va_rf r0)] [] M := by
  unfold b_X12_oneIsOver_0 at h
  refine r_aload_n rfl rfl ?_
  refine r_cv_i (vs := []) rfl ml_12_287 rfl (rOk.of rfl) ⟨Nat.zero_le _, Nat.zero_le _⟩ rfl rfl rfl h s_X12_top (fun v1 M1 h => ?_)
  refine r_bipush (v := 7) rfl (by decide) ?_
  refine r_ic_ne 40 rfl (by decide) h (fun h => ?_) (fun h => ?_)
  · refine r_aload_n rfl rfl ?_
    refine r_dup rfl (cat_rf _) ?_
    refine r_getI rfl fl_12_243 rfl h (fun v2 h => ?_)
    refine r_iconst (v := 1) rfl (by decide) ?_
    refine r_isub rfl ?_
    refine r_putI rfl fl_12_243 (fun z => by cases z) rfl h (fun M2 h => ?_)
    refine r_aload_n rfl rfl ?_
    refine r_dup rfl (cat_rf _) ?_
    refine r_getI rfl fl_12_246 rfl h (fun v3 h => ?_)
    refine r_iconst (v := 1) rfl (by decide) ?_
    refine r_isub rfl ?_
    refine r_putI rfl fl_12_246 (fun z => by cases z) rfl h (fun M3 h => ?_)
    refine r_aload_n rfl rfl ?_
    refine r_sipush (v := 402) rfl (by decide) ?_
    refine r_iconst (v := 0) rfl (by decide) ?_
    refine r_cv_v (vs := [.int (402 : Int32), .int (0 : Int32)]) rfl ml_12_265 rfl (rOk.of rfl) ⟨Nat.zero_le _, Nat.zero_le _⟩ rfl rfl rfl h s_X12_emits (fun _ M4 h => ?_)
    refine r_goto 0 rfl (by decide) ?_
    exact hq0 _ _ h
  · refine r_aload_n rfl rfl ?_
    refine r_iconst (v := 2) rfl (by decide) ?_
    refine r_putI rfl fl_12_278 (fun z => by cases z) rfl h (fun M5 h => ?_)
    exact r_vret rfl rfl ⟨Nat.le_of_ble_eq_true rfl, Nat.le_of_ble_eq_true rfl⟩ h
theorem s_X12_oneIsOver_0 {d : Nat} {P : Unit → Mem → Prop}   : ∀ (k : Nat) (r0 : Option Nat) (M : Mem), FQ (f_X12_oneIsOver_0  k r0 M) P → wp Y_X12_oneIsOver (rmD (d + 1) 0 0) (FM (QV P) 0 0) 0 0 0 [some (va_rf r0)] [] M
  | 0, _, _, h => h.no
  | k + 1, r0, M, h => sb_X12_oneIsOver_0  (s_X12_oneIsOver_0  k) r0 M h
theorem s_X12_oneIsOver {d : Nat} {P : Unit → Mem → Prop} {r0 : Option Nat} {M : Mem} (h : FQ (f_X12_oneIsOver r0 M) P) : Con Y_X12_oneIsOver (d + 1) 0 0 [va_rf r0] M (QV P) := by
  refine Con.of [some (va_rf r0)] (by decide +kernel) dk_X12_oneIsOver (by simp [Y_X12_oneIsOver, cat_rf, cat_i, cat_l]) (by simp [loE, Y_X12_oneIsOver, cat_rf, cat_i, cat_l, List.replicate]) ?_
  unfold f_X12_oneIsOver at h
  exact s_X12_oneIsOver_0 FU _ _ h
set_option maxRecDepth 20000 in
theorem dk_X12_begins : ∀ pc i, L_X12_begins[pc]? = some (some i) → decode prog_14_method_26_code pc = .ok i := dk_of (by decide +kernel)
theorem s_X12_begins_106 {d : Nat} {P : Unit → Mem → Prop}   (r0 : Option Nat) (M : Mem) (h : FQ (f_X12_begins_106  r0 M) P) : wp Y_X12_begins (rmD (d + 4) 0 0) (FM (QV P) 0 0) 0 0 106 [some (va_rf r0), none] [] M := by
  unfold f_X12_begins_106 at h
  refine r_aload_n rfl rfl ?_
  refine r_bipush (v := 40) rfl (by decide) ?_
  refine r_cv_i (vs := [.int (40 : Int32)]) rfl ml_12_284 rfl (rOk.of rfl) ⟨Nat.zero_le _, Nat.zero_le _⟩ rfl rfl rfl h s_X12_isSign (fun v1 M1 h => ?_)
  refine r_if_eq 125 rfl (by decide) h (fun h => ?_) (fun h => ?_)
  · refine r_aload_n rfl rfl ?_
    refine r_bipush (v := 45) rfl (by decide) ?_
    refine r_cv_i (vs := [.int (45 : Int32)]) rfl ml_12_284 rfl (rOk.of rfl) ⟨Nat.zero_le _, Nat.zero_le _⟩ rfl rfl rfl h s_X12_isSign (fun v2 M2 h => ?_)
    refine r_if_eq 144 rfl (by decide) h (fun h => ?_) (fun h => ?_)
    · refine r_aload_n rfl rfl ?_
      refine r_iconst (v := 1) rfl (by decide) ?_
      refine r_cv_v (vs := [.int (1 : Int32)]) rfl ml_12_249 rfl (rOk.of rfl) ⟨Nat.zero_le _, Nat.zero_le _⟩ rfl rfl rfl h s_X12_errs (fun _ M3 h => ?_)
      exact r_vret rfl rfl ⟨Nat.le_of_ble_eq_true rfl, Nat.le_of_ble_eq_true rfl⟩ h
    · refine r_aload_n rfl rfl ?_
      refine r_bipush (v := 7) rfl (by decide) ?_
      refine r_cv_i (vs := [.int (7 : Int32)]) rfl ml_12_275 rfl (rOk.of rfl) ⟨Nat.zero_le _, Nat.zero_le _⟩ rfl rfl rfl h s_X12_opensSign (fun v3 M4 h => ?_)
      refine r_istore_n (lo' := [some (va_rf r0), some (.int v3)]) rfl rfl (by simp [stOk, cat_rf]) rfl ?_
      refine r_goto 149 rfl (by decide) ?_
      exact r_vret rfl rfl ⟨Nat.le_of_ble_eq_true rfl, Nat.le_of_ble_eq_true rfl⟩ h
  · refine r_aload_n rfl rfl ?_
    refine r_bipush (v := 6) rfl (by decide) ?_
    refine r_cv_i (vs := [.int (6 : Int32)]) rfl ml_12_275 rfl (rOk.of rfl) ⟨Nat.zero_le _, Nat.zero_le _⟩ rfl rfl rfl h s_X12_opensSign (fun v4 M5 h => ?_)
    refine r_istore_n (lo' := [some (va_rf r0), some (.int v4)]) rfl rfl (by simp [stOk, cat_rf]) rfl ?_
    refine r_goto 149 rfl (by decide) ?_
    exact r_vret rfl rfl ⟨Nat.le_of_ble_eq_true rfl, Nat.le_of_ble_eq_true rfl⟩ h
theorem s_X12_begins_70 {d : Nat} {P : Unit → Mem → Prop}   (r0 : Option Nat) (M : Mem) (h : FQ (f_X12_begins_70  r0 M) P) : wp Y_X12_begins (rmD (d + 4) 0 0) (FM (QV P) 0 0) 0 0 70 [some (va_rf r0), none] [] M := by
  unfold f_X12_begins_70 at h
  refine r_aload_n rfl rfl ?_
  refine r_sipush (v := 401) rfl (by decide) ?_
  refine r_aload_n rfl rfl ?_
  refine r_getI rfl fl_12_230 rfl h (fun v1 h => ?_)
  refine r_if_ne 85 rfl (by decide) h (fun h => ?_) (fun h => ?_)
  · refine r_iconst (v := 0) rfl (by decide) ?_
    refine r_goto 92 rfl (by decide) ?_
    refine r_cv_v (vs := [.int (401 : Int32), .int (0 : Int32)]) rfl ml_12_265 rfl (rOk.of rfl) ⟨Nat.zero_le _, Nat.zero_le _⟩ rfl rfl rfl h s_X12_emits (fun _ M1 h => ?_)
    refine r_aload_n rfl rfl ?_
    refine r_cv_v (vs := []) rfl ml_12_255 rfl (rOk.of rfl) ⟨Nat.zero_le _, Nat.zero_le _⟩ rfl rfl rfl h s_X12_next (fun _ M2 h => ?_)
    refine r_aload_n rfl rfl ?_
    refine r_cv_v (vs := []) rfl ml_12_281 rfl (rOk.of rfl) ⟨Nat.zero_le _, Nat.zero_le _⟩ rfl rfl rfl h s_X12_oneIsOver (fun _ M3 h => ?_)
    refine r_goto 149 rfl (by decide) ?_
    exact r_vret rfl rfl ⟨Nat.le_of_ble_eq_true rfl, Nat.le_of_ble_eq_true rfl⟩ h
  · refine r_aload_n rfl rfl ?_
    refine r_getI rfl fl_12_230 rfl h (fun v2 h => ?_)
    refine r_bipush (v := 13) rfl (by decide) ?_
    refine r_isub rfl ?_
    refine r_cv_v (vs := [.int (401 : Int32), .int (v2 - (13 : Int32))]) rfl ml_12_265 rfl (rOk.of rfl) ⟨Nat.zero_le _, Nat.zero_le _⟩ rfl rfl rfl h s_X12_emits (fun _ M4 h => ?_)
    refine r_aload_n rfl rfl ?_
    refine r_cv_v (vs := []) rfl ml_12_255 rfl (rOk.of rfl) ⟨Nat.zero_le _, Nat.zero_le _⟩ rfl rfl rfl h s_X12_next (fun _ M5 h => ?_)
    refine r_aload_n rfl rfl ?_
    refine r_cv_v (vs := []) rfl ml_12_281 rfl (rOk.of rfl) ⟨Nat.zero_le _, Nat.zero_le _⟩ rfl rfl rfl h s_X12_oneIsOver (fun _ M6 h => ?_)
    refine r_goto 149 rfl (by decide) ?_
    exact r_vret rfl rfl ⟨Nat.le_of_ble_eq_true rfl, Nat.le_of_ble_eq_true rfl⟩ h
theorem s_X12_begins {d : Nat} {P : Unit → Mem → Prop} {r0 : Option Nat} {M : Mem} (h : FQ (f_X12_begins r0 M) P) : Con Y_X12_begins (d + 4) 0 0 [va_rf r0] M (QV P) := by
  refine Con.of [some (va_rf r0), none] (by decide +kernel) dk_X12_begins (by simp [Y_X12_begins, cat_rf, cat_i, cat_l]) (by simp [loE, Y_X12_begins, cat_rf, cat_i, cat_l, List.replicate]) ?_
  unfold f_X12_begins at h
  refine r_aload_n rfl rfl ?_
  refine r_getI rfl fl_12_218 rfl h (fun v1 h => ?_)
  refine r_iconst (v := 2) rfl (by decide) ?_
  refine r_ic_ne 46 rfl (by decide) h (fun h => ?_) (fun h => ?_)
  · refine r_aload_n rfl rfl ?_
    refine r_getI rfl fl_12_230 rfl h (fun v2 h => ?_)
    refine r_sipush (v := 9999) rfl (by decide) ?_
    refine r_ic_le 24 rfl (by decide) h (fun h => ?_) (fun h => ?_)
    · refine r_aload_n rfl rfl ?_
      refine r_sipush (v := 400) rfl (by decide) ?_
      refine r_aload_n rfl rfl ?_
      refine r_getI rfl fl_12_230 rfl h (fun v3 h => ?_)
      refine r_cv_v (vs := [.int (400 : Int32), .int v3]) rfl ml_12_265 rfl (rOk.of rfl) ⟨Nat.zero_le _, Nat.zero_le _⟩ rfl rfl rfl h s_X12_emits (fun _ M1 h => ?_)
      refine r_aload_n rfl rfl ?_
      refine r_cv_v (vs := []) rfl ml_12_255 rfl (rOk.of rfl) ⟨Nat.zero_le _, Nat.zero_le _⟩ rfl rfl rfl h s_X12_next (fun _ M2 h => ?_)
      refine r_aload_n rfl rfl ?_
      refine r_cv_v (vs := []) rfl ml_12_281 rfl (rOk.of rfl) ⟨Nat.zero_le _, Nat.zero_le _⟩ rfl rfl rfl h s_X12_oneIsOver (fun _ M3 h => ?_)
      refine r_goto 149 rfl (by decide) ?_
      exact r_vret rfl rfl ⟨Nat.le_of_ble_eq_true rfl, Nat.le_of_ble_eq_true rfl⟩ h
    · refine r_aload_n rfl rfl ?_
      refine r_iconst (v := 2) rfl (by decide) ?_
      refine r_cv_v (vs := [.int (2 : Int32)]) rfl ml_12_249 rfl (rOk.of rfl) ⟨Nat.zero_le _, Nat.zero_le _⟩ rfl rfl rfl h s_X12_errs (fun _ M4 h => ?_)
      exact r_vret rfl rfl ⟨Nat.le_of_ble_eq_true rfl, Nat.le_of_ble_eq_true rfl⟩ h
  · refine r_aload_n rfl rfl ?_
    refine r_getI rfl fl_12_218 rfl h (fun v4 h => ?_)
    refine r_iconst (v := 1) rfl (by decide) ?_
    refine r_ic_ne 106 rfl (by decide) h (fun h => ?_) (fun h => ?_)
    · refine r_aload_n rfl rfl ?_
      refine r_getI rfl fl_12_230 rfl h (fun v5 h => ?_)
      refine r_bipush (v := 13) rfl (by decide) ?_
      refine r_ic_gt 70 rfl (by decide) h (fun h => ?_) (fun h => ?_)
      · exact s_X12_begins_70 _ _ h
      · refine r_aload_n rfl rfl ?_
        refine r_getI rfl fl_12_230 rfl h (fun v6 h => ?_)
        refine r_if_ne 106 rfl (by decide) h (fun h => ?_) (fun h => ?_)
        · exact s_X12_begins_70 _ _ h
        · exact s_X12_begins_106 _ _ h
    · exact s_X12_begins_106 _ _ h
set_option maxRecDepth 20000 in
theorem dk_X12_number : ∀ pc i, L_X12_number[pc]? = some (some i) → decode prog_14_method_33_code pc = .ok i := dk_of (by decide +kernel)
theorem s_X12_number {d : Nat} {P : Int32 → Mem → Prop} {r0 : Option Nat} {i1 : Int32} {i2 : Int32} {M : Mem} (h : FQ (f_X12_number r0 i1 i2 M) P) : Con Y_X12_number (d + 3) 0 0 [va_rf r0, .int i1, .int i2] M (QI P) := by
  refine Con.of [some (va_rf r0), some (.int i1), some (.int i2), none] (by decide +kernel) dk_X12_number (by simp [Y_X12_number, cat_rf, cat_i, cat_l]) (by simp [loE, Y_X12_number, cat_rf, cat_i, cat_l, List.replicate]) ?_
  unfold f_X12_number at h
  refine r_aload_n rfl rfl ?_
  refine r_getI rfl fl_12_234 rfl h (fun v1 h => ?_)
  refine r_if_gt 15 rfl (by decide) h (fun h => ?_) (fun h => ?_)
  · refine r_aload_n rfl rfl ?_
    refine r_iconst (v := 1) rfl (by decide) ?_
    refine r_cv_v (vs := [.int (1 : Int32)]) rfl ml_12_249 rfl (rOk.of rfl) ⟨Nat.zero_le _, Nat.zero_le _⟩ rfl rfl rfl h s_X12_errs (fun _ M1 h => ?_)
    refine r_iload_n rfl rfl ?_
    exact r_iret rfl rfl ⟨Nat.le_of_ble_eq_true rfl, Nat.le_of_ble_eq_true rfl⟩ h
  · refine r_aload_n rfl rfl ?_
    refine r_getI rfl fl_12_218 rfl h (fun v2 h => ?_)
    refine r_iconst (v := 2) rfl (by decide) ?_
    refine r_ic_eq 22 rfl (by decide) h (fun h => ?_) (fun h => ?_)
    · refine r_aload_n rfl rfl ?_
      refine r_getI rfl fl_12_230 rfl h (fun v3 h => ?_)
      refine r_iload_n rfl rfl ?_
      refine r_iload_n rfl rfl ?_
      refine r_cs_i (vs := [.int v3, .int i1, .int i2]) rfl ml_12_151 (rOk.of rfl) ⟨Nat.zero_le _, Nat.zero_le _⟩ rfl rfl rfl h s_X12_in (fun v4 M2 h => ?_)
      refine r_if_ne 41 rfl (by decide) h (fun h => ?_) (fun h => ?_)
      · refine r_aload_n rfl rfl ?_
        refine r_iconst (v := 2) rfl (by decide) ?_
        refine r_cv_v (vs := [.int (2 : Int32)]) rfl ml_12_249 rfl (rOk.of rfl) ⟨Nat.zero_le _, Nat.zero_le _⟩ rfl rfl rfl h s_X12_errs (fun _ M3 h => ?_)
        refine r_iload_n rfl rfl ?_
        exact r_iret rfl rfl ⟨Nat.le_of_ble_eq_true rfl, Nat.le_of_ble_eq_true rfl⟩ h
      · refine r_aload_n rfl rfl ?_
        refine r_getI rfl fl_12_230 rfl h (fun v5 h => ?_)
        refine r_istore_n (lo' := [some (va_rf r0), some (.int i1), some (.int i2), some (.int v5)]) rfl rfl rfl rfl ?_
        refine r_aload_n rfl rfl ?_
        refine r_cv_v (vs := []) rfl ml_12_255 rfl (rOk.of rfl) ⟨Nat.zero_le _, Nat.zero_le _⟩ rfl rfl rfl h s_X12_next (fun _ M4 h => ?_)
        refine r_iload_n rfl rfl ?_
        exact r_iret rfl rfl ⟨Nat.le_of_ble_eq_true rfl, Nat.le_of_ble_eq_true rfl⟩ h
    · refine r_aload_n rfl rfl ?_
      refine r_iconst (v := 1) rfl (by decide) ?_
      refine r_cv_v (vs := [.int (1 : Int32)]) rfl ml_12_249 rfl (rOk.of rfl) ⟨Nat.zero_le _, Nat.zero_le _⟩ rfl rfl rfl h s_X12_errs (fun _ M5 h => ?_)
      refine r_iload_n rfl rfl ?_
      exact r_iret rfl rfl ⟨Nat.le_of_ble_eq_true rfl, Nat.le_of_ble_eq_true rfl⟩ h
set_option maxRecDepth 20000 in
theorem dk_X12_wants : ∀ pc i, L_X12_wants[pc]? = some (some i) → decode prog_14_method_34_code pc = .ok i := dk_of (by decide +kernel)
theorem s_X12_wants {d : Nat} {P : Unit → Mem → Prop} {r0 : Option Nat} {i1 : Int32} {M : Mem} (h : FQ (f_X12_wants r0 i1 M) P) : Con Y_X12_wants (d + 3) 0 0 [va_rf r0, .int i1] M (QV P) := by
  refine Con.of [some (va_rf r0), some (.int i1)] (by decide +kernel) dk_X12_wants (by simp [Y_X12_wants, cat_rf, cat_i, cat_l]) (by simp [loE, Y_X12_wants, cat_rf, cat_i, cat_l, List.replicate]) ?_
  unfold f_X12_wants at h
  refine r_aload_n rfl rfl ?_
  refine r_getI rfl fl_12_234 rfl h (fun v1 h => ?_)
  refine r_if_ne 16 rfl (by decide) h (fun h => ?_) (fun h => ?_)
  · refine r_iload_n rfl rfl ?_
    refine r_if_ne 16 rfl (by decide) h (fun h => ?_) (fun h => ?_)
    · refine r_aload_n rfl rfl ?_
      refine r_iconst (v := 1) rfl (by decide) ?_
      refine r_cv_v (vs := [.int (1 : Int32)]) rfl ml_12_249 rfl (rOk.of rfl) ⟨Nat.zero_le _, Nat.zero_le _⟩ rfl rfl rfl h s_X12_errs (fun _ M1 h => ?_)
      refine r_aload_n rfl rfl ?_
      refine r_getI rfl fl_12_234 rfl h (fun v2 h => ?_)
      refine r_if_ne 27 rfl (by decide) h (fun h => ?_) (fun h => ?_)
      · refine r_aload_n rfl rfl ?_
        refine r_cv_v (vs := []) rfl ml_12_255 rfl (rOk.of rfl) ⟨Nat.zero_le _, Nat.zero_le _⟩ rfl rfl rfl h s_X12_next (fun _ M2 h => ?_)
        exact r_vret rfl rfl ⟨Nat.le_of_ble_eq_true rfl, Nat.le_of_ble_eq_true rfl⟩ h
      · exact r_vret rfl rfl ⟨Nat.le_of_ble_eq_true rfl, Nat.le_of_ble_eq_true rfl⟩ h
    · refine r_aload_n rfl rfl ?_
      refine r_getI rfl fl_12_234 rfl h (fun v3 h => ?_)
      refine r_if_ne 27 rfl (by decide) h (fun h => ?_) (fun h => ?_)
      · refine r_aload_n rfl rfl ?_
        refine r_cv_v (vs := []) rfl ml_12_255 rfl (rOk.of rfl) ⟨Nat.zero_le _, Nat.zero_le _⟩ rfl rfl rfl h s_X12_next (fun _ M3 h => ?_)
        exact r_vret rfl rfl ⟨Nat.le_of_ble_eq_true rfl, Nat.le_of_ble_eq_true rfl⟩ h
      · exact r_vret rfl rfl ⟨Nat.le_of_ble_eq_true rfl, Nat.le_of_ble_eq_true rfl⟩ h
  · refine r_aload_n rfl rfl ?_
    refine r_getI rfl fl_12_234 rfl h (fun v4 h => ?_)
    refine r_if_ne 27 rfl (by decide) h (fun h => ?_) (fun h => ?_)
    · refine r_aload_n rfl rfl ?_
      refine r_cv_v (vs := []) rfl ml_12_255 rfl (rOk.of rfl) ⟨Nat.zero_le _, Nat.zero_le _⟩ rfl rfl rfl h s_X12_next (fun _ M4 h => ?_)
      exact r_vret rfl rfl ⟨Nat.le_of_ble_eq_true rfl, Nat.le_of_ble_eq_true rfl⟩ h
    · exact r_vret rfl rfl ⟨Nat.le_of_ble_eq_true rfl, Nat.le_of_ble_eq_true rfl⟩ h
set_option maxRecDepth 20000 in
theorem dk_X12_readsMove : ∀ pc i, L_X12_readsMove[pc]? = some (some i) → decode prog_14_method_35_code pc = .ok i := dk_of (by decide +kernel)
theorem s_X12_readsMove_56 {d : Nat} {P : Unit → Mem → Prop}   (r0 : Option Nat) (i1 : Int32) (i2 : Int32) (sr0 : Option Nat) (si1 : Int32) (M : Mem) (h : FQ (f_X12_readsMove_56  r0 i1 i2 sr0 si1 M) P) : wp Y_X12_readsMove (rmD (d + 4) 0 0) (FM (QV P) 0 0) 0 0 56 [some (va_rf r0), some (.int i1), some (.int i2)] [.int si1, va_rf sr0] M := by
  unfold f_X12_readsMove_56 at h
  refine r_cv_v (vs := [.int si1]) rfl ml_12_310 rfl (rOk.of rfl) ⟨Nat.zero_le _, Nat.zero_le _⟩ rfl rfl rfl h s_X12_wants (fun _ M1 h => ?_)
  refine r_aload_n rfl rfl ?_
  refine r_getR rfl fl_12_72 rfl h (fun v1 h => ?_)
  refine r_iload_n rfl rfl ?_
  refine r_iconst (v := 1) rfl (by decide) ?_
  refine r_iadd rfl ?_
  refine r_iload_n rfl rfl ?_
  refine r_iast rfl h (fun M2 h => ?_)
  refine r_aload_n rfl rfl ?_
  refine r_getR rfl fl_12_72 rfl h (fun v2 h => ?_)
  refine r_iload_n rfl rfl ?_
  refine r_iconst (v := 2) rfl (by decide) ?_
  refine r_iadd rfl ?_
  refine r_aload_n rfl rfl ?_
  refine r_iconst (v := 0) rfl (by decide) ?_
  refine r_iconst (v := 3) rfl (by decide) ?_
  refine r_cv_i (vs := [.int (0 : Int32), .int (3 : Int32)]) rfl ml_12_306 rfl (rOk.of rfl) ⟨Nat.zero_le _, Nat.zero_le _⟩ rfl rfl rfl h s_X12_number (fun v3 M3 h => ?_)
  refine r_iast rfl h (fun M4 h => ?_)
  refine r_aload_n rfl rfl ?_
  refine r_aload_n rfl rfl ?_
  refine r_bipush (v := 44) rfl (by decide) ?_
  refine r_cv_i (vs := [.int (44 : Int32)]) rfl ml_12_284 rfl (rOk.of rfl) ⟨Nat.zero_le _, Nat.zero_le _⟩ rfl rfl rfl h s_X12_isSign (fun v4 M5 h => ?_)
  refine r_cv_v (vs := [.int v4]) rfl ml_12_310 rfl (rOk.of rfl) ⟨Nat.zero_le _, Nat.zero_le _⟩ rfl rfl rfl h s_X12_wants (fun _ M6 h => ?_)
  refine r_aload_n rfl rfl ?_
  refine r_getR rfl fl_12_72 rfl h (fun v5 h => ?_)
  refine r_iload_n rfl rfl ?_
  refine r_iconst (v := 3) rfl (by decide) ?_
  refine r_iadd rfl ?_
  refine r_aload_n rfl rfl ?_
  refine r_iconst (v := 0) rfl (by decide) ?_
  refine r_iconst (v := 3) rfl (by decide) ?_
  refine r_cv_i (vs := [.int (0 : Int32), .int (3 : Int32)]) rfl ml_12_306 rfl (rOk.of rfl) ⟨Nat.zero_le _, Nat.zero_le _⟩ rfl rfl rfl h s_X12_number (fun v6 M7 h => ?_)
  refine r_iast rfl h (fun M8 h => ?_)
  refine r_aload_n rfl rfl ?_
  refine r_getI rfl fl_12_234 rfl h (fun v7 h => ?_)
  refine r_if_le 114 rfl (by decide) h (fun h => ?_) (fun h => ?_)
  · refine r_aload_n rfl rfl ?_
    refine r_bipush (v := 59) rfl (by decide) ?_
    refine r_cv_i (vs := [.int (59 : Int32)]) rfl ml_12_284 rfl (rOk.of rfl) ⟨Nat.zero_le _, Nat.zero_le _⟩ rfl rfl rfl h s_X12_isSign (fun v8 M9 h => ?_)
    refine r_if_eq 140 rfl (by decide) h (fun h => ?_) (fun h => ?_)
    · refine r_aload_n rfl rfl ?_
      refine r_aload_n rfl rfl ?_
      refine r_bipush (v := 10) rfl (by decide) ?_
      refine r_cv_i (vs := [.int (10 : Int32)]) rfl ml_12_272 rfl (rOk.of rfl) ⟨Nat.zero_le _, Nat.zero_le _⟩ rfl rfl rfl h s_X12_isWord (fun v9 M10 h => ?_)
      refine r_cv_v (vs := [.int v9]) rfl ml_12_310 rfl (rOk.of rfl) ⟨Nat.zero_le _, Nat.zero_le _⟩ rfl rfl rfl h s_X12_wants (fun _ M11 h => ?_)
      refine r_aload_n rfl rfl ?_
      refine r_iconst (v := 2) rfl (by decide) ?_
      refine r_cv_v (vs := [.int (2 : Int32)]) rfl ml_12_252 rfl (rOk.of rfl) ⟨Nat.zero_le _, Nat.zero_le _⟩ rfl rfl rfl h s_X12_opensFrame (fun _ M12 h => ?_)
      refine r_aload_n rfl rfl ?_
      refine r_iconst (v := 0) rfl (by decide) ?_
      refine r_putI rfl fl_12_278 (fun z => by cases z) rfl h (fun M13 h => ?_)
      exact r_vret rfl rfl ⟨Nat.le_of_ble_eq_true rfl, Nat.le_of_ble_eq_true rfl⟩ h
    · refine r_aload_n rfl rfl ?_
      refine r_getR rfl fl_12_69 rfl h (fun v10 h => ?_)
      refine r_aload_n rfl rfl ?_
      refine r_getI rfl fl_12_303 rfl h (fun v11 h => ?_)
      refine r_iconst (v := -1) rfl (by decide) ?_
      refine r_iast rfl h (fun M14 h => ?_)
      refine r_aload_n rfl rfl ?_
      refine r_cv_v (vs := []) rfl ml_12_300 rfl (rOk.of rfl) ⟨Nat.zero_le _, Nat.zero_le _⟩ rfl rfl rfl h s_X12_clauseIsOver (fun _ M15 h => ?_)
      refine r_goto 160 rfl (by decide) ?_
      exact r_vret rfl rfl ⟨Nat.le_of_ble_eq_true rfl, Nat.le_of_ble_eq_true rfl⟩ h
  · exact r_vret rfl rfl ⟨Nat.le_of_ble_eq_true rfl, Nat.le_of_ble_eq_true rfl⟩ h
theorem s_X12_readsMove {d : Nat} {P : Unit → Mem → Prop} {r0 : Option Nat} {M : Mem} (h : FQ (f_X12_readsMove r0 M) P) : Con Y_X12_readsMove (d + 4) 0 0 [va_rf r0] M (QV P) := by
  refine Con.of [some (va_rf r0), none, none] (by decide +kernel) dk_X12_readsMove (by simp [Y_X12_readsMove, cat_rf, cat_i, cat_l]) (by simp [loE, Y_X12_readsMove, cat_rf, cat_i, cat_l, List.replicate]) ?_
  unfold f_X12_readsMove at h
  refine r_iconst (v := 4) rfl (by decide) ?_
  refine r_aload_n rfl rfl ?_
  refine r_getI rfl fl_12_303 rfl h (fun v1 h => ?_)
  refine r_imul rfl ?_
  refine r_istore_n (lo' := [some (va_rf r0), some (.int ((4 : Int32) * v1)), none]) rfl rfl (by simp [stOk, cat_rf]) rfl ?_
  refine r_aload_n rfl rfl ?_
  refine r_getR rfl fl_12_72 rfl h (fun v2 h => ?_)
  refine r_iload_n rfl rfl ?_
  refine r_aload_n rfl rfl ?_
  refine r_iconst (v := 0) rfl (by decide) ?_
  refine r_bipush (v := 7) rfl (by decide) ?_
  refine r_cv_i (vs := [.int (0 : Int32), .int (7 : Int32)]) rfl ml_12_306 rfl (rOk.of rfl) ⟨Nat.zero_le _, Nat.zero_le _⟩ rfl rfl rfl h s_X12_number (fun v3 M1 h => ?_)
  refine r_iast rfl h (fun M2 h => ?_)
  refine r_aload_n rfl rfl ?_
  refine r_getI rfl fl_12_230 rfl h (fun v4 h => ?_)
  refine r_bipush (v := 6) rfl (by decide) ?_
  refine r_isub rfl ?_
  refine r_istore_n (lo' := [some (va_rf r0), some (.int ((4 : Int32) * v1)), some (.int (v4 - (6 : Int32)))]) rfl rfl rfl rfl ?_
  refine r_aload_n rfl rfl ?_
  refine r_aload_n rfl rfl ?_
  refine r_getI rfl fl_12_218 rfl h (fun v5 h => ?_)
  refine r_iconst (v := 1) rfl (by decide) ?_
  refine r_ic_ne 55 rfl (by decide) h (fun h => ?_) (fun h => ?_)
  · refine r_aload_n rfl rfl ?_
    refine r_getI rfl fl_12_230 rfl h (fun v6 h => ?_)
    refine r_bipush (v := 6) rfl (by decide) ?_
    refine r_bipush (v := 9) rfl (by decide) ?_
    refine r_cs_i (vs := [.int v6, .int (6 : Int32), .int (9 : Int32)]) rfl ml_12_151 (rOk.of rfl) ⟨Nat.zero_le _, Nat.zero_le _⟩ rfl rfl rfl h s_X12_in (fun v7 M3 h => ?_)
    refine r_if_eq 55 rfl (by decide) h (fun h => ?_) (fun h => ?_)
    · refine r_iconst (v := 0) rfl (by decide) ?_
      exact s_X12_readsMove_56 _ _ _ _ _ _ h
    · refine r_iconst (v := 1) rfl (by decide) ?_
      refine r_goto 56 rfl (by decide) ?_
      exact s_X12_readsMove_56 _ _ _ _ _ _ h
  · refine r_iconst (v := 0) rfl (by decide) ?_
    exact s_X12_readsMove_56 _ _ _ _ _ _ h
