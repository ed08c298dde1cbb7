/-! walked by program (wip/gen): X12_wasTold X12_clause X12_askIsOver X12_isAsking X12_goesOn -/
def L_X12_wasTold : List (Option (Instr × Nat)) := [some (.iconst 0, 1), some (.istore_n 2, 1), some (.iconst 0, 1), some (.istore_n 3, 1), some (.iload_n 3, 1), some (.aload_n 0, 1), some (.getfield 303, 3), none, none, some (.if_icmp .ge 29, 3), none, none, some (.iload_n 2, 1), some (.ifCond .ne 13, 3), none, none, some (.aload_n 0, 1), some (.getfield 66, 3), none, none, some (.iload_n 3, 1), some (.iaload, 1), some (.iload_n 1, 1), some (.if_icmp .ne 7, 3), none, none, some (.iconst 1, 1), some (.goto 4, 3), none, none, some (.iconst 0, 1), some (.istore_n 2, 1), some (.iinc 3 1, 3), none, none, some (.goto (-31), 3), none, none, some (.iload_n 2, 1), some (.ireturn, 1)]
def Y_X12_wasTold : YM := (⟨RX12, "wasTold", "(I)Z"⟩, prog_14_method_36_code, L_X12_wasTold, 4, some .boolean)
def b_X12_wasTold_4 (q4 : Option Nat → Int32 → Int32 → Int32 → Mem → Option (Int32 × Mem)) (r0 : Option Nat) (i1 : Int32) (i2 : Int32) (i3 : Int32) (M : Mem) : Option (Int32 × Mem) :=
gI M r0 12 33 fun v1 =>
(if v1 ≤ i3 then
tv i2 (some (i2, M))
else
(if i2 = 0 then
gR M r0 12 35 fun v2 =>
aI M v2 2 i3 fun v3 =>
(if v3 = i1 then
q4 r0 i1 (1 : Int32) (i3 + (1 : Int32)) M
else
q4 r0 i1 (0 : Int32) (i3 + (1 : Int32)) M)
else
q4 r0 i1 (1 : Int32) (i3 + (1 : Int32)) M))
def f_X12_wasTold_4 (n : Nat) : Option Nat → Int32 → Int32 → Int32 → Mem → Option (Int32 × Mem) := lpN (fun _ _ _ _ _ => none) (b_X12_wasTold_4 ) n
def f_X12_wasTold (r0 : Option Nat) (i1 : Int32) (M : Mem) : Option (Int32 × Mem) :=
f_X12_wasTold_4 FU r0 i1 (0 : Int32) (0 : Int32) M
def L_X12_clause : List (Option (Instr × Nat)) := [some (.aload_n 0, 1), some (.getfield 218, 3), none, none, some (.iconst 1, 1), some (.if_icmp .ne 11, 3), none, none, some (.aload_n 0, 1), some (.getfield 230, 3), none, none, some (.iconst 5, 1), some (.if_icmp .le 9, 3), none, none, some (.aload_n 0, 1), some (.iconst 1, 1), some (.invokevirtual 249, 3), none, none, some (.return_, 1), some (.aload_n 0, 1), some (.aload_n 0, 1), some (.getfield 230, 3), none, none, some (.putfield 313, 3), none, none, some (.aload_n 0, 1), some (.getfield 313, 3), none, none, some (.iconst 1, 1), some (.iconst 4, 1), some (.invokestatic 151, 3), none, none, some (.ifCond .eq 22, 3), none, none, some (.aload_n 0, 1), some (.aload_n 0, 1), some (.getfield 313, 3), none, none, some (.invokevirtual 316, 3), none, none, some (.ifCond .eq 11, 3), none, none, some (.aload_n 0, 1), some (.iconst 4, 1), some (.invokevirtual 249, 3), none, none, some (.goto 17, 3), none, none, some (.aload_n 0, 1), some (.getfield 303, 3), none, none, some (.bipush 20, 2), none, some (.if_icmp .ne 8, 3), none, none, some (.aload_n 0, 1), some (.iconst 5, 1), some (.invokevirtual 249, 3), none, none, some (.aload_n 0, 1), some (.getfield 234, 3), none, none, some (.ifCond .le 4, 3), none, none, some (.return_, 1), some (.aload_n 0, 1), some (.getfield 66, 3), none, none, some (.aload_n 0, 1), some (.getfield 303, 3), none, none, some (.aload_n 0, 1), some (.getfield 313, 3), none, none, some (.iastore, 1), some (.aload_n 0, 1), some (.getfield 69, 3), none, none, some (.aload_n 0, 1), some (.getfield 303, 3), none, none, some (.aload_n 0, 1), some (.getfield 240, 3), none, none, some (.iastore, 1), some (.aload_n 0, 1), some (.invokevirtual 255, 3), none, none, some (.aload_n 0, 1), some (.getfield 313, 3), none, none, some (.ifCond .ne 10, 3), none, none, some (.aload_n 0, 1), some (.invokevirtual 319, 3), none, none, some (.goto 37, 3), none, none, some (.aload_n 0, 1), some (.aload_n 0, 1), some (.getfield 313, 3), none, none, some (.iconst 5, 1), some (.if_icmp .ne 7, 3), none, none, some (.iconst 2, 1), some (.goto 4, 3), none, none, some (.iconst 1, 1), some (.invokevirtual 252, 3), none, none, some (.aload_n 0, 1), some (.aload_n 0, 1), some (.getfield 313, 3), none, none, some (.iconst 5, 1), some (.if_icmp .ne 7, 3), none, none, some (.iconst 0, 1), some (.goto 4, 3), none, none, some (.iconst 1, 1), some (.putfield 278, 3), none, none, some (.return_, 1)]
def Y_X12_clause : YM := (⟨RX12, "clause", "()V"⟩, prog_14_method_37_code, L_X12_clause, 1, none)
def f_X12_clause_75  (r0 : Option Nat) (M : Mem) : Option (Unit × Mem) :=
gI M r0 12 23 fun v1 =>
(if v1 ≤ 0 then
gR M r0 12 35 fun v2 =>
gI M r0 12 33 fun v3 =>
gI M r0 12 34 fun v4 =>
wI M v2 2 v3 v4 fun M1 =>
gR M1 r0 12 36 fun v5 =>
gI M1 r0 12 33 fun v6 =>
gI M1 r0 12 38 fun v7 =>
wI M1 v5 2 v6 v7 fun M2 =>
cR M2 r0 (1, 12) (cA (f_X12_next r0 M2) fun _ M3 =>
gI M3 r0 12 34 fun v8 =>
(if v8 = 0 then
cR M3 r0 (1, 12) (cA (f_X12_readsMove r0 M3) fun _ M4 =>
some ((), M4))
else
gI M3 r0 12 34 fun v9 =>
(if v9 = (5 : Int32) then
cR M3 r0 (1, 12) (cA (f_X12_opensFrame r0 (2 : Int32) M3) fun _ M5 =>
gI M5 r0 12 34 fun v10 =>
(if v10 = (5 : Int32) then
pI M5 r0 12 32 (0 : Int32) fun M6 =>
some ((), M6)
else
pI M5 r0 12 32 (1 : Int32) fun M7 =>
some ((), M7)))
else
cR M3 r0 (1, 12) (cA (f_X12_opensFrame r0 (1 : Int32) M3) fun _ M8 =>
gI M8 r0 12 34 fun v11 =>
(if v11 = (5 : Int32) then
pI M8 r0 12 32 (0 : Int32) fun M9 =>
some ((), M9)
else
pI M8 r0 12 32 (1 : Int32) fun M10 =>
some ((), M10))))))
else
some ((), M))
def f_X12_clause (r0 : Option Nat) (M : Mem) : Option (Unit × Mem) :=
gI M r0 12 21 fun v1 =>
(if v1 = (1 : Int32) then
gI M r0 12 22 fun v2 =>
(if v2 ≤ (5 : Int32) then
gI M r0 12 22 fun v3 =>
pI M r0 12 34 v3 fun M1 =>
gI M1 r0 12 34 fun v4 =>
cA (f_X12_in v4 (1 : Int32) (4 : Int32) M1) fun v5 M2 =>
(if v5 = 0 then
gI M2 r0 12 33 fun v6 =>
(if v6 = (20 : Int32) then
cR M2 r0 (1, 12) (cA (f_X12_errs r0 (5 : Int32) M2) fun _ M3 =>
f_X12_clause_75 r0 M3)
else
f_X12_clause_75 r0 M2)
else
gI M2 r0 12 34 fun v7 =>
cR M2 r0 (1, 12) (cA (f_X12_wasTold r0 v7 M2) fun v8 M4 =>
(if v8 = 0 then
gI M4 r0 12 33 fun v9 =>
(if v9 = (20 : Int32) then
cR M4 r0 (1, 12) (cA (f_X12_errs r0 (5 : Int32) M4) fun _ M5 =>
f_X12_clause_75 r0 M5)
else
f_X12_clause_75 r0 M4)
else
cR M4 r0 (1, 12) (cA (f_X12_errs r0 (4 : Int32) M4) fun _ M6 =>
f_X12_clause_75 r0 M6))))
else
cR M r0 (1, 12) (cA (f_X12_errs r0 (1 : Int32) M) fun _ M7 =>
some ((), M7)))
else
cR M r0 (1, 12) (cA (f_X12_errs r0 (1 : Int32) M) fun _ M8 =>
some ((), M8)))
def L_X12_askIsOver : List (Option (Instr × Nat)) := [some (.aload_n 0, 1), some (.invokevirtual 287, 3), none, none, some (.iconst 3, 1), some (.if_icmp .ne 34, 3), none, none, some (.aload_n 0, 1), some (.dup, 1), some (.getfield 243, 3), none, none, some (.iconst 1, 1), some (.isub, 1), some (.putfield 243, 3), none, none, some (.aload_n 0, 1), some (.dup, 1), some (.getfield 246, 3), none, none, some (.iconst 1, 1), some (.isub, 1), some (.putfield 246, 3), none, none, some (.aload_n 0, 1), some (.sipush 405, 3), none, none, some (.iconst 0, 1), some (.invokevirtual 265, 3), none, none, some (.goto (-36), 3), none, none, some (.aload_n 0, 1), some (.iconst 3, 1), some (.putfield 278, 3), none, none, some (.return_, 1)]
def Y_X12_askIsOver : YM := (⟨RX12, "askIsOver", "()V"⟩, prog_14_method_28_code, L_X12_askIsOver, 1, none)
def b_X12_askIsOver_0 (q0 : Option Nat → Mem → Option (Unit × Mem)) (r0 : Option Nat) (M : Mem) : Option (Unit × Mem) :=
cR M r0 (1, 12) (cA (f_X12_top r0 M) fun v1 M1 =>
(if v1 = (3 : Int32) then
gI M1 r0 12 26 fun v2 =>
pI M1 r0 12 26 (v2 - (1 : Int32)) fun M2 =>
gI M2 r0 12 25 fun v3 =>
pI M2 r0 12 25 (v3 - (1 : Int32)) fun M3 =>
cR M3 r0 (1, 12) (cA (f_X12_emits r0 (405 : Int32) (0 : Int32) M3) fun _ M4 =>
q0 r0 M4)
else
pI M1 r0 12 32 (3 : Int32) fun M5 =>
some ((), M5)))
def f_X12_askIsOver_0 (n : Nat) : Option Nat → Mem → Option (Unit × Mem) := lpN (fun _ _ => none) (b_X12_askIsOver_0 ) n
def f_X12_askIsOver (r0 : Option Nat) (M : Mem) : Option (Unit × Mem) :=
f_X12_askIsOver_0 FU r0 M
def L_X12_isAsking : List (Option (Instr × Nat)) := [some (.iload_n 0, 1), some (.bipush 60, 2), none, some (.if_icmp .eq 35, 3), none, none, some (.iload_n 0, 1), some (.bipush 62, 2), none, some (.if_icmp .eq 29, 3), none, none, some (.iload_n 0, 1), some (.bipush 61, 2), none, some (.if_icmp .eq 23, 3), none, none, some (.iload_n 0, 1), some (.bipush 35, 2), none, some (.if_icmp .eq 17, 3), none, none, some (.iload_n 0, 1), some (.sipush 300, 3), none, none, some (.if_icmp .eq 10, 3), none, none, some (.iload_n 0, 1), some (.sipush 301, 3), none, none, some (.if_icmp .ne 7, 3), none, none, some (.iconst 1, 1), some (.goto 4, 3), none, none, some (.iconst 0, 1), some (.ireturn, 1)]
def Y_X12_isAsking : YM := (⟨RX12, "isAsking", "(I)Z"⟩, prog_14_method_29_code, L_X12_isAsking, 1, some .boolean)
def f_X12_isAsking (i0 : Int32) (M : Mem) : Option (Int32 × Mem) :=
(if i0 = (60 : Int32) then
tv (1 : Int32) (some ((1 : Int32), M))
else
(if i0 = (62 : Int32) then
tv (1 : Int32) (some ((1 : Int32), M))
else
(if i0 = (61 : Int32) then
tv (1 : Int32) (some ((1 : Int32), M))
else
(if i0 = (35 : Int32) then
tv (1 : Int32) (some ((1 : Int32), M))
else
(if i0 = (300 : Int32) then
tv (1 : Int32) (some ((1 : Int32), M))
else
(if i0 = (301 : Int32) then
tv (1 : Int32) (some ((1 : Int32), M))
else
tv (0 : Int32) (some ((0 : Int32), M))))))))
def L_X12_goesOn : List (Option (Instr × Nat)) := [some (.aload_n 0, 1), some (.invokevirtual 287, 3), none, none, some (.istore_n 1, 1), some (.aload_n 0, 1), some (.getfield 218, 3), none, none, some (.iconst 3, 1), some (.if_icmp .ne 55, 3), none, none, some (.aload_n 0, 1), some (.getfield 230, 3), none, none, some (.bipush 43, 2), none, some (.if_icmp .eq 30, 3), none, none, some (.aload_n 0, 1), some (.getfield 230, 3), none, none, some (.bipush 45, 2), none, some (.if_icmp .eq 21, 3), none, none, some (.aload_n 0, 1), some (.getfield 230, 3), none, none, some (.bipush 42, 2), none, some (.if_icmp .eq 12, 3), none, none, some (.aload_n 0, 1), some (.getfield 230, 3), none, none, some (.bipush 47, 2), none, some (.if_icmp .ne 19, 3), none, none, some (.aload_n 0, 1), some (.aload_n 0, 1), some (.getfield 230, 3), none, none, some (.invokevirtual 291, 3), none, none, some (.aload_n 0, 1), some (.iconst 1, 1), some (.putfield 278, 3), none, none, some (.goto 188, 3), none, none, some (.iload_n 1, 1), some (.bipush 6, 2), none, some (.if_icmp .ne 48, 3), none, none, some (.aload_n 0, 1), some (.bipush 41, 2), none, some (.invokevirtual 284, 3), none, none, some (.ifCond .eq 39, 3), none, none, some (.aload_n 0, 1), some (.iconst 3, 1), some (.invokevirtual 269, 3), none, none, some (.aload_n 0, 1), some (.dup, 1), some (.getfield 243, 3), none, none, some (.iconst 1, 1), some (.isub, 1), some (.putfield 243, 3), none, none, some (.aload_n 0, 1), some (.dup, 1), some (.getfield 246, 3), none, none, some (.iconst 1, 1), some (.isub, 1), some (.putfield 246, 3), none, none, some (.aload_n 0, 1), some (.invokevirtual 255, 3), none, none, some (.aload_n 0, 1), some (.invokevirtual 281, 3), none, none, some (.goto 137, 3), none, none, some (.iload_n 1, 1), some (.iconst 4, 1), some (.if_icmp .ne 63, 3), none, none, some (.aload_n 0, 1), some (.getfield 218, 3), none, none, some (.iconst 3, 1), some (.if_icmp .ne 55, 3), none, none, some (.aload_n 0, 1), some (.getfield 230, 3), none, none, some (.invokestatic 294, 3), none, none, some (.ifCond .eq 45, 3), none, none, some (.aload_n 0, 1), some (.iconst 3, 1), some (.invokevirtual 269, 3), none, none, some (.aload_n 0, 1), some (.getfield 57, 3), none, none, some (.aload_n 0, 1), some (.getfield 243, 3), none, none, some (.aload_n 0, 1), some (.getfield 230, 3), none, none, some (.iastore, 1), some (.aload_n 0, 1), some (.getfield 54, 3), none, none, some (.aload_n 0, 1), some (.getfield 243, 3), none, none, some (.iconst 1, 1), some (.isub, 1), some (.iconst 5, 1), some (.iastore, 1), some (.aload_n 0, 1), some (.invokevirtual 255, 3), none, none, some (.aload_n 0, 1), some (.iconst 1, 1), some (.putfield 278, 3), none, none, some (.goto 72, 3), none, none, some (.iload_n 1, 1), some (.iconst 5, 1), some (.if_icmp .ne 41, 3), none, none, some (.aload_n 0, 1), some (.iconst 3, 1), some (.invokevirtual 269, 3), none, none, some (.aload_n 0, 1), some (.getfield 57, 3), none, none, some (.aload_n 0, 1), some (.getfield 243, 3), none, none, some (.iaload, 1), some (.istore_n 2, 1), some (.aload_n 0, 1), some (.dup, 1), some (.getfield 243, 3), none, none, some (.iconst 1, 1), some (.isub, 1), some (.putfield 243, 3), none, none, some (.aload_n 0, 1), some (.iload_n 2, 1), some (.iconst 0, 1), some (.invokevirtual 265, 3), none, none, some (.aload_n 0, 1), some (.invokevirtual 297, 3), none, none, some (.goto 29, 3), none, none, some (.iload_n 1, 1), some (.iconst 1, 1), some (.if_icmp .ne 19, 3), none, none, some (.aload_n 0, 1), some (.bipush 59, 2), none, some (.invokevirtual 284, 3), none, none, some (.ifCond .eq 10, 3), none, none, some (.aload_n 0, 1), some (.invokevirtual 300, 3), none, none, some (.goto 8, 3), none, none, some (.aload_n 0, 1), some (.iconst 1, 1), some (.invokevirtual 249, 3), none, none, some (.return_, 1)]
def Y_X12_goesOn : YM := (⟨RX12, "goesOn", "()V"⟩, prog_14_method_30_code, L_X12_goesOn, 3, none)
def f_X12_goesOn_181  (r0 : Option Nat) (i1 : Int32) (M : Mem) : Option (Unit × Mem) :=
(if i1 = (5 : Int32) then
cR M r0 (1, 12) (cA (f_X12_works r0 (3 : Int32) M) fun _ M1 =>
gR M1 r0 12 28 fun v1 =>
gI M1 r0 12 26 fun v2 =>
aI M1 v1 2 v2 fun v3 =>
gI M1 r0 12 26 fun v4 =>
pI M1 r0 12 26 (v4 - (1 : Int32)) fun M2 =>
cR M2 r0 (1, 12) (cA (f_X12_emits r0 v3 (0 : Int32) M2) fun _ M3 =>
cR M3 r0 (1, 12) (cA (f_X12_askIsOver r0 M3) fun _ M4 =>
some ((), M4))))
else
(if i1 = (1 : Int32) then
cR M r0 (1, 12) (cA (f_X12_isSign r0 (59 : Int32) M) fun v5 M5 =>
(if v5 = 0 then
cR M5 r0 (1, 12) (cA (f_X12_errs r0 (1 : Int32) M5) fun _ M6 =>
some ((), M6))
else
cR M5 r0 (1, 12) (cA (f_X12_clauseIsOver r0 M5) fun _ M7 =>
some ((), M7))))
else
cR M r0 (1, 12) (cA (f_X12_errs r0 (1 : Int32) M) fun _ M8 =>
some ((), M8))))
def f_X12_goesOn_116  (r0 : Option Nat) (i1 : Int32) (M : Mem) : Option (Unit × Mem) :=
(if i1 = (4 : Int32) then
gI M r0 12 21 fun v1 =>
(if v1 = (3 : Int32) then
gI M r0 12 22 fun v2 =>
cA (f_X12_isAsking v2 M) fun v3 M1 =>
(if v3 = 0 then
f_X12_goesOn_181 r0 i1 M1
else
cR M1 r0 (1, 12) (cA (f_X12_works r0 (3 : Int32) M1) fun _ M2 =>
gR M2 r0 12 28 fun v4 =>
gI M2 r0 12 26 fun v5 =>
gI M2 r0 12 22 fun v6 =>
wI M2 v4 2 v5 v6 fun M3 =>
gR M3 r0 12 27 fun v7 =>
gI M3 r0 12 26 fun v8 =>
wI M3 v7 2 (v8 - (1 : Int32)) (5 : Int32) fun M4 =>
cR M4 r0 (1, 12) (cA (f_X12_next r0 M4) fun _ M5 =>
pI M5 r0 12 32 (1 : Int32) fun M6 =>
some ((), M6))))
else
f_X12_goesOn_181 r0 i1 M)
else
f_X12_goesOn_181 r0 i1 M)
def f_X12_goesOn_65  (r0 : Option Nat) (i1 : Int32) (M : Mem) : Option (Unit × Mem) :=
(if i1 = (6 : Int32) then
cR M r0 (1, 12) (cA (f_X12_isSign r0 (41 : Int32) M) fun v1 M1 =>
(if v1 = 0 then
f_X12_goesOn_116 r0 i1 M1
else
cR M1 r0 (1, 12) (cA (f_X12_works r0 (3 : Int32) M1) fun _ M2 =>
gI M2 r0 12 26 fun v2 =>
pI M2 r0 12 26 (v2 - (1 : Int32)) fun M3 =>
gI M3 r0 12 25 fun v3 =>
pI M3 r0 12 25 (v3 - (1 : Int32)) fun M4 =>
cR M4 r0 (1, 12) (cA (f_X12_next r0 M4) fun _ M5 =>
cR M5 r0 (1, 12) (cA (f_X12_oneIsOver r0 M5) fun _ M6 =>
some ((), M6))))))
else
f_X12_goesOn_116 r0 i1 M)
def f_X12_goesOn (r0 : Option Nat) (M : Mem) : Option (Unit × Mem) :=
cR M r0 (1, 12) (cA (f_X12_top r0 M) fun v1 M1 =>
gI M1 r0 12 21 fun v2 =>
(if v2 = (3 : Int32) then
gI M1 r0 12 22 fun v3 =>
(if v3 = (43 : Int32) then
gI M1 r0 12 22 fun v4 =>
cR M1 r0 (1, 12) (cA (f_X12_waitsFor r0 v4 M1) fun _ M2 =>
pI M2 r0 12 32 (1 : Int32) fun M3 =>
some ((), M3))
else
gI M1 r0 12 22 fun v5 =>
(if v5 = (45 : Int32) then
gI M1 r0 12 22 fun v6 =>
cR M1 r0 (1, 12) (cA (f_X12_waitsFor r0 v6 M1) fun _ M4 =>
pI M4 r0 12 32 (1 : Int32) fun M5 =>
some ((), M5))
else
gI M1 r0 12 22 fun v7 =>
(if v7 = (42 : Int32) then
gI M1 r0 12 22 fun v8 =>
cR M1 r0 (1, 12) (cA (f_X12_waitsFor r0 v8 M1) fun _ M6 =>
pI M6 r0 12 32 (1 : Int32) fun M7 =>
some ((), M7))
else
gI M1 r0 12 22 fun v9 =>
(if v9 = (47 : Int32) then
gI M1 r0 12 22 fun v10 =>
cR M1 r0 (1, 12) (cA (f_X12_waitsFor r0 v10 M1) fun _ M8 =>
pI M8 r0 12 32 (1 : Int32) fun M9 =>
some ((), M9))
else
f_X12_goesOn_65 r0 v1 M1))))
else
f_X12_goesOn_65 r0 v1 M1))
theorem fl_12_313 : FLk RX12 313 12 34 false := ⟨_, rfl, by decide, (gw_in 1150 (by decide +kernel) (by decide +kernel)), rfl⟩
set_option maxRecDepth 30000 in
theorem ok_X12_readsMove : okY Y_X12_readsMove := ⟨(gw_in 1479 rfl rfl), (gw_in 14 (by decide +kernel) (by decide +kernel)), by decide +kernel, by decide +kernel⟩
theorem ml_12_319 : MLv RX12 319 Y_X12_readsMove 0 := ⟨(gw_in 1476 (by decide +kernel) (by decide +kernel)), (gw_in 1478 (by decide +kernel) (by decide +kernel)), (gw_sel (n := 70) 68 (by decide +kernel) (by decide +kernel)), ok_X12_readsMove, by decide +kernel⟩
set_option maxRecDepth 30000 in
theorem ok_X12_wasTold : okY Y_X12_wasTold := ⟨(gw_in 1475 rfl rfl), (gw_in 14 (by decide +kernel) (by decide +kernel)), by decide +kernel, by decide +kernel⟩
theorem ml_12_316 : MLv RX12 316 Y_X12_wasTold 1 := ⟨(gw_in 1472 (by decide +kernel) (by decide +kernel)), (gw_in 1474 (by decide +kernel) (by decide +kernel)), (gw_sel (n := 70) 67 (by decide +kernel) (by decide +kernel)), ok_X12_wasTold, by decide +kernel⟩
set_option maxRecDepth 30000 in
theorem ok_X12_askIsOver : okY Y_X12_askIsOver := ⟨(gw_in 1459 rfl rfl), (gw_in 14 (by decide +kernel) (by decide +kernel)), by decide +kernel, by decide +kernel⟩
theorem ml_12_297 : MLv RX12 297 Y_X12_askIsOver 0 := ⟨(gw_in 1456 (by decide +kernel) (by decide +kernel)), (gw_in 1458 (by decide +kernel) (by decide +kernel)), (gw_sel (n := 70) 63 (by decide +kernel) (by decide +kernel)), ok_X12_askIsOver, by decide +kernel⟩
set_option maxRecDepth 30000 in
theorem ok_X12_isAsking : okY Y_X12_isAsking := ⟨(gw_in 1455 rfl rfl), (gw_in 14 (by decide +kernel) (by decide +kernel)), by decide +kernel, by decide +kernel⟩
theorem ml_12_294 : MLs RX12 294 Y_X12_isAsking 1 := ⟨(gw_in 1453 (by decide +kernel) (by decide +kernel)), (gw_in 1454 (by decide +kernel) (by decide +kernel)), ok_X12_isAsking, by decide +kernel⟩
set_option maxRecDepth 20000 in
theorem dk_X12_wasTold : ∀ pc i, L_X12_wasTold[pc]? = some (some i) → decode prog_14_method_36_code pc = .ok i := dk_of (by decide +kernel)
theorem sb_X12_wasTold_4 {d : Nat} {P : Int32 → Mem → Prop} {q4 : Option Nat → Int32 → Int32 → Int32 → Mem → Option (Int32 × Mem)} (hq4 : ∀ (r0 : Option Nat) (i1 : Int32) (i2 : Int32) (i3 : Int32) (M : Mem), FQ (q4 r0 i1 i2 i3 M) P → wp Y_X12_wasTold (rmD d 0 0) (FM (QI P) 0 0) 0 0 4 [some (va_rf r0), some (.int i1), some (.int i2), some (.int i3)] [] M) (r0 : Option Nat) (i1 : Int32) (i2 : Int32) (i3 : Int32) (M : Mem) (h : FQ (b_X12_wasTold_4 q4 r0 i1 i2 i3 M) P) : wp Y_X12_wasTold (rmD d 0 0) (FM (QI P) 0 0) 0 0 4 [some (va_rf r0), some (.int i1), some (.int i2), some (.int i3)] [] M := by
  unfold b_X12_wasTold_4 at h
  refine r_iload_n rfl rfl ?_
  refine r_aload_n rfl rfl ?_
  refine r_getI rfl fl_12_303 rfl h (fun v1 h => ?_)
  refine r_ic_ge 38 rfl (by decide) h (fun h => ?_) (fun h => ?_)
  · refine r_iload_n rfl rfl ?_
    exact r_zret rfl rfl ⟨Nat.le_of_ble_eq_true rfl, Nat.le_of_ble_eq_true rfl⟩ h
  · refine r_iload_n rfl rfl ?_
    refine r_if_ne 26 rfl (by decide) h (fun h => ?_) (fun h => ?_)
    · refine r_aload_n rfl rfl ?_
      refine r_getR rfl fl_12_66 rfl h (fun v2 h => ?_)
      refine r_iload_n rfl rfl ?_
      refine r_iald rfl h (fun v3 h => ?_)
      refine r_iload_n rfl rfl ?_
      refine r_ic_ne 30 rfl (by decide) h (fun h => ?_) (fun h => ?_)
      · refine r_iconst (v := 1) rfl (by decide) ?_
        refine r_goto 31 rfl (by decide) ?_
        refine r_istore_n (lo' := [some (va_rf r0), some (.int i1), some (.int (1 : Int32)), some (.int i3)]) rfl rfl rfl rfl ?_
        refine r_iinc (v := 1) (lo' := [some (va_rf r0), some (.int i1), some (.int (1 : Int32)), some (.int (i3 + (1 : Int32)))]) rfl rfl rfl (by decide) rfl rfl ?_
        refine r_goto 4 rfl (by decide) ?_
        exact hq4 _ _ _ _ _ h
      · refine r_iconst (v := 0) rfl (by decide) ?_
        refine r_istore_n (lo' := [some (va_rf r0), some (.int i1), some (.int (0 : Int32)), some (.int i3)]) rfl rfl rfl rfl ?_
        refine r_iinc (v := 1) (lo' := [some (va_rf r0), some (.int i1), some (.int (0 : Int32)), some (.int (i3 + (1 : Int32)))]) rfl rfl rfl (by decide) rfl rfl ?_
        refine r_goto 4 rfl (by decide) ?_
        exact hq4 _ _ _ _ _ h
    · refine r_iconst (v := 1) rfl (by decide) ?_
      refine r_goto 31 rfl (by decide) ?_
      refine r_istore_n (lo' := [some (va_rf r0), some (.int i1), some (.int (1 : Int32)), some (.int i3)]) rfl rfl rfl rfl ?_
      refine r_iinc (v := 1) (lo' := [some (va_rf r0), some (.int i1), some (.int (1 : Int32)), some (.int (i3 + (1 : Int32)))]) rfl rfl rfl (by decide) rfl rfl ?_
      refine r_goto 4 rfl (by decide) ?_
      exact hq4 _ _ _ _ _ h
theorem s_X12_wasTold_4 {d : Nat} {P : Int32 → Mem → Prop}   : ∀ (k : Nat) (r0 : Option Nat) (i1 : Int32) (i2 : Int32) (i3 : Int32) (M : Mem), FQ (f_X12_wasTold_4  k r0 i1 i2 i3 M) P → wp Y_X12_wasTold (rmD d 0 0) (FM (QI P) 0 0) 0 0 4 [some (va_rf r0), some (.int i1), some (.int i2), some (.int i3)] [] M
  | 0, _, _, _, _, _, h => h.no
  | k + 1, r0, i1, i2, i3, M, h => sb_X12_wasTold_4  (s_X12_wasTold_4  k) r0 i1 i2 i3 M h
theorem s_X12_wasTold {d : Nat} {P : Int32 → Mem → Prop} {r0 : Option Nat} {i1 : Int32} {M : Mem} (h : FQ (f_X12_wasTold r0 i1 M) P) : Con Y_X12_wasTold d 0 0 [va_rf r0, .int i1] M (QI P) := by
  refine Con.of [some (va_rf r0), some (.int i1), none, none] (by decide +kernel) dk_X12_wasTold (by simp [Y_X12_wasTold, cat_rf, cat_i, cat_l]) (by simp [loE, Y_X12_wasTold, cat_rf, cat_i, cat_l, List.replicate]) ?_
  unfold f_X12_wasTold at h
  refine r_iconst (v := 0) rfl (by decide) ?_
  refine r_istore_n (lo' := [some (va_rf r0), some (.int i1), some (.int (0 : Int32)), none]) rfl rfl rfl rfl ?_
  refine r_iconst (v := 0) rfl (by decide) ?_
  refine r_istore_n (lo' := [some (va_rf r0), some (.int i1), some (.int (0 : Int32)), some (.int (0 : Int32))]) rfl rfl rfl rfl ?_
  exact s_X12_wasTold_4 FU _ _ _ _ _ h
set_option maxRecDepth 20000 in
theorem dk_X12_clause : ∀ pc i, L_X12_clause[pc]? = some (some i) → decode prog_14_method_37_code pc = .ok i := dk_of (by decide +kernel)
theorem s_X12_clause_75 {d : Nat} {P : Unit → Mem → Prop}   (r0 : Option Nat) (M : Mem) (h : FQ (f_X12_clause_75  r0 M) P) : wp Y_X12_clause (rmD (d + 5) 0 0) (FM (QV P) 0 0) 0 0 75 [some (va_rf r0)] [] M := by
  unfold f_X12_clause_75 at h
  refine r_aload_n rfl rfl ?_
  refine r_getI rfl fl_12_234 rfl h (fun v1 h => ?_)
  refine r_if_le 83 rfl (by decide) h (fun h => ?_) (fun h => ?_)
  · refine r_aload_n rfl rfl ?_
    refine r_getR rfl fl_12_66 rfl h (fun v2 h => ?_)
    refine r_aload_n rfl rfl ?_
    refine r_getI rfl fl_12_303 rfl h (fun v3 h => ?_)
    refine r_aload_n rfl rfl ?_
    refine r_getI rfl fl_12_313 rfl h (fun v4 h => ?_)
    refine r_iast rfl h (fun M1 h => ?_)
    refine r_aload_n rfl rfl ?_
    refine r_getR rfl fl_12_69 rfl h (fun v5 h => ?_)
    refine r_aload_n rfl rfl ?_
    refine r_getI rfl fl_12_303 rfl h (fun v6 h => ?_)
    refine r_aload_n rfl rfl ?_
    refine r_getI rfl fl_12_240 rfl h (fun v7 h => ?_)
    refine r_iast rfl h (fun M2 h => ?_)
    refine r_aload_n rfl rfl ?_
    refine r_cv_v (vs := []) rfl ml_12_255 rfl (rOk.of rfl) ⟨Nat.zero_le _, Nat.zero_le _⟩ rfl rfl rfl h s_X12_next (fun _ M3 h => ?_)
    refine r_aload_n rfl rfl ?_
    refine r_getI rfl fl_12_313 rfl h (fun v8 h => ?_)
    refine r_if_ne 127 rfl (by decide) h (fun h => ?_) (fun h => ?_)
    · refine r_aload_n rfl rfl ?_
      refine r_cv_v (vs := []) rfl ml_12_319 rfl (rOk.of rfl) ⟨Nat.zero_le _, Nat.zero_le _⟩ rfl rfl rfl h s_X12_readsMove (fun _ M4 h => ?_)
      refine r_goto 161 rfl (by decide) ?_
      exact r_vret rfl rfl ⟨Nat.le_of_ble_eq_true rfl, Nat.le_of_ble_eq_true rfl⟩ h
    · refine r_aload_n rfl rfl ?_
      refine r_aload_n rfl rfl ?_
      refine r_getI rfl fl_12_313 rfl h (fun v9 h => ?_)
      refine r_iconst (v := 5) rfl (by decide) ?_
      refine r_ic_ne 140 rfl (by decide) h (fun h => ?_) (fun h => ?_)
      · refine r_iconst (v := 2) rfl (by decide) ?_
        refine r_goto 141 rfl (by decide) ?_
        refine r_cv_v (vs := [.int (2 : Int32)]) rfl ml_12_252 rfl (rOk.of rfl) ⟨Nat.zero_le _, Nat.zero_le _⟩ rfl rfl rfl h s_X12_opensFrame (fun _ M5 h => ?_)
        refine r_aload_n rfl rfl ?_
        refine r_aload_n rfl rfl ?_
        refine r_getI rfl fl_12_313 rfl h (fun v10 h => ?_)
        refine r_iconst (v := 5) rfl (by decide) ?_
        refine r_ic_ne 157 rfl (by decide) h (fun h => ?_) (fun h => ?_)
        · refine r_iconst (v := 0) rfl (by decide) ?_
          refine r_goto 158 rfl (by decide) ?_
          refine r_putI rfl fl_12_278 (fun z => by cases z) rfl h (fun M6 h => ?_)
          exact r_vret rfl rfl ⟨Nat.le_of_ble_eq_true rfl, Nat.le_of_ble_eq_true rfl⟩ h
        · refine r_iconst (v := 1) rfl (by decide) ?_
          refine r_putI rfl fl_12_278 (fun z => by cases z) rfl h (fun M7 h => ?_)
          exact r_vret rfl rfl ⟨Nat.le_of_ble_eq_true rfl, Nat.le_of_ble_eq_true rfl⟩ h
      · refine r_iconst (v := 1) rfl (by decide) ?_
        refine r_cv_v (vs := [.int (1 : Int32)]) rfl ml_12_252 rfl (rOk.of rfl) ⟨Nat.zero_le _, Nat.zero_le _⟩ rfl rfl rfl h s_X12_opensFrame (fun _ M8 h => ?_)
        refine r_aload_n rfl rfl ?_
        refine r_aload_n rfl rfl ?_
        refine r_getI rfl fl_12_313 rfl h (fun v11 h => ?_)
        refine r_iconst (v := 5) rfl (by decide) ?_
        refine r_ic_ne 157 rfl (by decide) h (fun h => ?_) (fun h => ?_)
        · refine r_iconst (v := 0) rfl (by decide) ?_
          refine r_goto 158 rfl (by decide) ?_
          refine r_putI rfl fl_12_278 (fun z => by cases z) rfl h (fun M9 h => ?_)
          exact r_vret rfl rfl ⟨Nat.le_of_ble_eq_true rfl, Nat.le_of_ble_eq_true rfl⟩ h
        · refine r_iconst (v := 1) rfl (by decide) ?_
          refine r_putI rfl fl_12_278 (fun z => by cases z) rfl h (fun M10 h => ?_)
          exact r_vret rfl rfl ⟨Nat.le_of_ble_eq_true rfl, Nat.le_of_ble_eq_true rfl⟩ h
  · exact r_vret rfl rfl ⟨Nat.le_of_ble_eq_true rfl, Nat.le_of_ble_eq_true rfl⟩ h
theorem s_X12_clause {d : Nat} {P : Unit → Mem → Prop} {r0 : Option Nat} {M : Mem} (h : FQ (f_X12_clause r0 M) P) : Con Y_X12_clause (d + 5) 0 0 [va_rf r0] M (QV P) := by
  refine Con.of [some (va_rf r0)] (by decide +kernel) dk_X12_clause (by simp [Y_X12_clause, cat_rf, cat_i, cat_l]) (by simp [loE, Y_X12_clause, cat_rf, cat_i, cat_l, List.replicate]) ?_
  unfold f_X12_clause at h
  refine r_aload_n rfl rfl ?_
  refine r_getI rfl fl_12_218 rfl h (fun v1 h => ?_)
  refine r_iconst (v := 1) rfl (by decide) ?_
  refine r_ic_ne 16 rfl (by decide) h (fun h => ?_) (fun h => ?_)
  · refine r_aload_n rfl rfl ?_
    refine r_getI rfl fl_12_230 rfl h (fun v2 h => ?_)
    refine r_iconst (v := 5) rfl (by decide) ?_
    refine r_ic_le 22 rfl (by decide) h (fun h => ?_) (fun h => ?_)
    · refine r_aload_n rfl rfl ?_
      refine r_aload_n rfl rfl ?_
      refine r_getI rfl fl_12_230 rfl h (fun v3 h => ?_)
      refine r_putI rfl fl_12_313 (fun z => by cases z) rfl h (fun M1 h => ?_)
      refine r_aload_n rfl rfl ?_
      refine r_getI rfl fl_12_313 rfl h (fun v4 h => ?_)
      refine r_iconst (v := 1) rfl (by decide) ?_
      refine r_iconst (v := 4) rfl (by decide) ?_
      refine r_cs_i (vs := [.int v4, .int (1 : Int32), .int (4 : Int32)]) rfl ml_12_151 (rOk.of rfl) ⟨Nat.zero_le _, Nat.zero_le _⟩ rfl rfl rfl h s_X12_in (fun v5 M2 h => ?_)
      refine r_if_eq 61 rfl (by decide) h (fun h => ?_) (fun h => ?_)
      · refine r_aload_n rfl rfl ?_
        refine r_getI rfl fl_12_303 rfl h (fun v6 h => ?_)
        refine r_bipush (v := 20) rfl (by decide) ?_
        refine r_ic_ne 75 rfl (by decide) h (fun h => ?_) (fun h => ?_)
        · refine r_aload_n rfl rfl ?_
          refine r_iconst (v := 5) rfl (by decide) ?_
          refine r_cv_v (vs := [.int (5 : Int32)]) rfl ml_12_249 rfl (rOk.of rfl) ⟨Nat.zero_le _, Nat.zero_le _⟩ rfl rfl rfl h s_X12_errs (fun _ M3 h => ?_)
          exact s_X12_clause_75 _ _ h
        · exact s_X12_clause_75 _ _ h
      · refine r_aload_n rfl rfl ?_
        refine r_aload_n rfl rfl ?_
        refine r_getI rfl fl_12_313 rfl h (fun v7 h => ?_)
        refine r_cv_i (vs := [.int v7]) rfl ml_12_316 rfl (rOk.of rfl) ⟨Nat.zero_le _, Nat.zero_le _⟩ rfl rfl rfl h s_X12_wasTold (fun v8 M4 h => ?_)
        refine r_if_eq 61 rfl (by decide) h (fun h => ?_) (fun h => ?_)
        · refine r_aload_n rfl rfl ?_
          refine r_getI rfl fl_12_303 rfl h (fun v9 h => ?_)
          refine r_bipush (v := 20) rfl (by decide) ?_
          refine r_ic_ne 75 rfl (by decide) h (fun h => ?_) (fun h => ?_)
          · refine r_aload_n rfl rfl ?_
            refine r_iconst (v := 5) rfl (by decide) ?_
            refine r_cv_v (vs := [.int (5 : Int32)]) rfl ml_12_249 rfl (rOk.of rfl) ⟨Nat.zero_le _, Nat.zero_le _⟩ rfl rfl rfl h s_X12_errs (fun _ M5 h => ?_)
            exact s_X12_clause_75 _ _ h
          · exact s_X12_clause_75 _ _ h
        · refine r_aload_n rfl rfl ?_
          refine r_iconst (v := 4) rfl (by decide) ?_
          refine r_cv_v (vs := [.int (4 : Int32)]) rfl ml_12_249 rfl (rOk.of rfl) ⟨Nat.zero_le _, Nat.zero_le _⟩ rfl rfl rfl h s_X12_errs (fun _ M6 h => ?_)
          refine r_goto 75 rfl (by decide) ?_
          exact s_X12_clause_75 _ _ h
    · refine r_aload_n rfl rfl ?_
      refine r_iconst (v := 1) rfl (by decide) ?_
      refine r_cv_v (vs := [.int (1 : Int32)]) rfl ml_12_249 rfl (rOk.of rfl) ⟨Nat.zero_le _, Nat.zero_le _⟩ rfl rfl rfl h s_X12_errs (fun _ M7 h => ?_)
      exact r_vret rfl rfl ⟨Nat.le_of_ble_eq_true rfl, Nat.le_of_ble_eq_true rfl⟩ h
  · refine r_aload_n rfl rfl ?_
    refine r_iconst (v := 1) rfl (by decide) ?_
    refine r_cv_v (vs := [.int (1 : Int32)]) rfl ml_12_249 rfl (rOk.of rfl) ⟨Nat.zero_le _, Nat.zero_le _⟩ rfl rfl rfl h s_X12_errs (fun _ M8 h => ?_)
    exact r_vret rfl rfl ⟨Nat.le_of_ble_eq_true rfl, Nat.le_of_ble_eq_true rfl⟩ h
set_option maxRecDepth 20000 in
theorem dk_X12_askIsOver : ∀ pc i, L_X12_askIsOver[pc]? = some (some i) → decode prog_14_method_28_code pc = .ok i := dk_of (by decide +kernel)
theorem sb_X12_askIsOver_0 {d : Nat} {P : Unit → Mem → Prop} {q0 : Option Nat → Mem → Option (Unit × Mem)} (hq0 : ∀ (r0 : Option Nat) (M : Mem), FQ (q0 r0 M) P → wp Y_X12_askIsOver (rmD (d + 1) 0 0) (FM (QV P) 0 0) 0 0 0 [some (va_rf r0)] [] M) (r0 : Option Nat) (M : Mem) (h : FQ (b_X12_askIsOver_0 q0 r0 M) P) : wp Y_X12_askIsOver (rmD (d + 1) 0 0) (FM (QV P) 0 0) 0 0 0 [some (va_rf r0)] [] M := by
  unfold b_X12_askIsOver_0 at h
  refine r_aload_n rfl rfl ?_
  refine r_cv_i (vs := []) rfl ml_12_287 rfl (rOk.of rfl) ⟨Nat.zero_le _, Nat.zero_le _⟩ rfl rfl rfl h s_X12_top (fun v1 M1 h => ?_)
  refine r_iconst (v := 3) rfl (by decide) ?_
  refine r_ic_ne 39 rfl (by decide) h (fun h => ?_) (fun h => ?_)
  · refine r_aload_n rfl rfl ?_
    refine r_dup rfl (cat_rf _) ?_
    refine r_getI rfl fl_12_243 rfl h (fun v2 h => ?_)
    refine r_iconst (v := 1) rfl (by decide) ?_
    refine r_isub rfl ?_
    refine r_putI rfl fl_12_243 (fun z => by cases z) rfl h (fun M2 h => ?_)
    refine r_aload_n rfl rfl ?_
    refine r_dup rfl (cat_rf _) ?_
    refine r_getI rfl fl_12_246 rfl h (fun v3 h => ?_)
    refine r_iconst (v := 1) rfl (by decide) ?_
    refine r_isub rfl ?_
    refine r_putI rfl fl_12_246 (fun z => by cases z) rfl h (fun M3 h => ?_)
    refine r_aload_n rfl rfl ?_
    refine r_sipush (v := 405) rfl (by decide) ?_
    refine r_iconst (v := 0) rfl (by decide) ?_
    refine r_cv_v (vs := [.int (405 : Int32), .int (0 : Int32)]) rfl ml_12_265 rfl (rOk.of rfl) ⟨Nat.zero_le _, Nat.zero_le _⟩ rfl rfl rfl h s_X12_emits (fun _ M4 h => ?_)
    refine r_goto 0 rfl (by decide) ?_
    exact hq0 _ _ h
  · refine r_aload_n rfl rfl ?_
    refine r_iconst (v := 3) rfl (by decide) ?_
    refine r_putI rfl fl_12_278 (fun z => by cases z) rfl h (fun M5 h => ?_)
    exact r_vret rfl rfl ⟨Nat.le_of_ble_eq_true rfl, Nat.le_of_ble_eq_true rfl⟩ h
theorem s_X12_askIsOver_0 {d : Nat} {P : Unit → Mem → Prop}   : ∀ (k : Nat) (r0 : Option Nat) (M : Mem), FQ (f_X12_askIsOver_0  k r0 M) P → wp Y_X12_askIsOver (rmD (d + 1) 0 0) (FM (QV P) 0 0) 0 0 0 [some (va_rf r0)] [] M
  | 0, _, _, h => h.no
  | k + 1, r0, M, h => sb_X12_askIsOver_0  (s_X12_askIsOver_0  k) r0 M h
theorem s_X12_askIsOver {d : Nat} {P : Unit → Mem → Prop} {r0 : Option Nat} {M : Mem} (h : FQ (f_X12_askIsOver r0 M) P) : Con Y_X12_askIsOver (d + 1) 0 0 [va_rf r0] M (QV P) := by
  refine Con.of [some (va_rf r0)] (by decide +kernel) dk_X12_askIsOver (by simp [Y_X12_askIsOver, cat_rf, cat_i, cat_l]) (by simp [loE, Y_X12_askIsOver, cat_rf, cat_i, cat_l, List.replicate]) ?_
  unfold f_X12_askIsOver at h
  exact s_X12_askIsOver_0 FU _ _ h
set_option maxRecDepth 20000 in
theorem dk_X12_isAsking : ∀ pc i, L_X12_isAsking[pc]? = some (some i) → decode prog_14_method_29_code pc = .ok i := dk_of (by decide +kernel)
theorem s_X12_isAsking {d : Nat} {P : Int32 → Mem → Prop} {i0 : Int32} {M : Mem} (h : FQ (f_X12_isAsking i0 M) P) : Con Y_X12_isAsking d 0 0 [.int i0] M (QI P) := by
  refine Con.of [some (.int i0)] (by decide +kernel) dk_X12_isAsking (by simp [Y_X12_isAsking, cat_rf, cat_i, cat_l]) (by simp [loE, Y_X12_isAsking, cat_rf, cat_i, cat_l, List.replicate]) ?_
  unfold f_X12_isAsking at h
  refine r_iload_n rfl rfl ?_
  refine r_bipush (v := 60) rfl (by decide) ?_
  refine r_ic_eq 38 rfl (by decide) h (fun h => ?_) (fun h => ?_)
  · refine r_iconst (v := 1) rfl (by decide) ?_
    refine r_goto 43 rfl (by decide) ?_
    exact r_zret rfl rfl ⟨Nat.le_of_ble_eq_true rfl, Nat.le_of_ble_eq_true rfl⟩ h
  · refine r_iload_n rfl rfl ?_
    refine r_bipush (v := 62) rfl (by decide) ?_
    refine r_ic_eq 38 rfl (by decide) h (fun h => ?_) (fun h => ?_)
    · refine r_iconst (v := 1) rfl (by decide) ?_
      refine r_goto 43 rfl (by decide) ?_
      exact r_zret rfl rfl ⟨Nat.le_of_ble_eq_true rfl, Nat.le_of_ble_eq_true rfl⟩ h
    · refine r_iload_n rfl rfl ?_
      refine r_bipush (v := 61) rfl (by decide) ?_
      refine r_ic_eq 38 rfl (by decide) h (fun h => ?_) (fun h => ?_)
      · refine r_iconst (v := 1) rfl (by decide) ?_
        refine r_goto 43 rfl (by decide) ?_
        exact r_zret rfl rfl ⟨Nat.le_of_ble_eq_true rfl, Nat.le_of_ble_eq_true rfl⟩ h
      · refine r_iload_n rfl rfl ?_
        refine r_bipush (v := 35) rfl (by decide) ?_
        refine r_ic_eq 38 rfl (by decide) h (fun h => ?_) (fun h => ?_)
        · refine r_iconst (v := 1) rfl (by decide) ?_
          refine r_goto 43 rfl (by decide) ?_
          exact r_zret rfl rfl ⟨Nat.le_of_ble_eq_true rfl, Nat.le_of_ble_eq_true rfl⟩ h
        · refine r_iload_n rfl rfl ?_
          refine r_sipush (v := 300) rfl (by decide) ?_
          refine r_ic_eq 38 rfl (by decide) h (fun h => ?_) (fun h => ?_)
          · refine r_iconst (v := 1) rfl (by decide) ?_
            refine r_goto 43 rfl (by decide) ?_
            exact r_zret rfl rfl ⟨Nat.le_of_ble_eq_true rfl, Nat.le_of_ble_eq_true rfl⟩ h
          · refine r_iload_n rfl rfl ?_
            refine r_sipush (v := 301) rfl (by decide) ?_
            refine r_ic_ne 42 rfl (by decide) h (fun h => ?_) (fun h => ?_)
            · refine r_iconst (v := 1) rfl (by decide) ?_
              refine r_goto 43 rfl (by decide) ?_
              exact r_zret rfl rfl ⟨Nat.le_of_ble_eq_true rfl, Nat.le_of_ble_eq_true rfl⟩ h
            · refine r_iconst (v := 0) rfl (by decide) ?_
              exact r_zret rfl rfl ⟨Nat.le_of_ble_eq_true rfl, Nat.le_of_ble_eq_true rfl⟩ h
set_option maxRecDepth 20000 in
theorem dk_X12_goesOn : ∀ pc i, L_X12_goesOn[pc]? = some (some i) → decode prog_14_method_30_code pc = .ok i := dk_of (by decide +kernel)
theorem s_X12_goesOn_181 {d : Nat} {P : Unit → Mem → Prop}   (r0 : Option Nat) (i1 : Int32) (M : Mem) (h : FQ (f_X12_goesOn_181  r0 i1 M) P) : wp Y_X12_goesOn (rmD (d + 4) 0 0) (FM (QV P) 0 0) 0 0 181 [some (va_rf r0), some (.int i1), none] [] M := by
  unfold f_X12_goesOn_181 at h
  refine r_iload_n rfl rfl ?_
  refine r_iconst (v := 5) rfl (by decide) ?_
  refine r_ic_ne 224 rfl (by decide) h (fun h => ?_) (fun h => ?_)
  · refine r_aload_n rfl rfl ?_
    refine r_iconst (v := 3) rfl (by decide) ?_
    refine r_cv_v (vs := [.int (3 : Int32)]) rfl ml_12_269 rfl (rOk.of rfl) ⟨Nat.zero_le _, Nat.zero_le _⟩ rfl rfl rfl h s_X12_works (fun _ M1 h => ?_)
    refine r_aload_n rfl rfl ?_
    refine r_getR rfl fl_12_57 rfl h (fun v1 h => ?_)
    refine r_aload_n rfl rfl ?_
    refine r_getI rfl fl_12_243 rfl h (fun v2 h => ?_)
    refine r_iald rfl h (fun v3 h => ?_)
    refine r_istore_n (lo' := [some (va_rf r0), some (.int i1), some (.int v3)]) rfl rfl rfl rfl ?_
    refine r_aload_n rfl rfl ?_
    refine r_dup rfl (cat_rf _) ?_
    refine r_getI rfl fl_12_243 rfl h (fun v4 h => ?_)
    refine r_iconst (v := 1) rfl (by decide) ?_
    refine r_isub rfl ?_
    refine r_putI rfl fl_12_243 (fun z => by cases z) rfl h (fun M2 h => ?_)
    refine r_aload_n rfl rfl ?_
    refine r_iload_n rfl rfl ?_
    refine r_iconst (v := 0) rfl (by decide) ?_
    refine r_cv_v (vs := [.int v3, .int (0 : Int32)]) rfl ml_12_265 rfl (rOk.of rfl) ⟨Nat.zero_le _, Nat.zero_le _⟩ rfl rfl rfl h s_X12_emits (fun _ M3 h => ?_)
    refine r_aload_n rfl rfl ?_
    refine r_cv_v (vs := []) rfl ml_12_297 rfl (rOk.of rfl) ⟨Nat.zero_le _, Nat.zero_le _⟩ rfl rfl rfl h s_X12_askIsOver (fun _ M4 h => ?_)
    refine r_goto 250 rfl (by decide) ?_
    exact r_vret rfl rfl ⟨Nat.le_of_ble_eq_true rfl, Nat.le_of_ble_eq_true rfl⟩ h
  · refine r_iload_n rfl rfl ?_
    refine r_iconst (v := 1) rfl (by decide) ?_
    refine r_ic_ne 245 rfl (by decide) h (fun h => ?_) (fun h => ?_)
    · refine r_aload_n rfl rfl ?_
      refine r_bipush (v := 59) rfl (by decide) ?_
      refine r_cv_i (vs := [.int (59 : Int32)]) rfl ml_12_284 rfl (rOk.of rfl) ⟨Nat.zero_le _, Nat.zero_le _⟩ rfl rfl rfl h s_X12_isSign (fun v5 M5 h => ?_)
      refine r_if_eq 245 rfl (by decide) h (fun h => ?_) (fun h => ?_)
      · refine r_aload_n rfl rfl ?_
        refine r_iconst (v := 1) rfl (by decide) ?_
        refine r_cv_v (vs := [.int (1 : Int32)]) rfl ml_12_249 rfl (rOk.of rfl) ⟨Nat.zero_le _, Nat.zero_le _⟩ rfl rfl rfl h s_X12_errs (fun _ M6 h => ?_)
        exact r_vret rfl rfl ⟨Nat.le_of_ble_eq_true rfl, Nat.le_of_ble_eq_true rfl⟩ h
      · refine r_aload_n rfl rfl ?_
        refine r_cv_v (vs := []) rfl ml_12_300 rfl (rOk.of rfl) ⟨Nat.zero_le _, Nat.zero_le _⟩ rfl rfl rfl h s_X12_clauseIsOver (fun _ M7 h => ?_)
        refine r_goto 250 rfl (by decide) ?_
        exact r_vret rfl rfl ⟨Nat.le_of_ble_eq_true rfl, Nat.le_of_ble_eq_true rfl⟩ h
    · refine r_aload_n rfl rfl ?_
      refine r_iconst (v := 1) rfl (by decide) ?_
      refine r_cv_v (vs := [.int (1 : Int32)]) rfl ml_12_249 rfl (rOk.of rfl) ⟨Nat.zero_le _, Nat.zero_le _⟩ rfl rfl rfl h s_X12_errs (fun _ M8 h => ?_)
      exact r_vret rfl rfl ⟨Nat.le_of_ble_eq_true rfl, Nat.le_of_ble_eq_true rfl⟩ h
theorem s_X12_goesOn_116 {d : Nat} {P : Unit → Mem → Prop}   (r0 : Option Nat) (i1 : Int32) (M : Mem) (h : FQ (f_X12_goesOn_116  r0 i1 M) P) : wp Y_X12_goesOn (rmD (d + 4) 0 0) (FM (QV P) 0 0) 0 0 116 [some (va_rf r0), some (.int i1), none] [] M := by
  unfold f_X12_goesOn_116 at h
  refine r_iload_n rfl rfl ?_
  refine r_iconst (v := 4) rfl (by decide) ?_
  refine r_ic_ne 181 rfl (by decide) h (fun h => ?_) (fun h => ?_)
  · refine r_aload_n rfl rfl ?_
    refine r_getI rfl fl_12_218 rfl h (fun v1 h => ?_)
    refine r_iconst (v := 3) rfl (by decide) ?_
    refine r_ic_ne 181 rfl (by decide) h (fun h => ?_) (fun h => ?_)
    · refine r_aload_n rfl rfl ?_
      refine r_getI rfl fl_12_230 rfl h (fun v2 h => ?_)
      refine r_cs_i (vs := [.int v2]) rfl ml_12_294 (rOk.of rfl) ⟨Nat.zero_le _, Nat.zero_le _⟩ rfl rfl rfl h s_X12_isAsking (fun v3 M1 h => ?_)
      refine r_if_eq 181 rfl (by decide) h (fun h => ?_) (fun h => ?_)
      · exact s_X12_goesOn_181 _ _ _ h
      · refine r_aload_n rfl rfl ?_
        refine r_iconst (v := 3) rfl (by decide) ?_
        refine r_cv_v (vs := [.int (3 : Int32)]) rfl ml_12_269 rfl (rOk.of rfl) ⟨Nat.zero_le _, Nat.zero_le _⟩ rfl rfl rfl h s_X12_works (fun _ M2 h => ?_)
        refine r_aload_n rfl rfl ?_
        refine r_getR rfl fl_12_57 rfl h (fun v4 h => ?_)
        refine r_aload_n rfl rfl ?_
        refine r_getI rfl fl_12_243 rfl h (fun v5 h => ?_)
        refine r_aload_n rfl rfl ?_
        refine r_getI rfl fl_12_230 rfl h (fun v6 h => ?_)
        refine r_iast rfl h (fun M3 h => ?_)
        refine r_aload_n rfl rfl ?_
        refine r_getR rfl fl_12_54 rfl h (fun v7 h => ?_)
        refine r_aload_n rfl rfl ?_
        refine r_getI rfl fl_12_243 rfl h (fun v8 h => ?_)
        refine r_iconst (v := 1) rfl (by decide) ?_
        refine r_isub rfl ?_
        refine r_iconst (v := 5) rfl (by decide) ?_
        refine r_iast rfl h (fun M4 h => ?_)
        refine r_aload_n rfl rfl ?_
        refine r_cv_v (vs := []) rfl ml_12_255 rfl (rOk.of rfl) ⟨Nat.zero_le _, Nat.zero_le _⟩ rfl rfl rfl h s_X12_next (fun _ M5 h => ?_)
        refine r_aload_n rfl rfl ?_
        refine r_iconst (v := 1) rfl (by decide) ?_
        refine r_putI rfl fl_12_278 (fun z => by cases z) rfl h (fun M6 h => ?_)
        refine r_goto 250 rfl (by decide) ?_
        exact r_vret rfl rfl ⟨Nat.le_of_ble_eq_true rfl, Nat.le_of_ble_eq_true rfl⟩ h
    · exact s_X12_goesOn_181 _ _ _ h
  · exact s_X12_goesOn_181 _ _ _ h
theorem s_X12_goesOn_65 {d : Nat} {P : Unit → Mem → Prop}   (r0 : Option Nat) (i1 : Int32) (M : Mem) (h : FQ (f_X12_goesOn_65  r0 i1 M) P) : wp Y_X12_goesOn (rmD (d + 4) 0 0) (FM (QV P) 0 0) 0 0 65 [some (va_rf r0), some (.int i1), none] [] M := by
  unfold f_X12_goesOn_65 at h
  refine r_iload_n rfl rfl ?_
  refine r_bipush (v := 6) rfl (by decide) ?_
  refine r_ic_ne 116 rfl (by decide) h (fun h => ?_) (fun h => ?_)
  · refine r_aload_n rfl rfl ?_
    refine r_bipush (v := 41) rfl (by decide) ?_
    refine r_cv_i (vs := [.int (41 : Int32)]) rfl ml_12_284 rfl (rOk.of rfl) ⟨Nat.zero_le _, Nat.zero_le _⟩ rfl rfl rfl h s_X12_isSign (fun v1 M1 h => ?_)
    refine r_if_eq 116 rfl (by decide) h (fun h => ?_) (fun h => ?_)
    · exact s_X12_goesOn_116 _ _ _ h
    · refine r_aload_n rfl rfl ?_
      refine r_iconst (v := 3) rfl (by decide) ?_
      refine r_cv_v (vs := [.int (3 : Int32)]) rfl ml_12_269 rfl (rOk.of rfl) ⟨Nat.zero_le _, Nat.zero_le _⟩ rfl rfl rfl h s_X12_works (fun _ M2 h => ?_)
      refine r_aload_n rfl rfl ?_
      refine r_dup rfl (cat_rf _) ?_
      refine r_getI rfl fl_12_243 rfl h (fun v2 h => ?_)
      refine r_iconst (v := 1) rfl (by decide) ?_
      refine r_isub rfl ?_
      refine r_putI rfl fl_12_243 (fun z => by cases z) rfl h (fun M3 h => ?_)
      refine r_aload_n rfl rfl ?_
      refine r_dup rfl (cat_rf _) ?_
      refine r_getI rfl fl_12_246 rfl h (fun v3 h => ?_)
      refine r_iconst (v := 1) rfl (by decide) ?_
      refine r_isub rfl ?_
      refine r_putI rfl fl_12_246 (fun z => by cases z) rfl h (fun M4 h => ?_)
      refine r_aload_n rfl rfl ?_
      refine r_cv_v (vs := []) rfl ml_12_255 rfl (rOk.of rfl) ⟨Nat.zero_le _, Nat.zero_le _⟩ rfl rfl rfl h s_X12_next (fun _ M5 h => ?_)
      refine r_aload_n rfl rfl ?_
      refine r_cv_v (vs := []) rfl ml_12_281 rfl (rOk.of rfl) ⟨Nat.zero_le _, Nat.zero_le _⟩ rfl rfl rfl h s_X12_oneIsOver (fun _ M6 h => ?_)
      refine r_goto 250 rfl (by decide) ?_
      exact r_vret rfl rfl ⟨Nat.le_of_ble_eq_true rfl, Nat.le_of_ble_eq_true rfl⟩ h
  · exact s_X12_goesOn_116 _ _ _ h
theorem s_X12_goesOn {d : Nat} {P : Unit → Mem → Prop} {r0 : Option Nat} {M : Mem} (h : FQ (f_X12_goesOn r0 M) P) : Con Y_X12_goesOn (d + 4) 0 0 [va_rf r0] M (QV P) := by
  refine Con.of [some (va_rf r0), none, none] (by decide +kernel) dk_X12_goesOn (by simp [Y_X12_goesOn, cat_rf, cat_i, cat_l]) (by simp [loE, Y_X12_goesOn, cat_rf, cat_i, cat_l, List.replicate]) ?_
  unfold f_X12_goesOn at h
  refine r_aload_n rfl rfl ?_
  refine r_cv_i (vs := []) rfl ml_12_287 rfl (rOk.of rfl) ⟨Nat.zero_le _, Nat.zero_le _⟩ rfl rfl rfl h s_X12_top (fun v1 M1 h => ?_)
  refine r_istore_n (lo' := [some (va_rf r0), some (.int v1), none]) rfl rfl (by simp [stOk, cat_rf]) rfl ?_
  refine r_aload_n rfl rfl ?_
  refine r_getI rfl fl_12_218 rfl h (fun v2 h => ?_)
  refine r_iconst (v := 3) rfl (by decide) ?_
  refine r_ic_ne 65 rfl (by decide) h (fun h => ?_) (fun h => ?_)
  · refine r_aload_n rfl rfl ?_
    refine r_getI rfl fl_12_230 rfl h (fun v3 h => ?_)
    refine r_bipush (v := 43) rfl (by decide) ?_
    refine r_ic_eq 49 rfl (by decide) h (fun h => ?_) (fun h => ?_)
    · refine r_aload_n rfl rfl ?_
      refine r_aload_n rfl rfl ?_
      refine r_getI rfl fl_12_230 rfl h (fun v4 h => ?_)
      refine r_cv_v (vs := [.int v4]) rfl ml_12_291 rfl (rOk.of rfl) ⟨Nat.zero_le _, Nat.zero_le _⟩ rfl rfl rfl h s_X12_waitsFor (fun _ M2 h => ?_)
      refine r_aload_n rfl rfl ?_
      refine r_iconst (v := 1) rfl (by decide) ?_
      refine r_putI rfl fl_12_278 (fun z => by cases z) rfl h (fun M3 h => ?_)
      refine r_goto 250 rfl (by decide) ?_
      exact r_vret rfl rfl ⟨Nat.le_of_ble_eq_true rfl, Nat.le_of_ble_eq_true rfl⟩ h
    · refine r_aload_n rfl rfl ?_
      refine r_getI rfl fl_12_230 rfl h (fun v5 h => ?_)
      refine r_bipush (v := 45) rfl (by decide) ?_
      refine r_ic_eq 49 rfl (by decide) h (fun h => ?_) (fun h => ?_)
      · refine r_aload_n rfl rfl ?_
        refine r_aload_n rfl rfl ?_
        refine r_getI rfl fl_12_230 rfl h (fun v6 h => ?_)
        refine r_cv_v (vs := [.int v6]) rfl ml_12_291 rfl (rOk.of rfl) ⟨Nat.zero_le _, Nat.zero_le _⟩ rfl rfl rfl h s_X12_waitsFor (fun _ M4 h => ?_)
        refine r_aload_n rfl rfl ?_
        refine r_iconst (v := 1) rfl (by decide) ?_
        refine r_putI rfl fl_12_278 (fun z => by cases z) rfl h (fun M5 h => ?_)
        refine r_goto 250 rfl (by decide) ?_
        exact r_vret rfl rfl ⟨Nat.le_of_ble_eq_true rfl, Nat.le_of_ble_eq_true rfl⟩ h
      · refine r_aload_n rfl rfl ?_
        refine r_getI rfl fl_12_230 rfl h (fun v7 h => ?_)
        refine r_bipush (v := 42) rfl (by decide) ?_
        refine r_ic_eq 49 rfl (by decide) h (fun h => ?_) (fun h => ?_)
        · refine r_aload_n rfl rfl ?_
          refine r_aload_n rfl rfl ?_
          refine r_getI rfl fl_12_230 rfl h (fun v8 h => ?_)
          refine r_cv_v (vs := [.int v8]) rfl ml_12_291 rfl (rOk.of rfl) ⟨Nat.zero_le _, Nat.zero_le _⟩ rfl rfl rfl h s_X12_waitsFor (fun _ M6 h => ?_)
          refine r_aload_n rfl rfl ?_
          refine r_iconst (v := 1) rfl (by decide) ?_
          refine r_putI rfl fl_12_278 (fun z => by cases z) rfl h (fun M7 h => ?_)
          refine r_goto 250 rfl (by decide) ?_
          exact r_vret rfl rfl ⟨Nat.le_of_ble_eq_true rfl, Nat.le_of_ble_eq_true rfl⟩ h
        · refine r_aload_n rfl rfl ?_
          refine r_getI rfl fl_12_230 rfl h (fun v9 h => ?_)
          refine r_bipush (v := 47) rfl (by decide) ?_
          refine r_ic_ne 65 rfl (by decide) h (fun h => ?_) (fun h => ?_)
          · refine r_aload_n rfl rfl ?_
            refine r_aload_n rfl rfl ?_
            refine r_getI rfl fl_12_230 rfl h (fun v10 h => ?_)
            refine r_cv_v (vs := [.int v10]) rfl ml_12_291 rfl (rOk.of rfl) ⟨Nat.zero_le _, Nat.zero_le _⟩ rfl rfl rfl h s_X12_waitsFor (fun _ M8 h => ?_)
            refine r_aload_n rfl rfl ?_
            refine r_iconst (v := 1) rfl (by decide) ?_
            refine r_putI rfl fl_12_278 (fun z => by cases z) rfl h (fun M9 h => ?_)
            refine r_goto 250 rfl (by decide) ?_
            exact r_vret rfl rfl ⟨Nat.le_of_ble_eq_true rfl, Nat.le_of_ble_eq_true rfl⟩ h
          · exact s_X12_goesOn_65 _ _ _ h
  · exact s_X12_goesOn_65 _ _ _ h
