/-! walked by program (wip/gen): X12_next X12_opensSign X12_asks X12_emits X12_rank X12_works -/
def L_X12_next : List (Option (Instr × Nat)) := [some (.aload_n 0, 1), some (.getfield 209, 3), none, none, some (.aload_n 0, 1), some (.getfield 212, 3), none, none, some (.if_icmp .ge 44, 3), none, none, some (.aload_n 0, 1), some (.getfield 16, 3), none, none, some (.aload_n 0, 1), some (.getfield 209, 3), none, none, some (.baload, 1), some (.bipush 32, 2), none, some (.if_icmp .eq 17, 3), none, none, some (.aload_n 0, 1), some (.getfield 16, 3), none, none, some (.aload_n 0, 1), some (.getfield 209, 3), none, none, some (.baload, 1), some (.bipush 10, 2), none, some (.if_icmp .ne 16, 3), none, none, some (.aload_n 0, 1), some (.dup, 1), some (.getfield 209, 3), none, none, some (.iconst 1, 1), some (.iadd, 1), some (.putfield 209, 3), none, none, some (.goto (-49), 3), none, none, some (.aload_n 0, 1), some (.aload_n 0, 1), some (.getfield 209, 3), none, none, some (.putfield 215, 3), none, none, some (.aload_n 0, 1), some (.getfield 209, 3), none, none, some (.aload_n 0, 1), some (.getfield 212, 3), none, none, some (.if_icmp .ne 9, 3), none, none, some (.aload_n 0, 1), some (.iconst 0, 1), some (.putfield 218, 3), none, none, some (.return_, 1), some (.aload_n 0, 1), some (.getfield 16, 3), none, none, some (.aload_n 0, 1), some (.getfield 209, 3), none, none, some (.baload, 1), some (.istore_n 1, 1), some (.iload_n 1, 1), some (.invokestatic 221, 3), none, none, some (.ifCond .eq 120, 3), none, none, some (.lconst 0, 1), some (.lstore_n 2, 1), some (.iconst 0, 1), some (.istore 4, 2), none, some (.aload_n 0, 1), some (.getfield 209, 3), none, none, some (.aload_n 0, 1), some (.getfield 212, 3), none, none, some (.if_icmp .ge 66, 3), none, none, some (.aload_n 0, 1), some (.getfield 16, 3), none, none, some (.aload_n 0, 1), some (.getfield 209, 3), none, none, some (.baload, 1), some (.invokestatic 221, 3), none, none, some (.ifCond .eq 51, 3), none, none, some (.iload 4, 2), none, some (.bipush 8, 2), none, some (.if_icmp .ge 26, 3), none, none, some (.ldc2_w 224, 3), none, none, some (.lload_n 2, 1), some (.lmul, 1), some (.aload_n 0, 1), some (.getfield 16, 3), none, none, some (.aload_n 0, 1), some (.getfield 209, 3), none, none, some (.baload, 1), some (.i2l, 1), some (.ladd, 1), some (.ldc2_w 224, 3), none, none, some (.lsub, 1), some (.goto 4, 3), none, none, some (.lload_n 2, 1), some (.lstore_n 2, 1), some (.iinc 4 1, 3), none, none, some (.aload_n 0, 1), some (.dup, 1), some (.getfield 209, 3), none, none, some (.iconst 1, 1), some (.iadd, 1), some (.putfield 209, 3), none, none, some (.goto (-71), 3), none, none, some (.aload_n 0, 1), some (.iload 4, 2), none, some (.bipush 7, 2), none, some (.if_icmp .le 7, 3), none, none, some (.iconst (-1), 1), some (.goto 7, 3), none, none, some (.lload_n 2, 1), some (.invokestatic 226, 3), none, none, some (.putfield 230, 3), none, none, some (.aload_n 0, 1), some (.aload_n 0, 1), some (.getfield 230, 3), none, none, some (.ifCond .ge 7, 3), none, none, some (.iconst 4, 1), some (.goto 4, 3), none, none, some (.iconst 1, 1), some (.putfield 218, 3), none, none, some (.goto 231, 3), none, none, some (.iload_n 1, 1), some (.bipush 48, 2), none, some (.bipush 57, 2), none, some (.invokestatic 151, 3), none, none, some (.ifCond .eq 96, 3), none, none, some (.aload_n 0, 1), some (.iconst 2, 1), some (.putfield 218, 3), none, none, some (.aload_n 0, 1), some (.iconst 0, 1), some (.putfield 230, 3), none, none, some (.aload_n 0, 1), some (.getfield 209, 3), none, none, some (.aload_n 0, 1), some (.getfield 212, 3), none, none, some (.if_icmp .ge 199, 3), none, none, some (.aload_n 0, 1), some (.getfield 16, 3), none, none, some (.aload_n 0, 1), some (.getfield 209, 3), none, none, some (.baload, 1), some (.bipush 48, 2), none, some (.bipush 57, 2), none, some (.invokestatic 151, 3), none, none, some (.ifCond .eq 180, 3), none, none, some (.aload_n 0, 1), some (.aload_n 0, 1), some (.getfield 230, 3), none, none, some (.ldc 233, 2), none, some (.if_icmp .le 10, 3), none, none, some (.aload_n 0, 1), some (.getfield 230, 3), none, none, some (.goto 23, 3), none, none, some (.bipush 10, 2), none, some (.aload_n 0, 1), some (.getfield 230, 3), none, none, some (.imul, 1), some (.aload_n 0, 1), some (.getfield 16, 3), none, none, some (.aload_n 0, 1), some (.getfield 209, 3), none, none, some (.baload, 1), some (.iadd, 1), some (.bipush 48, 2), none, some (.isub, 1), some (.putfield 230, 3), none, none, some (.aload_n 0, 1), some (.dup, 1), some (.getfield 209, 3), none, none, some (.iconst 1, 1), some (.iadd, 1), some (.putfield 209, 3), none, none, some (.goto (-80), 3), none, none, some (.aload_n 0, 1), some (.dup, 1), some (.getfield 209, 3), none, none, some (.iconst 1, 1), some (.iadd, 1), some (.putfield 209, 3), none, none, some (.aload_n 0, 1), some (.iload_n 1, 1), some (.putfield 230, 3), none, none, some (.aload_n 0, 1), some (.iload_n 1, 1), some (.bipush 59, 2), none, some (.bipush 62, 2), none, some (.invokestatic 151, 3), none, none, some (.ifCond .ne 26, 3), none, none, some (.iload_n 1, 1), some (.bipush 40, 2), none, some (.bipush 45, 2), none, some (.invokestatic 151, 3), none, none, some (.ifCond .ne 15, 3), none, none, some (.iload_n 1, 1), some (.bipush 47, 2), none, some (.if_icmp .eq 9, 3), none, none, some (.iload_n 1, 1), some (.bipush 35, 2), none, some (.if_icmp .ne 7, 3), none, none, some (.iconst 3, 1), some (.goto 4, 3), none, none, some (.iconst 4, 1), some (.putfield 218, 3), none, none, some (.iload_n 1, 1), some (.bipush 60, 2), none, some (.if_icmp .eq 9, 3), none, none, some (.iload_n 1, 1), some (.bipush 62, 2), none, some (.if_icmp .ne 57, 3), none, none, some (.aload_n 0, 1), some (.getfield 209, 3), none, none, some (.aload_n 0, 1), some (.getfield 212, 3), none, none, some (.if_icmp .ge 46, 3), none, none, some (.aload_n 0, 1), some (.getfield 16, 3), none, none, some (.aload_n 0, 1), some (.getfield 209, 3), none, none, some (.baload, 1), some (.bipush 61, 2), none, some (.if_icmp .ne 32, 3), none, none, some (.aload_n 0, 1), some (.iload_n 1, 1), some (.bipush 60, 2), none, some (.if_icmp .ne 9, 3), none, none, some (.sipush 300, 3), none, none, some (.goto 6, 3), none, none, some (.sipush 301, 3), none, none, some (.putfield 230, 3), none, none, some (.aload_n 0, 1), some (.dup, 1), some (.getfield 209, 3), none, none, some (.iconst 1, 1), some (.iadd, 1), some (.putfield 209, 3), none, none, some (.return_, 1)]
def Y_X12_next : YM := (⟨RX12, "next", "()V"⟩, prog_14_method_14_code, L_X12_next, 5, none)
def f_X12_next_385  (r0 : Option Nat) (i1 : Int32) (M : Mem) : Option (Unit × Mem) :=
gI M r0 12 19 fun v1 =>
gI M r0 12 18 fun v2 =>
(if v2 ≤ v1 then
some ((), M)
else
gR M r0 12 5 fun v3 =>
gI M r0 12 19 fun v4 =>
aI M v3 4 v4 fun v5 =>
(if v5 = (61 : Int32) then
(if i1 = (60 : Int32) then
pI M r0 12 22 (300 : Int32) fun M1 =>
gI M1 r0 12 19 fun v6 =>
pI M1 r0 12 19 (v6 + (1 : Int32)) fun M2 =>
some ((), M2)
else
pI M r0 12 22 (301 : Int32) fun M3 =>
gI M3 r0 12 19 fun v7 =>
pI M3 r0 12 19 (v7 + (1 : Int32)) fun M4 =>
some ((), M4))
else
some ((), M)))
def b_X12_next_232 (q232 : Option Nat → Mem → Option (Unit × Mem)) (r0 : Option Nat) (M : Mem) : Option (Unit × Mem) :=
gI M r0 12 19 fun v1 =>
gI M r0 12 18 fun v2 =>
(if v2 ≤ v1 then
some ((), M)
else
gR M r0 12 5 fun v3 =>
gI M r0 12 19 fun v4 =>
aI M v3 4 v4 fun v5 =>
cA (f_X12_in v5 (48 : Int32) (57 : Int32) M) fun v6 M1 =>
(if v6 = 0 then
some ((), M1)
else
gI M1 r0 12 22 fun v7 =>
(if v7 ≤ (99999 : Int32) then
gI M1 r0 12 22 fun v8 =>
gR M1 r0 12 5 fun v9 =>
gI M1 r0 12 19 fun v10 =>
aI M1 v9 4 v10 fun v11 =>
pI M1 r0 12 22 ((((10 : Int32) * v8) + v11) - (48 : Int32)) fun M2 =>
gI M2 r0 12 19 fun v12 =>
pI M2 r0 12 19 (v12 + (1 : Int32)) fun M3 =>
q232 r0 M3
else
gI M1 r0 12 22 fun v13 =>
pI M1 r0 12 22 v13 fun M4 =>
gI M4 r0 12 19 fun v14 =>
pI M4 r0 12 19 (v14 + (1 : Int32)) fun M5 =>
q232 r0 M5)))
def f_X12_next_232 (n : Nat) : Option Nat → Mem → Option (Unit × Mem) := lpN (fun _ _ => none) (b_X12_next_232 ) n
def f_X12_next_173  (r0 : Option Nat) (l2 : Int64) (i4 : Int32) (M : Mem) : Option (Unit × Mem) :=
(if i4 ≤ (7 : Int32) then
cA (f_X12_wordOf l2 M) fun v1 M1 =>
pI M1 r0 12 22 v1 fun M2 =>
gI M2 r0 12 22 fun v2 =>
(if 0 ≤ v2 then
pI M2 r0 12 21 (1 : Int32) fun M3 =>
some ((), M3)
else
pI M2 r0 12 21 (4 : Int32) fun M4 =>
some ((), M4))
else
pI M r0 12 22 (-1 : Int32) fun M5 =>
gI M5 r0 12 22 fun v3 =>
(if 0 ≤ v3 then
pI M5 r0 12 21 (1 : Int32) fun M6 =>
some ((), M6)
else
pI M5 r0 12 21 (4 : Int32) fun M7 =>
some ((), M7)))
def b_X12_next_99 (q99 : Option Nat → Int64 → Int32 → Mem → Option (Unit × Mem)) (r0 : Option Nat) (l2 : Int64) (i4 : Int32) (M : Mem) : Option (Unit × Mem) :=
gI M r0 12 19 fun v1 =>
gI M r0 12 18 fun v2 =>
(if v2 ≤ v1 then
f_X12_next_173 r0 l2 i4 M
else
gR M r0 12 5 fun v3 =>
gI M r0 12 19 fun v4 =>
aI M v3 4 v4 fun v5 =>
cA (f_X12_isLetter v5 M) fun v6 M1 =>
(if v6 = 0 then
f_X12_next_173 r0 l2 i4 M1
else
(if (8 : Int32) ≤ i4 then
gI M1 r0 12 19 fun v7 =>
pI M1 r0 12 19 (v7 + (1 : Int32)) fun M2 =>
q99 r0 l2 (i4 + (1 : Int32)) M2
else
gR M1 r0 12 5 fun v8 =>
gI M1 r0 12 19 fun v9 =>
aI M1 v8 4 v9 fun v10 =>
gI M1 r0 12 19 fun v11 =>
pI M1 r0 12 19 (v11 + (1 : Int32)) fun M3 =>
q99 r0 ((((64 : Int64) * l2) + v10.toInt64) - (64 : Int64)) (i4 + (1 : Int32)) M3)))
def f_X12_next_99 (n : Nat) : Option Nat → Int64 → Int32 → Mem → Option (Unit × Mem) := lpN (fun _ _ _ _ => none) (b_X12_next_99 ) n
def f_X12_next_52  (r0 : Option Nat) (M : Mem) : Option (Unit × Mem) :=
gI M r0 12 19 fun v1 =>
pI M r0 12 20 v1 fun M1 =>
gI M1 r0 12 19 fun v2 =>
gI M1 r0 12 18 fun v3 =>
(if v2 = v3 then
pI M1 r0 12 21 (0 : Int32) fun M2 =>
some ((), M2)
else
gR M1 r0 12 5 fun v4 =>
gI M1 r0 12 19 fun v5 =>
aI M1 v4 4 v5 fun v6 =>
cA (f_X12_isLetter v6 M1) fun v7 M3 =>
(if v7 = 0 then
cA (f_X12_in v6 (48 : Int32) (57 : Int32) M3) fun v8 M4 =>
(if v8 = 0 then
gI M4 r0 12 19 fun v9 =>
pI M4 r0 12 19 (v9 + (1 : Int32)) fun M5 =>
pI M5 r0 12 22 v6 fun M6 =>
cA (f_X12_in v6 (59 : Int32) (62 : Int32) M6) fun v10 M7 =>
(if v10 = 0 then
cA (f_X12_in v6 (40 : Int32) (45 : Int32) M7) fun v11 M8 =>
(if v11 = 0 then
(if v6 = (47 : Int32) then
pI M8 r0 12 21 (3 : Int32) fun M9 =>
(if v6 = (60 : Int32) then
f_X12_next_385 r0 v6 M9
else
(if v6 = (62 : Int32) then
f_X12_next_385 r0 v6 M9
else
some ((), M9)))
else
(if v6 = (35 : Int32) then
pI M8 r0 12 21 (3 : Int32) fun M10 =>
(if v6 = (60 : Int32) then
f_X12_next_385 r0 v6 M10
else
(if v6 = (62 : Int32) then
f_X12_next_385 r0 v6 M10
else
some ((), M10)))
else
pI M8 r0 12 21 (4 : Int32) fun M11 =>
(if v6 = (60 : Int32) then
f_X12_next_385 r0 v6 M11
else
(if v6 = (62 : Int32) then
f_X12_next_385 r0 v6 M11
else
some ((), M11)))))
else
pI M8 r0 12 21 (3 : Int32) fun M12 =>
(if v6 = (60 : Int32) then
f_X12_next_385 r0 v6 M12
else
(if v6 = (62 : Int32) then
f_X12_next_385 r0 v6 M12
else
some ((), M12))))
else
pI M7 r0 12 21 (3 : Int32) fun M13 =>
(if v6 = (60 : Int32) then
f_X12_next_385 r0 v6 M13
else
(if v6 = (62 : Int32) then
f_X12_next_385 r0 v6 M13
else
some ((), M13))))
else
pI M4 r0 12 21 (2 : Int32) fun M14 =>
pI M14 r0 12 22 (0 : Int32) fun M15 =>
f_X12_next_232 FU r0 M15)
else
f_X12_next_99 FU r0 (0 : Int64) (0 : Int32) M3))
def b_X12_next_0 (q0 : Option Nat → Mem → Option (Unit × Mem)) (r0 : Option Nat) (M : Mem) : Option (Unit × Mem) :=
gI M r0 12 19 fun v1 =>
gI M r0 12 18 fun v2 =>
(if v2 ≤ v1 then
f_X12_next_52 r0 M
else
gR M r0 12 5 fun v3 =>
gI M r0 12 19 fun v4 =>
aI M v3 4 v4 fun v5 =>
(if v5 = (32 : Int32) then
gI M r0 12 19 fun v6 =>
pI M r0 12 19 (v6 + (1 : Int32)) fun M1 =>
q0 r0 M1
else
gR M r0 12 5 fun v7 =>
gI M r0 12 19 fun v8 =>
aI M v7 4 v8 fun v9 =>
(if v9 = (10 : Int32) then
gI M r0 12 19 fun v10 =>
pI M r0 12 19 (v10 + (1 : Int32)) fun M2 =>
q0 r0 M2
else
f_X12_next_52 r0 M)))
def f_X12_next_0 (n : Nat) : Option Nat → Mem → Option (Unit × Mem) := lpN (fun _ _ => none) (b_X12_next_0 ) n
def f_X12_next (r0 : Option Nat) (M : Mem) : Option (Unit × Mem) :=
f_X12_next_0 FU r0 M
def L_X12_opensSign : List (Option (Instr × Nat)) := [some (.aload_n 0, 1), some (.getfield 246, 3), none, none, some (.bipush 8, 2), none, some (.if_icmp .ne 10, 3), none, none, some (.aload_n 0, 1), some (.iconst 3, 1), some (.invokevirtual 249, 3), none, none, some (.iconst 0, 1), some (.ireturn, 1), some (.aload_n 0, 1), some (.dup, 1), some (.getfield 246, 3), none, none, some (.iconst 1, 1), some (.iadd, 1), some (.putfield 246, 3), none, none, some (.aload_n 0, 1), some (.iload_n 1, 1), some (.invokevirtual 252, 3), none, none, some (.aload_n 0, 1), some (.invokevirtual 255, 3), none, none, some (.iconst 1, 1), some (.ireturn, 1)]
def Y_X12_opensSign : YM := (⟨RX12, "opensSign", "(I)Z"⟩, prog_14_method_21_code, L_X12_opensSign, 2, some .boolean)
def f_X12_opensSign (r0 : Option Nat) (i1 : Int32) (M : Mem) : Option (Int32 × Mem) :=
gI M r0 12 25 fun v1 =>
(if v1 = (8 : Int32) then
cR M r0 (1, 12) (cA (f_X12_errs r0 (3 : Int32) M) fun _ M1 =>
tv (0 : Int32) (some ((0 : Int32), M1)))
else
gI M r0 12 25 fun v2 =>
pI M r0 12 25 (v2 + (1 : Int32)) fun M2 =>
cR M2 r0 (1, 12) (cA (f_X12_opensFrame r0 i1 M2) fun _ M3 =>
cR M3 r0 (1, 12) (cA (f_X12_next r0 M3) fun _ M4 =>
tv (1 : Int32) (some ((1 : Int32), M4)))))
def L_X12_asks : List (Option (Instr × Nat)) := [some (.aload_n 0, 1), some (.bipush 13, 2), none, some (.invokevirtual 272, 3), none, none, some (.ifCond .eq 12, 3), none, none, some (.aload_n 0, 1), some (.iconst 3, 1), some (.invokevirtual 275, 3), none, none, some (.istore_n 1, 1), some (.goto 13, 3), none, none, some (.aload_n 0, 1), some (.iconst 4, 1), some (.invokevirtual 252, 3), none, none, some (.aload_n 0, 1), some (.iconst 1, 1), some (.putfield 278, 3), none, none, some (.return_, 1)]
def Y_X12_asks : YM := (⟨RX12, "asks", "()V"⟩, prog_14_method_25_code, L_X12_asks, 2, none)
def f_X12_asks (r0 : Option Nat) (M : Mem) : Option (Unit × Mem) :=
cR M r0 (1, 12) (cA (f_X12_isWord r0 (13 : Int32) M) fun v1 M1 =>
(if v1 = 0 then
cR M1 r0 (1, 12) (cA (f_X12_opensFrame r0 (4 : Int32) M1) fun _ M2 =>
pI M2 r0 12 32 (1 : Int32) fun M3 =>
some ((), M3))
else
cR M1 r0 (1, 12) (cA (f_X12_opensSign r0 (3 : Int32) M1) fun v2 M4 =>
some ((), M4))))
def L_X12_emits : List (Option (Instr × Nat)) := [some (.aload_n 0, 1), some (.getfield 75, 3), none, none, some (.aload_n 0, 1), some (.getfield 240, 3), none, none, some (.iload_n 1, 1), some (.iastore, 1), some (.aload_n 0, 1), some (.getfield 78, 3), none, none, some (.aload_n 0, 1), some (.getfield 240, 3), none, none, some (.iload_n 2, 1), some (.iastore, 1), some (.aload_n 0, 1), some (.dup, 1), some (.getfield 240, 3), none, none, some (.iconst 1, 1), some (.iadd, 1), some (.putfield 240, 3), none, none, some (.return_, 1)]
def Y_X12_emits : YM := (⟨RX12, "emits", "(II)V"⟩, prog_14_method_18_code, L_X12_emits, 3, none)
def f_X12_emits (r0 : Option Nat) (i1 : Int32) (i2 : Int32) (M : Mem) : Option (Unit × Mem) :=
gR M r0 12 39 fun v1 =>
gI M r0 12 38 fun v2 =>
wI M v1 2 v2 i1 fun M1 =>
gR M1 r0 12 40 fun v3 =>
gI M1 r0 12 38 fun v4 =>
wI M1 v3 2 v4 i2 fun M2 =>
gI M2 r0 12 38 fun v5 =>
pI M2 r0 12 38 (v5 + (1 : Int32)) fun M3 =>
some ((), M3)
def L_X12_rank : List (Option (Instr × Nat)) := [some (.iload_n 0, 1), some (.sipush 407, 3), none, none, some (.if_icmp .ne 7, 3), none, none, some (.iconst 1, 1), some (.goto 31, 3), none, none, some (.iload_n 0, 1), some (.sipush 406, 3), none, none, some (.if_icmp .ne 7, 3), none, none, some (.iconst 2, 1), some (.goto 20, 3), none, none, some (.iload_n 0, 1), some (.bipush 43, 2), none, some (.if_icmp .eq 9, 3), none, none, some (.iload_n 0, 1), some (.bipush 45, 2), none, some (.if_icmp .ne 7, 3), none, none, some (.iconst 3, 1), some (.goto 4, 3), none, none, some (.iconst 4, 1), some (.ireturn, 1)]
def Y_X12_rank : YM := (⟨RX12, "rank", "(I)I"⟩, prog_14_method_22_code, L_X12_rank, 1, some .int)
def f_X12_rank (i0 : Int32) (M : Mem) : Option (Int32 × Mem) :=
(if i0 = (407 : Int32) then
some ((1 : Int32), M)
else
(if i0 = (406 : Int32) then
some ((2 : Int32), M)
else
(if i0 = (43 : Int32) then
some ((3 : Int32), M)
else
(if i0 = (45 : Int32) then
some ((3 : Int32), M)
else
some ((4 : Int32), M)))))
def L_X12_works : List (Option (Instr × Nat)) := [some (.aload_n 0, 1), some (.getfield 258, 3), none, none, some (.ifCond .le 66, 3), none, none, some (.aload_n 0, 1), some (.getfield 63, 3), none, none, some (.aload_n 0, 1), some (.getfield 258, 3), none, none, some (.iconst 1, 1), some (.isub, 1), some (.iaload, 1), some (.aload_n 0, 1), some (.getfield 243, 3), none, none, some (.if_icmp .ne 48, 3), none, none, some (.aload_n 0, 1), some (.getfield 60, 3), none, none, some (.aload_n 0, 1), some (.getfield 258, 3), none, none, some (.iconst 1, 1), some (.isub, 1), some (.iaload, 1), some (.invokestatic 261, 3), none, none, some (.iload_n 1, 1), some (.if_icmp .lt 30, 3), none, none, some (.aload_n 0, 1), some (.dup, 1), some (.getfield 258, 3), none, none, some (.iconst 1, 1), some (.isub, 1), some (.putfield 258, 3), none, none, some (.aload_n 0, 1), some (.aload_n 0, 1), some (.getfield 60, 3), none, none, some (.aload_n 0, 1), some (.getfield 258, 3), none, none, some (.iaload, 1), some (.iconst 0, 1), some (.invokevirtual 265, 3), none, none, some (.goto (-67), 3), none, none, some (.return_, 1)]
def Y_X12_works : YM := (⟨RX12, "works", "(I)V"⟩, prog_14_method_23_code, L_X12_works, 2, none)
def b_X12_works_0 (q0 : Option Nat → Int32 → Mem → Option (Unit × Mem)) (r0 : Option Nat) (i1 : Int32) (M : Mem) : Option (Unit × Mem) :=
gI M r0 12 29 fun v1 =>
(if v1 ≤ 0 then
some ((), M)
else
gR M r0 12 31 fun v2 =>
gI M r0 12 29 fun v3 =>
aI M v2 2 (v3 - (1 : Int32)) fun v4 =>
gI M r0 12 26 fun v5 =>
(if v4 = v5 then
gR M r0 12 30 fun v6 =>
gI M r0 12 29 fun v7 =>
aI M v6 2 (v7 - (1 : Int32)) fun v8 =>
cA (f_X12_rank v8 M) fun v9 M1 =>
(if v9 < i1 then
some ((), M1)
else
gI M1 r0 12 29 fun v10 =>
pI M1 r0 12 29 (v10 - (1 : Int32)) fun M2 =>
gR M2 r0 12 30 fun v11 =>
gI M2 r0 12 29 fun v12 =>
aI M2 v11 2 v12 fun v13 =>
cR M2 r0 (1, 12) (cA (f_X12_emits r0 v13 (0 : Int32) M2) fun _ M3 =>
q0 r0 i1 M3))
else
some ((), M)))
def f_X12_works_0 (n : Nat) : Option Nat → Int32 → Mem → Option (Unit × Mem) := lpN (fun _ _ _ => none) (b_X12_works_0 ) n
def f_X12_works (r0 : Option Nat) (i1 : Int32) (M : Mem) : Option (Unit × Mem) :=
f_X12_works_0 FU r0 i1 M
theorem fl_12_209 : FLk RX12 209 12 19 false := ⟨_, rfl, by decide, (gw_in 1135 (by decide +kernel) (by decide +kernel)), rfl⟩
theorem fl_12_212 : FLk RX12 212 12 18 false := ⟨_, rfl, by decide, (gw_in 1134 (by decide +kernel) (by decide +kernel)), rfl⟩
theorem kc_12_233 : Jvm.Cond.constant RX12 233 (99999) ∈ gw := gw_in 1397 (by decide +kernel) (by decide +kernel)
set_option maxRecDepth 30000 in
theorem ok_X12_wordOf : okY Y_X12_wordOf := ⟨(gw_in 1376 rfl rfl), (gw_in 14 (by decide +kernel) (by decide +kernel)), by decide +kernel, by decide +kernel⟩
theorem ml_12_226 : MLs RX12 226 Y_X12_wordOf 1 := ⟨(gw_in 1374 (by decide +kernel) (by decide +kernel)), (gw_in 1375 (by decide +kernel) (by decide +kernel)), ok_X12_wordOf, by decide +kernel⟩
set_option maxRecDepth 30000 in
theorem ok_X12_isLetter : okY Y_X12_isLetter := ⟨(gw_in 1372 rfl rfl), (gw_in 14 (by decide +kernel) (by decide +kernel)), by decide +kernel, by decide +kernel⟩
theorem ml_12_221 : MLs RX12 221 Y_X12_isLetter 1 := ⟨(gw_in 1370 (by decide +kernel) (by decide +kernel)), (gw_in 1371 (by decide +kernel) (by decide +kernel)), ok_X12_isLetter, by decide +kernel⟩
theorem kl_12_224 : Jvm.Cond.constantLong RX12 224 (64) ∈ gw := gw_in 1373 (by decide +kernel) (by decide +kernel)
theorem fl_12_246 : FLk RX12 246 12 25 false := ⟨_, rfl, by decide, (gw_in 1141 (by decide +kernel) (by decide +kernel)), rfl⟩
set_option maxRecDepth 30000 in
theorem ok_X12_errs : okY Y_X12_errs := ⟨(gw_in 1413 rfl rfl), (gw_in 14 (by decide +kernel) (by decide +kernel)), by decide +kernel, by decide +kernel⟩
theorem ml_12_249 : MLv RX12 249 Y_X12_errs 1 := ⟨(gw_in 1410 (by decide +kernel) (by decide +kernel)), (gw_in 1412 (by decide +kernel) (by decide +kernel)), (gw_sel (n := 70) 53 (by decide +kernel) (by decide +kernel)), ok_X12_errs, by decide +kernel⟩
set_option maxRecDepth 30000 in
theorem ok_X12_opensFrame : okY Y_X12_opensFrame := ⟨(gw_in 1417 rfl rfl), (gw_in 14 (by decide +kernel) (by decide +kernel)), by decide +kernel, by decide +kernel⟩
theorem ml_12_252 : MLv RX12 252 Y_X12_opensFrame 1 := ⟨(gw_in 1414 (by decide +kernel) (by decide +kernel)), (gw_in 1416 (by decide +kernel) (by decide +kernel)), (gw_sel (n := 70) 54 (by decide +kernel) (by decide +kernel)), ok_X12_opensFrame, by decide +kernel⟩
set_option maxRecDepth 30000 in
theorem ok_X12_next : okY Y_X12_next := ⟨(gw_in 1369 rfl rfl), (gw_in 14 (by decide +kernel) (by decide +kernel)), by decide +kernel, by decide +kernel⟩
theorem ml_12_255 : MLv RX12 255 Y_X12_next 0 := ⟨(gw_in 1366 (by decide +kernel) (by decide +kernel)), (gw_in 1368 (by decide +kernel) (by decide +kernel)), (gw_sel (n := 70) 49 (by decide +kernel) (by decide +kernel)), ok_X12_next, by decide +kernel⟩
set_option maxRecDepth 30000 in
theorem ok_X12_isWord : okY Y_X12_isWord := ⟨(gw_in 1405 rfl rfl), (gw_in 14 (by decide +kernel) (by decide +kernel)), by decide +kernel, by decide +kernel⟩
theorem ml_12_272 : MLv RX12 272 Y_X12_isWord 1 := ⟨(gw_in 1402 (by decide +kernel) (by decide +kernel)), (gw_in 1404 (by decide +kernel) (by decide +kernel)), (gw_sel (n := 70) 51 (by decide +kernel) (by decide +kernel)), ok_X12_isWord, by decide +kernel⟩
theorem fl_12_278 : FLk RX12 278 12 32 false := ⟨_, rfl, by decide, (gw_in 1148 (by decide +kernel) (by decide +kernel)), rfl⟩
set_option maxRecDepth 30000 in
theorem ok_X12_opensSign : okY Y_X12_opensSign := ⟨(gw_in 1409 rfl rfl), (gw_in 14 (by decide +kernel) (by decide +kernel)), by decide +kernel, by decide +kernel⟩
theorem ml_12_275 : MLv RX12 275 Y_X12_opensSign 1 := ⟨(gw_in 1406 (by decide +kernel) (by decide +kernel)), (gw_in 1408 (by decide +kernel) (by decide +kernel)), (gw_sel (n := 70) 52 (by decide +kernel) (by decide +kernel)), ok_X12_opensSign, by decide +kernel⟩
theorem fl_12_240 : FLk RX12 240 12 38 false := ⟨_, rfl, by decide, (gw_in 1154 (by decide +kernel) (by decide +kernel)), rfl⟩
theorem fl_12_258 : FLk RX12 258 12 29 false := ⟨_, rfl, by decide, (gw_in 1145 (by decide +kernel) (by decide +kernel)), rfl⟩
set_option maxRecDepth 30000 in
theorem ok_X12_rank : okY Y_X12_rank := ⟨(gw_in 1448 rfl rfl), (gw_in 14 (by decide +kernel) (by decide +kernel)), by decide +kernel, by decide +kernel⟩
theorem ml_12_261 : MLs RX12 261 Y_X12_rank 1 := ⟨(gw_in 1446 (by decide +kernel) (by decide +kernel)), (gw_in 1447 (by decide +kernel) (by decide +kernel)), ok_X12_rank, by decide +kernel⟩
set_option maxRecDepth 30000 in
theorem ok_X12_emits : okY Y_X12_emits := ⟨(gw_in 1425 rfl rfl), (gw_in 14 (by decide +kernel) (by decide +kernel)), by decide +kernel, by decide +kernel⟩
theorem ml_12_265 : MLv RX12 265 Y_X12_emits 2 := ⟨(gw_in 1422 (by decide +kernel) (by decide +kernel)), (gw_in 1424 (by decide +kernel) (by decide +kernel)), (gw_sel (n := 70) 56 (by decide +kernel) (by decide +kernel)), ok_X12_emits, by decide +kernel⟩
set_option maxRecDepth 20000 in
theorem dk_X12_next : ∀ pc i, L_X12_next[pc]? = some (some i) → decode prog_14_method_14_code pc = .ok i := dk_of (by decide +kernel)
theorem s_X12_next_385 {d : Nat} {P : Unit → Mem → Prop}   (r0 : Option Nat) (i1 : Int32) (M : Mem) (h : FQ (f_X12_next_385  r0 i1 M) P) : wp Y_X12_next (rmD (d + 2) 0 0) (FM (QV P) 0 0) 0 0 385 [some (va_rf r0), some (.int i1), none, none, none] [] M := by
  unfold f_X12_next_385 at h
  refine r_aload_n rfl rfl ?_
  refine r_getI rfl fl_12_209 rfl h (fun v1 h => ?_)
  refine r_aload_n rfl rfl ?_
  refine r_getI rfl fl_12_212 rfl h (fun v2 h => ?_)
  refine r_ic_ge 439 rfl (by decide) h (fun h => ?_) (fun h => ?_)
  · exact r_vret rfl rfl ⟨Nat.le_of_ble_eq_true rfl, Nat.le_of_ble_eq_true rfl⟩ h
  · refine r_aload_n rfl rfl ?_
    refine r_getR rfl fl_12_16 rfl h (fun v3 h => ?_)
    refine r_aload_n rfl rfl ?_
    refine r_getI rfl fl_12_209 rfl h (fun v4 h => ?_)
    refine r_bald rfl h (fun v5 h => ?_)
    refine r_bipush (v := 61) rfl (by decide) ?_
    refine r_ic_ne 439 rfl (by decide) h (fun h => ?_) (fun h => ?_)
    · refine r_aload_n rfl rfl ?_
      refine r_iload_n rfl rfl ?_
      refine r_bipush (v := 60) rfl (by decide) ?_
      refine r_ic_ne 423 rfl (by decide) h (fun h => ?_) (fun h => ?_)
      · refine r_sipush (v := 300) rfl (by decide) ?_
        refine r_goto 426 rfl (by decide) ?_
        refine r_putI rfl fl_12_230 (fun z => by cases z) rfl h (fun M1 h => ?_)
        refine r_aload_n rfl rfl ?_
        refine r_dup rfl (cat_rf _) ?_
        refine r_getI rfl fl_12_209 rfl h (fun v6 h => ?_)
        refine r_iconst (v := 1) rfl (by decide) ?_
        refine r_iadd rfl ?_
        refine r_putI rfl fl_12_209 (fun z => by cases z) rfl h (fun M2 h => ?_)
        exact r_vret rfl rfl ⟨Nat.le_of_ble_eq_true rfl, Nat.le_of_ble_eq_true rfl⟩ h
      · refine r_sipush (v := 301) rfl (by decide) ?_
        refine r_putI rfl fl_12_230 (fun z => by cases z) rfl h (fun M3 h => ?_)
        refine r_aload_n rfl rfl ?_
        refine r_dup rfl (cat_rf _) ?_
        refine r_getI rfl fl_12_209 rfl h (fun v7 h => ?_)
        refine r_iconst (v := 1) rfl (by decide) ?_
        refine r_iadd rfl ?_
        refine r_putI rfl fl_12_209 (fun z => by cases z) rfl h (fun M4 h => ?_)
        exact r_vret rfl rfl ⟨Nat.le_of_ble_eq_true rfl, Nat.le_of_ble_eq_true rfl⟩ h
    · exact r_vret rfl rfl ⟨Nat.le_of_ble_eq_true rfl, Nat.le_of_ble_eq_true rfl⟩ h
theorem sb_X12_next_232 {d : Nat} {P : Unit → Mem → Prop} {q232 : Option Nat → Mem → Option (Unit × Mem)} (hq232 : ∀ (r0 : Option Nat) (M : Mem), FQ (q232 r0 M) P → wp Y_X12_next (rmD (d + 2) 0 0) (FM (QV P) 0 0) 0 0 232 [some (va_rf r0), none, none, none, none] [] M) (r0 : Option Nat) (M : Mem) (h : FQ (b_X12_next_232 q232 r0 M) P) : wp Y_X12_next (rmD (d + 2) 0 0) (FM (QV P) 0 0) 0 0 232 [some (va_rf r0), none, none, none, none] [] M := by
  unfold b_X12_next_232 at h
  refine r_aload_n rfl rfl ?_
  refine r_getI rfl fl_12_209 rfl h (fun v1 h => ?_)
  refine r_aload_n rfl rfl ?_
  refine r_getI rfl fl_12_212 rfl h (fun v2 h => ?_)
  refine r_ic_ge 439 rfl (by decide) h (fun h => ?_) (fun h => ?_)
  · exact r_vret rfl rfl ⟨Nat.le_of_ble_eq_true rfl, Nat.le_of_ble_eq_true rfl⟩ h
  · refine r_aload_n rfl rfl ?_
    refine r_getR rfl fl_12_16 rfl h (fun v3 h => ?_)
    refine r_aload_n rfl rfl ?_
    refine r_getI rfl fl_12_209 rfl h (fun v4 h => ?_)
    refine r_bald rfl h (fun v5 h => ?_)
    refine r_bipush (v := 48) rfl (by decide) ?_
    refine r_bipush (v := 57) rfl (by decide) ?_
    refine r_cs_i (vs := [.int v5, .int (48 : Int32), .int (57 : Int32)]) rfl ml_12_151 (rOk.of rfl) ⟨Nat.zero_le _, Nat.zero_le _⟩ rfl rfl rfl h s_X12_in (fun v6 M1 h => ?_)
    refine r_if_eq 439 rfl (by decide) h (fun h => ?_) (fun h => ?_)
    · exact r_vret rfl rfl ⟨Nat.le_of_ble_eq_true rfl, Nat.le_of_ble_eq_true rfl⟩ h
    · refine r_aload_n rfl rfl ?_
      refine r_aload_n rfl rfl ?_
      refine r_getI rfl fl_12_230 rfl h (fun v7 h => ?_)
      refine r_ldc rfl kc_12_233 ?_
      refine r_ic_le 279 rfl (by decide) h (fun h => ?_) (fun h => ?_)
      · refine r_bipush (v := 10) rfl (by decide) ?_
        refine r_aload_n rfl rfl ?_
        refine r_getI rfl fl_12_230 rfl h (fun v8 h => ?_)
        refine r_imul rfl ?_
        refine r_aload_n rfl rfl ?_
        refine r_getR rfl fl_12_16 rfl h (fun v9 h => ?_)
        refine r_aload_n rfl rfl ?_
        refine r_getI rfl fl_12_209 rfl h (fun v10 h => ?_)
        refine r_bald rfl h (fun v11 h => ?_)
        refine r_iadd rfl ?_
        refine r_bipush (v := 48) rfl (by decide) ?_
        refine r_isub rfl ?_
        refine r_putI rfl fl_12_230 (fun z => by cases z) rfl h (fun M2 h => ?_)
        refine r_aload_n rfl rfl ?_
        refine r_dup rfl (cat_rf _) ?_
        refine r_getI rfl fl_12_209 rfl h (fun v12 h => ?_)
        refine r_iconst (v := 1) rfl (by decide) ?_
        refine r_iadd rfl ?_
        refine r_putI rfl fl_12_209 (fun z => by cases z) rfl h (fun M3 h => ?_)
        refine r_goto 232 rfl (by decide) ?_
        exact hq232 _ _ h
      · refine r_aload_n rfl rfl ?_
        refine r_getI rfl fl_12_230 rfl h (fun v13 h => ?_)
        refine r_goto 299 rfl (by decide) ?_
        refine r_putI rfl fl_12_230 (fun z => by cases z) rfl h (fun M4 h => ?_)
        refine r_aload_n rfl rfl ?_
        refine r_dup rfl (cat_rf _) ?_
        refine r_getI rfl fl_12_209 rfl h (fun v14 h => ?_)
        refine r_iconst (v := 1) rfl (by decide) ?_
        refine r_iadd rfl ?_
        refine r_putI rfl fl_12_209 (fun z => by cases z) rfl h (fun M5 h => ?_)
        refine r_goto 232 rfl (by decide) ?_
        exact hq232 _ _ h
theorem s_X12_next_232 {d : Nat} {P : Unit → Mem → Prop}   : ∀ (k : Nat) (r0 : Option Nat) (M : Mem), FQ (f_X12_next_232  k r0 M) P → wp Y_X12_next (rmD (d + 2) 0 0) (FM (QV P) 0 0) 0 0 232 [some (va_rf r0), none, none, none, none] [] M
  | 0, _, _, h => h.no
  | k + 1, r0, M, h => sb_X12_next_232  (s_X12_next_232  k) r0 M h
theorem s_X12_next_173 {d : Nat} {P : Unit → Mem → Prop}   (r0 : Option Nat) (l2 : Int64) (i4 : Int32) (M : Mem) (h : FQ (f_X12_next_173  r0 l2 i4 M) P) : wp Y_X12_next (rmD (d + 2) 0 0) (FM (QV P) 0 0) 0 0 173 [some (va_rf r0), none, some (.long l2), none, some (.int i4)] [] M := by
  unfold f_X12_next_173 at h
  refine r_aload_n rfl rfl ?_
  refine r_iload rfl rfl ?_
  refine r_bipush (v := 7) rfl (by decide) ?_
  refine r_ic_le 185 rfl (by decide) h (fun h => ?_) (fun h => ?_)
  · refine r_lload_n rfl rfl ?_
    refine r_cs_i (vs := [.long l2]) rfl ml_12_226 (rOk.of rfl) ⟨Nat.zero_le _, Nat.zero_le _⟩ rfl rfl rfl h s_X12_wordOf (fun v1 M1 h => ?_)
    refine r_putI rfl fl_12_230 (fun z => by cases z) rfl h (fun M2 h => ?_)
    refine r_aload_n rfl rfl ?_
    refine r_aload_n rfl rfl ?_
    refine r_getI rfl fl_12_230 rfl h (fun v2 h => ?_)
    refine r_if_ge 204 rfl (by decide) h (fun h => ?_) (fun h => ?_)
    · refine r_iconst (v := 1) rfl (by decide) ?_
      refine r_putI rfl fl_12_218 (fun z => by cases z) rfl h (fun M3 h => ?_)
      refine r_goto 439 rfl (by decide) ?_
      exact r_vret rfl rfl ⟨Nat.le_of_ble_eq_true rfl, Nat.le_of_ble_eq_true rfl⟩ h
    · refine r_iconst (v := 4) rfl (by decide) ?_
      refine r_goto 205 rfl (by decide) ?_
      refine r_putI rfl fl_12_218 (fun z => by cases z) rfl h (fun M4 h => ?_)
      refine r_goto 439 rfl (by decide) ?_
      exact r_vret rfl rfl ⟨Nat.le_of_ble_eq_true rfl, Nat.le_of_ble_eq_true rfl⟩ h
  · refine r_iconst (v := -1) rfl (by decide) ?_
    refine r_goto 189 rfl (by decide) ?_
    refine r_putI rfl fl_12_230 (fun z => by cases z) rfl h (fun M5 h => ?_)
    refine r_aload_n rfl rfl ?_
    refine r_aload_n rfl rfl ?_
    refine r_getI rfl fl_12_230 rfl h (fun v3 h => ?_)
    refine r_if_ge 204 rfl (by decide) h (fun h => ?_) (fun h => ?_)
    · refine r_iconst (v := 1) rfl (by decide) ?_
      refine r_putI rfl fl_12_218 (fun z => by cases z) rfl h (fun M6 h => ?_)
      refine r_goto 439 rfl (by decide) ?_
      exact r_vret rfl rfl ⟨Nat.le_of_ble_eq_true rfl, Nat.le_of_ble_eq_true rfl⟩ h
    · refine r_iconst (v := 4) rfl (by decide) ?_
      refine r_goto 205 rfl (by decide) ?_
      refine r_putI rfl fl_12_218 (fun z => by cases z) rfl h (fun M7 h => ?_)
      refine r_goto 439 rfl (by decide) ?_
      exact r_vret rfl rfl ⟨Nat.le_of_ble_eq_true rfl, Nat.le_of_ble_eq_true rfl⟩ h
theorem sb_X12_next_99 {d : Nat} {P : Unit → Mem → Prop} {q99 : Option Nat → Int64 → Int32 → Mem → Option (Unit × Mem)} (hq99 : ∀ (r0 : Option Nat) (l2 : Int64) (i4 : Int32) (M : Mem), FQ (q99 r0 l2 i4 M) P → wp Y_X12_next (rmD (d + 2) 0 0) (FM (QV P) 0 0) 0 0 99 [some (va_rf r0), none, some (.long l2), none, some (.int i4)] [] M) (r0 : Option Nat) (l2 : Int64) (i4 : Int32) (M : Mem) (h : FQ (b_X12_next_99 q99 r0 l2 i4 M) P) : wp Y_X12_next (rmD (d + 2) 0 0) (FM (QV P) 0 0) 0 0 99 [some (va_rf r0), none, some (.long l2), none, some (.int i4)] [] M := by
  unfold b_X12_next_99 at h
  refine r_aload_n rfl rfl ?_
  refine r_getI rfl fl_12_209 rfl h (fun v1 h => ?_)
  refine r_aload_n rfl rfl ?_
  refine r_getI rfl fl_12_212 rfl h (fun v2 h => ?_)
  refine r_ic_ge 173 rfl (by decide) h (fun h => ?_) (fun h => ?_)
  · exact s_X12_next_173 _ _ _ _ h
  · refine r_aload_n rfl rfl ?_
    refine r_getR rfl fl_12_16 rfl h (fun v3 h => ?_)
    refine r_aload_n rfl rfl ?_
    refine r_getI rfl fl_12_209 rfl h (fun v4 h => ?_)
    refine r_bald rfl h (fun v5 h => ?_)
    refine r_cs_i (vs := [.int v5]) rfl ml_12_221 (rOk.of rfl) ⟨Nat.zero_le _, Nat.zero_le _⟩ rfl rfl rfl h s_X12_isLetter (fun v6 M1 h => ?_)
    refine r_if_eq 173 rfl (by decide) h (fun h => ?_) (fun h => ?_)
    · exact s_X12_next_173 _ _ _ _ h
    · refine r_iload rfl rfl ?_
      refine r_bipush (v := 8) rfl (by decide) ?_
      refine r_ic_ge 155 rfl (by decide) h (fun h => ?_) (fun h => ?_)
      · refine r_lload_n rfl rfl ?_
        refine r_lstore_n (lo' := [some (va_rf r0), none, some (.long l2), none, some (.int i4)]) rfl rfl rfl rfl ?_
        refine r_iinc (v := 1) (lo' := [some (va_rf r0), none, some (.long l2), none, some (.int (i4 + (1 : Int32)))]) rfl rfl rfl (by decide) rfl rfl ?_
        refine r_aload_n rfl rfl ?_
        refine r_dup rfl (cat_rf _) ?_
        refine r_getI rfl fl_12_209 rfl h (fun v7 h => ?_)
        refine r_iconst (v := 1) rfl (by decide) ?_
        refine r_iadd rfl ?_
        refine r_putI rfl fl_12_209 (fun z => by cases z) rfl h (fun M2 h => ?_)
        refine r_goto 99 rfl (by decide) ?_
        exact hq99 _ _ _ _ h
      · refine r_ldc2 rfl kl_12_224 ?_
        refine r_lload_n rfl rfl ?_
        refine r_lmul rfl ?_
        refine r_aload_n rfl rfl ?_
        refine r_getR rfl fl_12_16 rfl h (fun v8 h => ?_)
        refine r_aload_n rfl rfl ?_
        refine r_getI rfl fl_12_209 rfl h (fun v9 h => ?_)
        refine r_bald rfl h (fun v10 h => ?_)
        refine r_i2l rfl ?_
        refine r_ladd rfl ?_
        refine r_ldc2 rfl kl_12_224 ?_
        refine r_lsub rfl ?_
        refine r_goto 156 rfl (by decide) ?_
        refine r_lstore_n (lo' := [some (va_rf r0), none, some (.long ((((64 : Int64) * l2) + v10.toInt64) - (64 : Int64))), none, some (.int i4)]) rfl rfl rfl rfl ?_
        refine r_iinc (v := 1) (lo' := [some (va_rf r0), none, some (.long ((((64 : Int64) * l2) + v10.toInt64) - (64 : Int64))), none, some (.int (i4 + (1 : Int32)))]) rfl rfl rfl (by decide) rfl rfl ?_
        refine r_aload_n rfl rfl ?_
        refine r_dup rfl (cat_rf _) ?_
        refine r_getI rfl fl_12_209 rfl h (fun v11 h => ?_)
        refine r_iconst (v := 1) rfl (by decide) ?_
        refine r_iadd rfl ?_
        refine r_putI rfl fl_12_209 (fun z => by cases z) rfl h (fun M3 h => ?_)
        refine r_goto 99 rfl (by decide) ?_
        exact hq99 _ _ _ _ h
theorem s_X12_next_99 {d : Nat} {P : Unit → Mem → Prop}   : ∀ (k : Nat) (r0 : Option Nat) (l2 : Int64) (i4 : Int32) (M : Mem), FQ (f_X12_next_99  k r0 l2 i4 M) P → wp Y_X12_next (rmD (d + 2) 0 0) (FM (QV P) 0 0) 0 0 99 [some (va_rf r0), none, some (.long l2), none, some (.int i4)] [] M
  | 0, _, _, _, _, h => h.no
  | k + 1, r0, l2, i4, M, h => sb_X12_next_99  (s_X12_next_99  k) r0 l2 i4 M h
theorem s_X12_next_52 {d : Nat} {P : Unit → Mem → Prop}   (r0 : Option Nat) (M : Mem) (h : FQ (f_X12_next_52  r0 M) P) : wp Y_X12_next (rmD (d + 2) 0 0) (FM (QV P) 0 0) 0 0 52 [some (va_rf r0), none, none, none, none] [] M := by
  unfold f_X12_next_52 at h
  refine r_aload_n rfl rfl ?_
  refine r_aload_n rfl rfl ?_
  refine r_getI rfl fl_12_209 rfl h (fun v1 h => ?_)
  refine r_putI rfl fl_12_215 (fun z => by cases z) rfl h (fun M1 h => ?_)
  refine r_aload_n rfl rfl ?_
  refine r_getI rfl fl_12_209 rfl h (fun v2 h => ?_)
  refine r_aload_n rfl rfl ?_
  refine r_getI rfl fl_12_212 rfl h (fun v3 h => ?_)
  refine r_ic_ne 77 rfl (by decide) h (fun h => ?_) (fun h => ?_)
  · refine r_aload_n rfl rfl ?_
    refine r_iconst (v := 0) rfl (by decide) ?_
    refine r_putI rfl fl_12_218 (fun z => by cases z) rfl h (fun M2 h => ?_)
    exact r_vret rfl rfl ⟨Nat.le_of_ble_eq_true rfl, Nat.le_of_ble_eq_true rfl⟩ h
  · refine r_aload_n rfl rfl ?_
    refine r_getR rfl fl_12_16 rfl h (fun v4 h => ?_)
    refine r_aload_n rfl rfl ?_
    refine r_getI rfl fl_12_209 rfl h (fun v5 h => ?_)
    refine r_bald rfl h (fun v6 h => ?_)
    refine r_istore_n (lo' := [some (va_rf r0), some (.int v6), none, none, none]) rfl rfl (by simp [stOk, cat_rf]) rfl ?_
    refine r_iload_n rfl rfl ?_
    refine r_cs_i (vs := [.int v6]) rfl ml_12_221 (rOk.of rfl) ⟨Nat.zero_le _, Nat.zero_le _⟩ rfl rfl rfl h s_X12_isLetter (fun v7 M3 h => ?_)
    refine r_if_eq 211 rfl (by decide) h (fun h => ?_) (fun h => ?_)
    · refine r_iload_n rfl rfl ?_
      refine r_bipush (v := 48) rfl (by decide) ?_
      refine r_bipush (v := 57) rfl (by decide) ?_
      refine r_cs_i (vs := [.int v6, .int (48 : Int32), .int (57 : Int32)]) rfl ml_12_151 (rOk.of rfl) ⟨Nat.zero_le _, Nat.zero_le _⟩ rfl rfl rfl h s_X12_in (fun v8 M4 h => ?_)
      refine r_if_eq 315 rfl (by decide) h (fun h => ?_) (fun h => ?_)
      · refine r_aload_n rfl rfl ?_
        refine r_dup rfl (cat_rf _) ?_
        refine r_getI rfl fl_12_209 rfl h (fun v9 h => ?_)
        refine r_iconst (v := 1) rfl (by decide) ?_
        refine r_iadd rfl ?_
        refine r_putI rfl fl_12_209 (fun z => by cases z) rfl h (fun M5 h => ?_)
        refine r_aload_n rfl rfl ?_
        refine r_iload_n rfl rfl ?_
        refine r_putI rfl fl_12_230 (fun z => by cases z) rfl h (fun M6 h => ?_)
        refine r_aload_n rfl rfl ?_
        refine r_iload_n rfl rfl ?_
        refine r_bipush (v := 59) rfl (by decide) ?_
        refine r_bipush (v := 62) rfl (by decide) ?_
        refine r_cs_i (vs := [.int v6, .int (59 : Int32), .int (62 : Int32)]) rfl ml_12_151 (rOk.of rfl) ⟨Nat.zero_le _, Nat.zero_le _⟩ rfl rfl rfl h s_X12_in (fun v10 M7 h => ?_)
        refine r_if_ne 365 rfl (by decide) h (fun h => ?_) (fun h => ?_)
        · refine r_iload_n rfl rfl ?_
          refine r_bipush (v := 40) rfl (by decide) ?_
          refine r_bipush (v := 45) rfl (by decide) ?_
          refine r_cs_i (vs := [.int v6, .int (40 : Int32), .int (45 : Int32)]) rfl ml_12_151 (rOk.of rfl) ⟨Nat.zero_le _, Nat.zero_le _⟩ rfl rfl rfl h s_X12_in (fun v11 M8 h => ?_)
          refine r_if_ne 365 rfl (by decide) h (fun h => ?_) (fun h => ?_)
          · refine r_iload_n rfl rfl ?_
            refine r_bipush (v := 47) rfl (by decide) ?_
            refine r_ic_eq 365 rfl (by decide) h (fun h => ?_) (fun h => ?_)
            · refine r_iconst (v := 3) rfl (by decide) ?_
              refine r_goto 370 rfl (by decide) ?_
              refine r_putI rfl fl_12_218 (fun z => by cases z) rfl h (fun M9 h => ?_)
              refine r_iload_n rfl rfl ?_
              refine r_bipush (v := 60) rfl (by decide) ?_
              refine r_ic_eq 385 rfl (by decide) h (fun h => ?_) (fun h => ?_)
              · exact s_X12_next_385 _ _ _ h
              · refine r_iload_n rfl rfl ?_
                refine r_bipush (v := 62) rfl (by decide) ?_
                refine r_ic_ne 439 rfl (by decide) h (fun h => ?_) (fun h => ?_)
                · exact s_X12_next_385 _ _ _ h
                · exact r_vret rfl rfl ⟨Nat.le_of_ble_eq_true rfl, Nat.le_of_ble_eq_true rfl⟩ h
            · refine r_iload_n rfl rfl ?_
              refine r_bipush (v := 35) rfl (by decide) ?_
              refine r_ic_ne 369 rfl (by decide) h (fun h => ?_) (fun h => ?_)
              · refine r_iconst (v := 3) rfl (by decide) ?_
                refine r_goto 370 rfl (by decide) ?_
                refine r_putI rfl fl_12_218 (fun z => by cases z) rfl h (fun M10 h => ?_)
                refine r_iload_n rfl rfl ?_
                refine r_bipush (v := 60) rfl (by decide) ?_
                refine r_ic_eq 385 rfl (by decide) h (fun h => ?_) (fun h => ?_)
                · exact s_X12_next_385 _ _ _ h
                · refine r_iload_n rfl rfl ?_
                  refine r_bipush (v := 62) rfl (by decide) ?_
                  refine r_ic_ne 439 rfl (by decide) h (fun h => ?_) (fun h => ?_)
                  · exact s_X12_next_385 _ _ _ h
                  · exact r_vret rfl rfl ⟨Nat.le_of_ble_eq_true rfl, Nat.le_of_ble_eq_true rfl⟩ h
              · refine r_iconst (v := 4) rfl (by decide) ?_
                refine r_putI rfl fl_12_218 (fun z => by cases z) rfl h (fun M11 h => ?_)
                refine r_iload_n rfl rfl ?_
                refine r_bipush (v := 60) rfl (by decide) ?_
                refine r_ic_eq 385 rfl (by decide) h (fun h => ?_) (fun h => ?_)
                · exact s_X12_next_385 _ _ _ h
                · refine r_iload_n rfl rfl ?_
                  refine r_bipush (v := 62) rfl (by decide) ?_
                  refine r_ic_ne 439 rfl (by decide) h (fun h => ?_) (fun h => ?_)
                  · exact s_X12_next_385 _ _ _ h
                  · exact r_vret rfl rfl ⟨Nat.le_of_ble_eq_true rfl, Nat.le_of_ble_eq_true rfl⟩ h
          · refine r_iconst (v := 3) rfl (by decide) ?_
            refine r_goto 370 rfl (by decide) ?_
            refine r_putI rfl fl_12_218 (fun z => by cases z) rfl h (fun M12 h => ?_)
            refine r_iload_n rfl rfl ?_
            refine r_bipush (v := 60) rfl (by decide) ?_
            refine r_ic_eq 385 rfl (by decide) h (fun h => ?_) (fun h => ?_)
            · exact s_X12_next_385 _ _ _ h
            · refine r_iload_n rfl rfl ?_
              refine r_bipush (v := 62) rfl (by decide) ?_
              refine r_ic_ne 439 rfl (by decide) h (fun h => ?_) (fun h => ?_)
              · exact s_X12_next_385 _ _ _ h
              · exact r_vret rfl rfl ⟨Nat.le_of_ble_eq_true rfl, Nat.le_of_ble_eq_true rfl⟩ h
        · refine r_iconst (v := 3) rfl (by decide) ?_
          refine r_goto 370 rfl (by decide) ?_
          refine r_putI rfl fl_12_218 (fun z => by cases z) rfl h (fun M13 h => ?_)
          refine r_iload_n rfl rfl ?_
          refine r_bipush (v := 60) rfl (by decide) ?_
          refine r_ic_eq 385 rfl (by decide) h (fun h => ?_) (fun h => ?_)
          · exact s_X12_next_385 _ _ _ h
          · refine r_iload_n rfl rfl ?_
            refine r_bipush (v := 62) rfl (by decide) ?_
            refine r_ic_ne 439 rfl (by decide) h (fun h => ?_) (fun h => ?_)
            · exact s_X12_next_385 _ _ _ h
            · exact r_vret rfl rfl ⟨Nat.le_of_ble_eq_true rfl, Nat.le_of_ble_eq_true rfl⟩ h
      · refine r_aload_n rfl rfl ?_
        refine r_iconst (v := 2) rfl (by decide) ?_
        refine r_putI rfl fl_12_218 (fun z => by cases z) rfl h (fun M14 h => ?_)
        refine r_aload_n rfl rfl ?_
        refine r_iconst (v := 0) rfl (by decide) ?_
        refine r_putI rfl fl_12_230 (fun z => by cases z) rfl h (fun M15 h => ?_)
        refine r_msk [true, false, true, true, true] rfl ?_
        exact s_X12_next_232 FU _ _ h
    · refine r_lconst (v := 0) rfl (by decide) ?_
      refine r_lstore_n (lo' := [some (va_rf r0), some (.int v6), some (.long (0 : Int64)), none, none]) rfl rfl rfl rfl ?_
      refine r_iconst (v := 0) rfl (by decide) ?_
      refine r_istore (lo' := [some (va_rf r0), some (.int v6), some (.long (0 : Int64)), none, some (.int (0 : Int32))]) rfl rfl rfl rfl ?_
      refine r_msk [true, false, true, true, true] rfl ?_
      exact s_X12_next_99 FU _ _ _ _ h
theorem sb_X12_next_0 {d : Nat} {P : Unit → Mem → Prop} {q0 : Option Nat → Mem → Option (Unit × Mem)} (hq0 : ∀ (r0 : Option Nat) (M : Mem), FQ (q0 r0 M) P → wp Y_X12_next (rmD (d + 2) 0 0) (FM (QV P) 0 0) 0 0 0 [some (va_rf r0), none, none, none, none] [] M) (r0 : Option Nat) (M : Mem) (h : FQ (b_X12_next_0 q0 r0 M) P) : wp Y_X12_next (rmD (d + 2) 0 0) (FM (QV P) 0 0) 0 0 0 [some (va_rf r0), none, none, none, none] [] M := by
  unfold b_X12_next_0 at h
  refine r_aload_n rfl rfl ?_
  refine r_getI rfl fl_12_209 rfl h (fun v1 h => ?_)
  refine r_aload_n rfl rfl ?_
  refine r_getI rfl fl_12_212 rfl h (fun v2 h => ?_)
  refine r_ic_ge 52 rfl (by decide) h (fun h => ?_) (fun h => ?_)
  · exact s_X12_next_52 _ _ h
  · refine r_aload_n rfl rfl ?_
    refine r_getR rfl fl_12_16 rfl h (fun v3 h => ?_)
    refine r_aload_n rfl rfl ?_
    refine r_getI rfl fl_12_209 rfl h (fun v4 h => ?_)
    refine r_bald rfl h (fun v5 h => ?_)
    refine r_bipush (v := 32) rfl (by decide) ?_
    refine r_ic_eq 39 rfl (by decide) h (fun h => ?_) (fun h => ?_)
    · refine r_aload_n rfl rfl ?_
      refine r_dup rfl (cat_rf _) ?_
      refine r_getI rfl fl_12_209 rfl h (fun v6 h => ?_)
      refine r_iconst (v := 1) rfl (by decide) ?_
      refine r_iadd rfl ?_
      refine r_putI rfl fl_12_209 (fun z => by cases z) rfl h (fun M1 h => ?_)
      refine r_goto 0 rfl (by decide) ?_
      exact hq0 _ _ h
    · refine r_aload_n rfl rfl ?_
      refine r_getR rfl fl_12_16 rfl h (fun v7 h => ?_)
      refine r_aload_n rfl rfl ?_
      refine r_getI rfl fl_12_209 rfl h (fun v8 h => ?_)
      refine r_bald rfl h (fun v9 h => ?_)
      refine r_bipush (v := 10) rfl (by decide) ?_
      refine r_ic_ne 52 rfl (by decide) h (fun h => ?_) (fun h => ?_)
      · refine r_aload_n rfl rfl ?_
        refine r_dup rfl (cat_rf _) ?_
        refine r_getI rfl fl_12_209 rfl h (fun v10 h => ?_)
        refine r_iconst (v := 1) rfl (by decide) ?_
        refine r_iadd rfl ?_
        refine r_putI rfl fl_12_209 (fun z => by cases z) rfl h (fun M2 h => ?_)
        refine r_goto 0 rfl (by decide) ?_
        exact hq0 _ _ h
      · exact s_X12_next_52 _ _ h
theorem s_X12_next_0 {d : Nat} {P : Unit → Mem → Prop}   : ∀ (k : Nat) (r0 : Option Nat) (M : Mem), FQ (f_X12_next_0  k r0 M) P → wp Y_X12_next (rmD (d + 2) 0 0) (FM (QV P) 0 0) 0 0 0 [some (va_rf r0), none, none, none, none] [] M
  | 0, _, _, h => h.no
  | k + 1, r0, M, h => sb_X12_next_0  (s_X12_next_0  k) r0 M h
theorem s_X12_next {d : Nat} {P : Unit → Mem → Prop} {r0 : Option Nat} {M : Mem} (h : FQ (f_X12_next r0 M) P) : Con Y_X12_next (d + 2) 0 0 [va_rf r0] M (QV P) := by
  refine Con.of [some (va_rf r0), none, none, none, none] (by decide +kernel) dk_X12_next (by simp [Y_X12_next, cat_rf, cat_i, cat_l]) (by simp [loE, Y_X12_next, cat_rf, cat_i, cat_l, List.replicate]) ?_
  unfold f_X12_next at h
  exact s_X12_next_0 FU _ _ h
set_option maxRecDepth 20000 in
theorem dk_X12_opensSign : ∀ pc i, L_X12_opensSign[pc]? = some (some i) → decode prog_14_method_21_code pc = .ok i := dk_of (by decide +kernel)
theorem s_X12_opensSign {d : Nat} {P : Int32 → Mem → Prop} {r0 : Option Nat} {i1 : Int32} {M : Mem} (h : FQ (f_X12_opensSign r0 i1 M) P) : Con Y_X12_opensSign (d + 3) 0 0 [va_rf r0, .int i1] M (QI P) := by
  refine Con.of [some (va_rf r0), some (.int i1)] (by decide +kernel) dk_X12_opensSign (by simp [Y_X12_opensSign, cat_rf, cat_i, cat_l]) (by simp [loE, Y_X12_opensSign, cat_rf, cat_i, cat_l, List.replicate]) ?_
  unfold f_X12_opensSign at h
  refine r_aload_n rfl rfl ?_
  refine r_getI rfl fl_12_246 rfl h (fun v1 h => ?_)
  refine r_bipush (v := 8) rfl (by decide) ?_
  refine r_ic_ne 16 rfl (by decide) h (fun h => ?_) (fun h => ?_)
  · refine r_aload_n rfl rfl ?_
    refine r_iconst (v := 3) rfl (by decide) ?_
    refine r_cv_v (vs := [.int (3 : Int32)]) rfl ml_12_249 rfl (rOk.of rfl) ⟨Nat.zero_le _, Nat.zero_le _⟩ rfl rfl rfl h s_X12_errs (fun _ M1 h => ?_)
    refine r_iconst (v := 0) rfl (by decide) ?_
    exact r_zret rfl rfl ⟨Nat.le_of_ble_eq_true rfl, Nat.le_of_ble_eq_true rfl⟩ h
  · refine r_aload_n rfl rfl ?_
    refine r_dup rfl (cat_rf _) ?_
    refine r_getI rfl fl_12_246 rfl h (fun v2 h => ?_)
    refine r_iconst (v := 1) rfl (by decide) ?_
    refine r_iadd rfl ?_
    refine r_putI rfl fl_12_246 (fun z => by cases z) rfl h (fun M2 h => ?_)
    refine r_aload_n rfl rfl ?_
    refine r_iload_n rfl rfl ?_
    refine r_cv_v (vs := [.int i1]) rfl ml_12_252 rfl (rOk.of rfl) ⟨Nat.zero_le _, Nat.zero_le _⟩ rfl rfl rfl h s_X12_opensFrame (fun _ M3 h => ?_)
    refine r_aload_n rfl rfl ?_
    refine r_cv_v (vs := []) rfl ml_12_255 rfl (rOk.of rfl) ⟨Nat.zero_le _, Nat.zero_le _⟩ rfl rfl rfl h s_X12_next (fun _ M4 h => ?_)
    refine r_iconst (v := 1) rfl (by decide) ?_
    exact r_zret rfl rfl ⟨Nat.le_of_ble_eq_true rfl, Nat.le_of_ble_eq_true rfl⟩ h
set_option maxRecDepth 20000 in
theorem dk_X12_asks : ∀ pc i, L_X12_asks[pc]? = some (some i) → decode prog_14_method_25_code pc = .ok i := dk_of (by decide +kernel)
theorem s_X12_asks {d : Nat} {P : Unit → Mem → Prop} {r0 : Option Nat} {M : Mem} (h : FQ (f_X12_asks r0 M) P) : Con Y_X12_asks (d + 4) 0 0 [va_rf r0] M (QV P) := by
  refine Con.of [some (va_rf r0), none] (by decide +kernel) dk_X12_asks (by simp [Y_X12_asks, cat_rf, cat_i, cat_l]) (by simp [loE, Y_X12_asks, cat_rf, cat_i, cat_l, List.replicate]) ?_
  unfold f_X12_asks at h
  refine r_aload_n rfl rfl ?_
  refine r_bipush (v := 13) rfl (by decide) ?_
  refine r_cv_i (vs := [.int (13 : Int32)]) rfl ml_12_272 rfl (rOk.of rfl) ⟨Nat.zero_le _, Nat.zero_le _⟩ rfl rfl rfl h s_X12_isWord (fun v1 M1 h => ?_)
  refine r_if_eq 18 rfl (by decide) h (fun h => ?_) (fun h => ?_)
  · refine r_aload_n rfl rfl ?_
    refine r_iconst (v := 4) rfl (by decide) ?_
    refine r_cv_v (vs := [.int (4 : Int32)]) rfl ml_12_252 rfl (rOk.of rfl) ⟨Nat.zero_le _, Nat.zero_le _⟩ rfl rfl rfl h s_X12_opensFrame (fun _ M2 h => ?_)
    refine r_aload_n rfl rfl ?_
    refine r_iconst (v := 1) rfl (by decide) ?_
    refine r_putI rfl fl_12_278 (fun z => by cases z) rfl h (fun M3 h => ?_)
    exact r_vret rfl rfl ⟨Nat.le_of_ble_eq_true rfl, Nat.le_of_ble_eq_true rfl⟩ h
  · refine r_aload_n rfl rfl ?_
    refine r_iconst (v := 3) rfl (by decide) ?_
    refine r_cv_i (vs := [.int (3 : Int32)]) rfl ml_12_275 rfl (rOk.of rfl) ⟨Nat.zero_le _, Nat.zero_le _⟩ rfl rfl rfl h s_X12_opensSign (fun v2 M4 h => ?_)
    refine r_istore_n (lo' := [some (va_rf r0), some (.int v2)]) rfl rfl (by simp [stOk, cat_rf]) rfl ?_
    refine r_goto 28 rfl (by decide) ?_
    exact r_vret rfl rfl ⟨Nat.le_of_ble_eq_true rfl, Nat.le_of_ble_eq_true rfl⟩ h
set_option maxRecDepth 20000 in
theorem dk_X12_emits : ∀ pc i, L_X12_emits[pc]? = some (some i) → decode prog_14_method_18_code pc = .ok i := dk_of (by decide +kernel)
theorem s_X12_emits {d : Nat} {P : Unit → Mem → Prop} {r0 : Option Nat} {i1 : Int32} {i2 : Int32} {M : Mem} (h : FQ (f_X12_emits r0 i1 i2 M) P) : Con Y_X12_emits d 0 0 [va_rf r0, .int i1, .int i2] M (QV P) := by
  refine Con.of [some (va_rf r0), some (.int i1), some (.int i2)] (by decide +kernel) dk_X12_emits (by simp [Y_X12_emits, cat_rf, cat_i, cat_l]) (by simp [loE, Y_X12_emits, cat_rf, cat_i, cat_l, List.replicate]) ?_
  unfold f_X12_emits at h
  refine r_aload_n rfl rfl ?_
  refine r_getR rfl fl_12_75 rfl h (fun v1 h => ?_)
  refine r_aload_n rfl rfl ?_
  refine r_getI rfl fl_12_240 rfl h (fun v2 h => ?_)
  refine r_iload_n rfl rfl ?_
  refine r_iast rfl h (fun M1 h => ?_)
  refine r_aload_n rfl rfl ?_
  refine r_getR rfl fl_12_78 rfl h (fun v3 h => ?_)
  refine r_aload_n rfl rfl ?_
  refine r_getI rfl fl_12_240 rfl h (fun v4 h => ?_)
  refine r_iload_n rfl rfl ?_
  refine r_iast rfl h (fun M2 h => ?_)
  refine r_aload_n rfl rfl ?_
  refine r_dup rfl (cat_rf _) ?_
  refine r_getI rfl fl_12_240 rfl h (fun v5 h => ?_)
  refine r_iconst (v := 1) rfl (by decide) ?_
  refine r_iadd rfl ?_
  refine r_putI rfl fl_12_240 (fun z => by cases z) rfl h (fun M3 h => ?_)
  exact r_vret rfl rfl ⟨Nat.le_of_ble_eq_true rfl, Nat.le_of_ble_eq_true rfl⟩ h
set_option maxRecDepth 20000 in
theorem dk_X12_rank : ∀ pc i, L_X12_rank[pc]? = some (some i) → decode prog_14_method_22_code pc = .ok i := dk_of (by decide +kernel)
theorem s_X12_rank {d : Nat} {P : Int32 → Mem → Prop} {i0 : Int32} {M : Mem} (h : FQ (f_X12_rank i0 M) P) : Con Y_X12_rank d 0 0 [.int i0] M (QI P) := by
  refine Con.of [some (.int i0)] (by decide +kernel) dk_X12_rank (by simp [Y_X12_rank, cat_rf, cat_i, cat_l]) (by simp [loE, Y_X12_rank, cat_rf, cat_i, cat_l, List.replicate]) ?_
  unfold f_X12_rank at h
  refine r_iload_n rfl rfl ?_
  refine r_sipush (v := 407) rfl (by decide) ?_
  refine r_ic_ne 11 rfl (by decide) h (fun h => ?_) (fun h => ?_)
  · refine r_iconst (v := 1) rfl (by decide) ?_
    refine r_goto 39 rfl (by decide) ?_
    exact r_iret rfl rfl ⟨Nat.le_of_ble_eq_true rfl, Nat.le_of_ble_eq_true rfl⟩ h
  · refine r_iload_n rfl rfl ?_
    refine r_sipush (v := 406) rfl (by decide) ?_
    refine r_ic_ne 22 rfl (by decide) h (fun h => ?_) (fun h => ?_)
    · refine r_iconst (v := 2) rfl (by decide) ?_
      refine r_goto 39 rfl (by decide) ?_
      exact r_iret rfl rfl ⟨Nat.le_of_ble_eq_true rfl, Nat.le_of_ble_eq_true rfl⟩ h
    · refine r_iload_n rfl rfl ?_
      refine r_bipush (v := 43) rfl (by decide) ?_
      refine r_ic_eq 34 rfl (by decide) h (fun h => ?_) (fun h => ?_)
      · refine r_iconst (v := 3) rfl (by decide) ?_
        refine r_goto 39 rfl (by decide) ?_
        exact r_iret rfl rfl ⟨Nat.le_of_ble_eq_true rfl, Nat.le_of_ble_eq_true rfl⟩ h
      · refine r_iload_n rfl rfl ?_
        refine r_bipush (v := 45) rfl (by decide) ?_
        refine r_ic_ne 38 rfl (by decide) h (fun h => ?_) (fun h => ?_)
        · refine r_iconst (v := 3) rfl (by decide) ?_
          refine r_goto 39 rfl (by decide) ?_
          exact r_iret rfl rfl ⟨Nat.le_of_ble_eq_true rfl, Nat.le_of_ble_eq_true rfl⟩ h
        · refine r_iconst (v := 4) rfl (by decide) ?_
          exact r_iret rfl rfl ⟨Nat.le_of_ble_eq_true rfl, Nat.le_of_ble_eq_true rfl⟩ h
set_option maxRecDepth 20000 in
theorem dk_X12_works : ∀ pc i, L_X12_works[pc]? = some (some i) → decode prog_14_method_23_code pc = .ok i := dk_of (by decide +kernel)
theorem sb_X12_works_0 {d : Nat} {P : Unit → Mem → Prop} {q0 : Option Nat → Int32 → Mem → Option (Unit × Mem)} (hq0 : ∀ (r0 : Option Nat) (i1 : Int32) (M : Mem), FQ (q0 r0 i1 M) P → wp Y_X12_works (rmD (d + 1) 0 0) (FM (QV P) 0 0) 0 0 0 [some (va_rf r0), some (.int i1)] [] M) (r0 : Option Nat) (i1 : Int32) (M : Mem) (h : FQ (b_X12_works_0 q0 r0 i1 M) P) : wp Y_X12_works (rmD (d + 1) 0 0) (FM (QV P) 0 0) 0 0 0 [some (va_rf r0), some (.int i1)] [] M := by
  unfold b_X12_works_0 at h
  refine r_aload_n rfl rfl ?_
  refine r_getI rfl fl_12_258 rfl h (fun v1 h => ?_)
  refine r_if_le 70 rfl (by decide) h (fun h => ?_) (fun h => ?_)
  · exact r_vret rfl rfl ⟨Nat.le_of_ble_eq_true rfl, Nat.le_of_ble_eq_true rfl⟩ h
  · refine r_aload_n rfl rfl ?_
    refine r_getR rfl fl_12_63 rfl h (fun v2 h => ?_)
    refine r_aload_n rfl rfl ?_
    refine r_getI rfl fl_12_258 rfl h (fun v3 h => ?_)
    refine r_iconst (v := 1) rfl (by decide) ?_
    refine r_isub rfl ?_
    refine r_iald rfl h (fun v4 h => ?_)
    refine r_aload_n rfl rfl ?_
    refine r_getI rfl fl_12_243 rfl h (fun v5 h => ?_)
    refine r_ic_ne 70 rfl (by decide) h (fun h => ?_) (fun h => ?_)
    · refine r_aload_n rfl rfl ?_
      refine r_getR rfl fl_12_60 rfl h (fun v6 h => ?_)
      refine r_aload_n rfl rfl ?_
      refine r_getI rfl fl_12_258 rfl h (fun v7 h => ?_)
      refine r_iconst (v := 1) rfl (by decide) ?_
      refine r_isub rfl ?_
      refine r_iald rfl h (fun v8 h => ?_)
      refine r_cs_i (vs := [.int v8]) rfl ml_12_261 (rOk.of rfl) ⟨Nat.zero_le _, Nat.zero_le _⟩ rfl rfl rfl h s_X12_rank (fun v9 M1 h => ?_)
      refine r_iload_n rfl rfl ?_
      refine r_ic_lt 70 rfl (by decide) h (fun h => ?_) (fun h => ?_)
      · exact r_vret rfl rfl ⟨Nat.le_of_ble_eq_true rfl, Nat.le_of_ble_eq_true rfl⟩ h
      · refine r_aload_n rfl rfl ?_
        refine r_dup rfl (cat_rf _) ?_
        refine r_getI rfl fl_12_258 rfl h (fun v10 h => ?_)
        refine r_iconst (v := 1) rfl (by decide) ?_
        refine r_isub rfl ?_
        refine r_putI rfl fl_12_258 (fun z => by cases z) rfl h (fun M2 h => ?_)
        refine r_aload_n rfl rfl ?_
        refine r_aload_n rfl rfl ?_
        refine r_getR rfl fl_12_60 rfl h (fun v11 h => ?_)
        refine r_aload_n rfl rfl ?_
        refine r_getI rfl fl_12_258 rfl h (fun v12 h => ?_)
        refine r_iald rfl h (fun v13 h => ?_)
        refine r_iconst (v := 0) rfl (by decide) ?_
        refine r_cv_v (vs := [.int v13, .int (0 : Int32)]) rfl ml_12_265 rfl (rOk.of rfl) ⟨Nat.zero_le _, Nat.zero_le _⟩ rfl rfl rfl h s_X12_emits (fun _ M3 h => ?_)
        refine r_goto 0 rfl (by decide) ?_
        exact hq0 _ _ _ h
    · exact r_vret rfl rfl ⟨Nat.le_of_ble_eq_true rfl, Nat.le_of_ble_eq_true rfl⟩ h
theorem s_X12_works_0 {d : Nat} {P : Unit → Mem → Prop}   : ∀ (k : Nat) (r0 : Option Nat) (i1 : Int32) (M : Mem), FQ (f_X12_works_0  k r0 i1 M) P → wp Y_X12_works (rmD (d + 1) 0 0) (FM (QV P) 0 0) 0 0 0 [some (va_rf r0), some (.int i1)] [] M
  | 0, _, _, _, h => h.no
  | k + 1, r0, i1, M, h => sb_X12_works_0  (s_X12_works_0  k) r0 i1 M h
theorem s_X12_works {d : Nat} {P : Unit → Mem → Prop} {r0 : Option Nat} {i1 : Int32} {M : Mem} (h : FQ (f_X12_works r0 i1 M) P) : Con Y_X12_works (d + 1) 0 0 [va_rf r0, .int i1] M (QV P) := by
  refine Con.of [some (va_rf r0), some (.int i1)] (by decide +kernel) dk_X12_works (by simp [Y_X12_works, cat_rf, cat_i, cat_l]) (by simp [loE, Y_X12_works, cat_rf, cat_i, cat_l, List.replicate]) ?_
  unfold f_X12_works at h
  exact s_X12_works_0 FU _ _ _ h
