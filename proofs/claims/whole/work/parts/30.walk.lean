/-! walked by program (wip/gen): X11_init X11_judge X0_lineDone X0_noLength X0_lineNo -/
def L_X11_init : List (Option (Instr × Nat)) := [some (.aload_n 0, 1), some (.invokespecial 1, 3), none, none, some (.aload_n 0, 1), some (.new 7, 3), none, none, some (.dup, 1), some (.invokespecial 9, 3), none, none, some (.putfield 10, 3), none, none, some (.aload_n 0, 1), some (.new 7, 3), none, none, some (.dup, 1), some (.invokespecial 9, 3), none, none, some (.putfield 16, 3), none, none, some (.aload_n 0, 1), some (.bipush 6, 2), none, some (.anewarray 19, 3), none, none, some (.putfield 21, 3), none, none, some (.aload_n 0, 1), some (.new 19, 3), none, none, some (.dup, 1), some (.invokespecial 25, 3), none, none, some (.putfield 26, 3), none, none, some (.aload_n 0, 1), some (.new 30, 3), none, none, some (.dup, 1), some (.invokespecial 32, 3), none, none, some (.putfield 33, 3), none, none, some (.aload_n 0, 1), some (.new 37, 3), none, none, some (.dup, 1), some (.invokespecial 39, 3), none, none, some (.putfield 40, 3), none, none, some (.aload_n 0, 1), some (.new 44, 3), none, none, some (.dup, 1), some (.invokespecial 46, 3), none, none, some (.putfield 47, 3), none, none, some (.aload_n 0, 1), some (.bipush 41, 2), none, some (.newarray .long, 2), none, some (.putfield 51, 3), none, none, some (.aload_n 0, 1), some (.bipush 41, 2), none, some (.newarray .int, 2), none, some (.putfield 55, 3), none, none, some (.aload_n 0, 1), some (.iconst 2, 1), some (.iconst 4, 1), some (.iload_n 1, 1), some (.invokestatic 59, 3), none, none, some (.invokestatic 65, 3), none, none, some (.putfield 68, 3), none, none, some (.aload_n 0, 1), some (.iconst 1, 1), some (.iconst 3, 1), some (.iload_n 2, 1), some (.invokestatic 59, 3), none, none, some (.invokestatic 65, 3), none, none, some (.putfield 72, 3), none, none, some (.iconst 0, 1), some (.istore_n 3, 1), some (.iload_n 3, 1), some (.bipush 6, 2), none, some (.if_icmp .ge 22, 3), none, none, some (.aload_n 0, 1), some (.getfield 21, 3), none, none, some (.iload_n 3, 1), some (.new 19, 3), none, none, some (.dup, 1), some (.invokespecial 25, 3), none, none, some (.aastore, 1), some (.iinc 3 1, 3), none, none, some (.goto (-22), 3), none, none, some (.new 75, 3), none, none, some (.dup, 1), some (.invokespecial 77, 3), none, none, some (.astore_n 3, 1), some (.aload_n 0, 1), some (.new 78, 3), none, none, some (.dup, 1), some (.aload_n 0, 1), some (.getfield 68, 3), none, none, some (.aload_n 0, 1), some (.getfield 72, 3), none, none, some (.aload_n 3, 1), some (.invokespecial 80, 3), none, none, some (.putfield 83, 3), none, none, some (.aload_n 0, 1), some (.new 87, 3), none, none, some (.dup, 1), some (.aload_n 0, 1), some (.getfield 83, 3), none, none, some (.aload_n 3, 1), some (.aload_n 0, 1), some (.getfield 40, 3), none, none, some (.invokespecial 89, 3), none, none, some (.putfield 92, 3), none, none, some (.aload_n 0, 1), some (.new 96, 3), none, none, some (.dup, 1), some (.aload_n 0, 1), some (.getfield 83, 3), none, none, some (.invokespecial 98, 3), none, none, some (.putfield 101, 3), none, none, some (.aload_n 0, 1), some (.new 105, 3), none, none, some (.dup, 1), some (.aload_n 0, 1), some (.getfield 101, 3), none, none, some (.aload_n 0, 1), some (.getfield 40, 3), none, none, some (.invokespecial 107, 3), none, none, some (.putfield 110, 3), none, none, some (.return_, 1)]
def Y_X11_init : YM := (⟨RX11, "<init>", "(II)V"⟩, prog_1_method_1_code, L_X11_init, 4, none)
def b_X11_init_123 (q123 : Option Nat → Int32 → Mem → Option (Unit × Mem)) (r0 : Option Nat) (i3 : Int32) (M : Mem) : Option (Unit × Mem) :=
(if (6 : Int32) ≤ i3 then
nW M 9 fun v1 M1 =>
cN v1 (fun _ => cA (f_X9_init v1 M1) fun _ M2 =>
nW M2 2 fun v2 M3 =>
gI M3 r0 11 0 fun v3 =>
gI M3 r0 11 1 fun v4 =>
cN v2 (fun _ => cA (f_X2_init v2 v3 v4 v1 M3) fun _ M4 =>
pR M4 r0 11 8 v2 fun M5 =>
nW M5 3 fun v5 M6 =>
gR M6 r0 11 8 fun v6 =>
gR M6 r0 11 7 fun v7 =>
cN v5 (fun _ => cA (f_X3_init v5 v6 v1 v7 M6) fun _ M7 =>
pR M7 r0 11 9 v5 fun M8 =>
nW M8 8 fun v8 M9 =>
gR M9 r0 11 8 fun v9 =>
cN v8 (fun _ => cA (f_X8_init v8 v9 M9) fun _ M10 =>
pR M10 r0 11 10 v8 fun M11 =>
nW M11 0 fun v10 M12 =>
gR M12 r0 11 10 fun v11 =>
gR M12 r0 11 7 fun v12 =>
cN v10 (fun _ => cA (f_X0_init v10 v11 v12 M12) fun _ M13 =>
pR M13 r0 11 11 v10 fun M14 =>
some ((), M14))))))
else
gR M r0 11 4 fun v13 =>
nW M 6 fun v14 M15 =>
cN v14 (fun _ => cA (f_X6_init v14 M15) fun _ M16 =>
wR M16 v13 7 i3 v14 fun M17 =>
q123 r0 (i3 + (1 : Int32)) M17))
def f_X11_init_123 (n : Nat) : Option Nat → Int32 → Mem → Option (Unit × Mem) := lpN (fun _ _ _ => none) (b_X11_init_123 ) n
def f_X11_init (r0 : Option Nat) (i1 : Int32) (i2 : Int32) (M : Mem) : Option (Unit × Mem) :=
cN r0 (fun _ =>
nW M 7 fun v1 M1 =>
cN v1 (fun _ => cA (f_X7_init v1 M1) fun _ M2 =>
pR M2 r0 11 2 v1 fun M3 =>
nW M3 7 fun v2 M4 =>
cN v2 (fun _ => cA (f_X7_init v2 M4) fun _ M5 =>
pR M5 r0 11 3 v2 fun M6 =>
nA M6 7 (6 : Int32) 6 fun v3 M7 =>
pR M7 r0 11 4 v3 fun M8 =>
nW M8 6 fun v4 M9 =>
cN v4 (fun _ => cA (f_X6_init v4 M9) fun _ M10 =>
pR M10 r0 11 5 v4 fun M11 =>
nW M11 5 fun v5 M12 =>
cN v5 (fun _ => cA (f_X5_init v5 M12) fun _ M13 =>
pR M13 r0 11 6 v5 fun M14 =>
nW M14 10 fun v6 M15 =>
cN v6 (fun _ => cA (f_X10_init v6 M15) fun _ M16 =>
pR M16 r0 11 7 v6 fun M17 =>
nW M17 4 fun v7 M18 =>
cN v7 (fun _ => cA (f_X4_init v7 M18) fun _ M19 =>
pR M19 r0 11 12 v7 fun M20 =>
nA M20 3 (41 : Int32) 41 fun v8 M21 =>
pR M21 r0 11 13 v8 fun M22 =>
nA M22 2 (41 : Int32) 41 fun v9 M23 =>
pR M23 r0 11 14 v9 fun M24 =>
pI M24 r0 11 0 (if (2 : Int32) < (if i1 < (4 : Int32) then i1 else (4 : Int32)) then (if i1 < (4 : Int32) then i1 else (4 : Int32)) else (2 : Int32)) fun M25 =>
pI M25 r0 11 1 (if (1 : Int32) < (if i2 < (3 : Int32) then i2 else (3 : Int32)) then (if i2 < (3 : Int32) then i2 else (3 : Int32)) else (1 : Int32)) fun M26 =>
f_X11_init_123 7 r0 (0 : Int32) M26)))))))
def L_X11_judge : List (Option (Instr × Nat)) := [some (.aload_n 0, 1), some (.getfield 47, 3), none, none, some (.aload_n 0, 1), some (.getfield 10, 3), none, none, some (.getfield 114, 3), none, none, some (.invokevirtual 211, 3), none, none, some (.iconst 0, 1), some (.istore_n 1, 1), some (.iload_n 1, 1), some (.aload_n 0, 1), some (.getfield 10, 3), none, none, some (.getfield 205, 3), none, none, some (.if_icmp .ge 19, 3), none, none, some (.aload_n 0, 1), some (.iload_n 1, 1), some (.invokevirtual 215, 3), none, none, some (.ifCond .ne 5, 3), none, none, some (.iload_n 1, 1), some (.ireturn, 1), some (.iinc 1 1, 3), none, none, some (.goto (-24), 3), none, none, some (.iconst (-1), 1), some (.ireturn, 1)]
def Y_X11_judge : YM := (⟨RX11, "judge", "()I"⟩, prog_1_method_17_code, L_X11_judge, 2, some .int)
def b_X11_judge_16 (q16 : Option Nat → Int32 → Mem → Option (Int32 × Mem)) (r0 : Option Nat) (i1 : Int32) (M : Mem) : Option (Int32 × Mem) :=
gR M r0 11 2 fun v1 =>
gI M v1 7 3 fun v2 =>
(if v2 ≤ i1 then
some ((-1 : Int32), M)
else
cR M r0 (1, 11) (cA (f_X11_tryPly r0 i1 M) fun v3 M1 =>
(if v3 = 0 then
some (i1, M1)
else
q16 r0 (i1 + (1 : Int32)) M1)))
def f_X11_judge_16 (n : Nat) : Option Nat → Int32 → Mem → Option (Int32 × Mem) := lpN (fun _ _ _ => none) (b_X11_judge_16 ) n
def f_X11_judge (r0 : Option Nat) (M : Mem) : Option (Int32 × Mem) :=
gR M r0 11 12 fun v1 =>
gR M r0 11 2 fun v2 =>
gR M v2 7 0 fun v3 =>
cR M v1 (1, 4) (cA (f_X4_take v1 v3 M) fun _ M1 =>
f_X11_judge_16 FU r0 (0 : Int32) M1)
def L_X0_lineDone : List (Option (Instr × Nat)) := [some (.iconst 0, 1), some (.istore 4, 2), none, some (.iload 4, 2), none, some (.bipush 8, 2), none, some (.if_icmp .ge 85, 3), none, none, some (.iload 4, 2), none, some (.iload_n 3, 1), some (.if_icmp .eq 73, 3), none, none, some (.iload_n 2, 1), some (.iconst 1, 1), some (.iload 4, 2), none, some (.ishl, 1), some (.iand, 1), some (.ifCond .eq 64, 3), none, none, some (.aload_n 0, 1), some (.getfield 42, 3), none, none, some (.getfield 71, 3), none, none, some (.iload_n 1, 1), some (.bipush 64, 2), none, some (.imul, 1), some (.iload_n 3, 1), some (.bipush 8, 2), none, some (.imul, 1), some (.iadd, 1), some (.iload 4, 2), none, some (.iadd, 1), some (.iaload, 1), some (.istore 5, 2), none, some (.aload_n 0, 1), some (.getfield 11, 3), none, none, some (.iload 5, 2), none, some (.iaload, 1), some (.iconst 3, 1), some (.aload_n 0, 1), some (.getfield 11, 3), none, none, some (.iload_n 1, 1), some (.iaload, 1), some (.isub, 1), some (.if_icmp .ne 24, 3), none, none, some (.aload_n 0, 1), some (.getfield 17, 3), none, none, some (.iload 5, 2), none, some (.iaload, 1), some (.aload_n 0, 1), some (.getfield 17, 3), none, none, some (.iload_n 1, 1), some (.iaload, 1), some (.iconst 1, 1), some (.isub, 1), some (.if_icmp .ne 6, 3), none, none, some (.iload 4, 2), none, some (.ireturn, 1), some (.iinc 4 1, 3), none, none, some (.goto (-86), 3), none, none, some (.iconst 0, 1), some (.ireturn, 1)]
def Y_X0_lineDone : YM := (⟨RX0, "lineDone", "(III)I"⟩, prog_2_method_14_code, L_X0_lineDone, 6, some .int)
def b_X0_lineDone_3 (q3 : Option Nat → Int32 → Int32 → Int32 → Int32 → Mem → Option (Int32 × Mem)) (r0 : Option Nat) (i1 : Int32) (i2 : Int32) (i3 : Int32) (i4 : Int32) (M : Mem) : Option (Int32 × Mem) :=
(if (8 : Int32) ≤ i4 then
some ((0 : Int32), M)
else
(if i4 = i3 then
q3 r0 i1 i2 i3 (i4 + (1 : Int32)) M
else
(if (i2 &&& ((1 : Int32) <<< (i4 &&& 31))) = 0 then
q3 r0 i1 i2 i3 (i4 + (1 : Int32)) M
else
gR M r0 0 2 fun v1 =>
gR M v1 8 1 fun v2 =>
aI M v2 2 (((i1 * (64 : Int32)) + (i3 * (8 : Int32))) + i4) fun v3 =>
gR M r0 0 0 fun v4 =>
aI M v4 2 v3 fun v5 =>
gR M r0 0 0 fun v6 =>
aI M v6 2 i1 fun v7 =>
(if v5 = ((3 : Int32) - v7) then
gR M r0 0 1 fun v8 =>
aI M v8 2 v3 fun v9 =>
gR M r0 0 1 fun v10 =>
aI M v10 2 i1 fun v11 =>
(if v9 = (v11 - (1 : Int32)) then
some (i4, M)
else
q3 r0 i1 i2 i3 (i4 + (1 : Int32)) M)
else
q3 r0 i1 i2 i3 (i4 + (1 : Int32)) M))))
def f_X0_lineDone_3 (n : Nat) : Option Nat → Int32 → Int32 → Int32 → Int32 → Mem → Option (Int32 × Mem) := lpN (fun _ _ _ _ _ _ => none) (b_X0_lineDone_3 ) n
def f_X0_lineDone (r0 : Option Nat) (i1 : Int32) (i2 : Int32) (i3 : Int32) (M : Mem) : Option (Int32 × Mem) :=
f_X0_lineDone_3 FU r0 i1 i2 i3 (0 : Int32) M
def L_X0_noLength : List (Option (Instr × Nat)) := [some (.aload_n 0, 1), some (.getfield 11, 3), none, none, some (.iload_n 1, 1), some (.iaload, 1), some (.iconst 1, 1), some (.if_icmp .ne 7, 3), none, none, some (.iconst 1, 1), some (.goto 4, 3), none, none, some (.iconst 0, 1), some (.istore 4, 2), none, some (.iload 4, 2), none, some (.ifCond .eq 8, 3), none, none, some (.ldc 117, 2), none, some (.goto 4, 3), none, none, some (.iconst 0, 1), some (.istore 5, 2), none, some (.iconst 0, 1), some (.istore 6, 2), none, some (.iload 6, 2), none, some (.bipush 8, 2), none, some (.if_icmp .ge 102, 3), none, none, some (.iload 6, 2), none, some (.iload_n 3, 1), some (.if_icmp .eq 90, 3), none, none, some (.iload_n 2, 1), some (.iconst 1, 1), some (.iload 6, 2), none, some (.ishl, 1), some (.iand, 1), some (.ifCond .eq 81, 3), none, none, some (.aload_n 0, 1), some (.getfield 42, 3), none, none, some (.getfield 71, 3), none, none, some (.iload_n 1, 1), some (.bipush 64, 2), none, some (.imul, 1), some (.iload_n 3, 1), some (.bipush 8, 2), none, some (.imul, 1), some (.iadd, 1), some (.iload 6, 2), none, some (.iadd, 1), some (.iaload, 1), some (.istore 7, 2), none, some (.aload_n 0, 1), some (.getfield 11, 3), none, none, some (.iload 7, 2), none, some (.iaload, 1), some (.iconst 3, 1), some (.aload_n 0, 1), some (.getfield 11, 3), none, none, some (.iload_n 1, 1), some (.iaload, 1), some (.isub, 1), some (.if_icmp .ne 13, 3), none, none, some (.aload_n 0, 1), some (.getfield 17, 3), none, none, some (.iload 7, 2), none, some (.iaload, 1), some (.goto 5, 3), none, none, some (.ldc 117, 2), none, some (.istore 8, 2), none, some (.iload 4, 2), none, some (.ifCond .eq 13, 3), none, none, some (.iload 5, 2), none, some (.iload 8, 2), none, some (.invokestatic 123, 3), none, none, some (.goto 10, 3), none, none, some (.iload 5, 2), none, some (.iload 8, 2), none, some (.invokestatic 118, 3), none, none, some (.istore 5, 2), none, some (.iinc 6 1, 3), none, none, some (.goto (-103), 3), none, none, some (.iload 5, 2), none, some (.ireturn, 1)]
def Y_X0_noLength : YM := (⟨RX0, "noLength", "(III)I"⟩, prog_2_method_16_code, L_X0_noLength, 9, some .int)
def f_X0_noLength_107 (q33 : Option Nat → Int32 → Int32 → Int32 → Int32 → Int32 → Int32 → Mem → Option (Int32 × Mem)) (r0 : Option Nat) (i1 : Int32) (i2 : Int32) (i3 : Int32) (i4 : Int32) (i5 : Int32) (i6 : Int32) (si0 : Int32) (M : Mem) : Option (Int32 × Mem) :=
(if i4 = 0 then
q33 r0 i1 i2 i3 i4 (if i5 < si0 then si0 else i5) (i6 + (1 : Int32)) M
else
q33 r0 i1 i2 i3 i4 (if si0 < i5 then si0 else i5) (i6 + (1 : Int32)) M)
def b_X0_noLength_33 (q33 : Option Nat → Int32 → Int32 → Int32 → Int32 → Int32 → Int32 → Mem → Option (Int32 × Mem)) (r0 : Option Nat) (i1 : Int32) (i2 : Int32) (i3 : Int32) (i4 : Int32) (i5 : Int32) (i6 : Int32) (M : Mem) : Option (Int32 × Mem) :=
(if (8 : Int32) ≤ i6 then
some (i5, M)
else
(if i6 = i3 then
q33 r0 i1 i2 i3 i4 i5 (i6 + (1 : Int32)) M
else
(if (i2 &&& ((1 : Int32) <<< (i6 &&& 31))) = 0 then
q33 r0 i1 i2 i3 i4 i5 (i6 + (1 : Int32)) M
else
gR M r0 0 2 fun v1 =>
gR M v1 8 1 fun v2 =>
aI M v2 2 (((i1 * (64 : Int32)) + (i3 * (8 : Int32))) + i6) fun v3 =>
gR M r0 0 0 fun v4 =>
aI M v4 2 v3 fun v5 =>
gR M r0 0 0 fun v6 =>
aI M v6 2 i1 fun v7 =>
(if v5 = ((3 : Int32) - v7) then
gR M r0 0 1 fun v8 =>
aI M v8 2 v3 fun v9 =>
f_X0_noLength_107 q33 r0 i1 i2 i3 i4 i5 i6 v9 M
else
f_X0_noLength_107 q33 r0 i1 i2 i3 i4 i5 i6 (1000000 : Int32) M))))
def f_X0_noLength_33 (n : Nat) : Option Nat → Int32 → Int32 → Int32 → Int32 → Int32 → Int32 → Mem → Option (Int32 × Mem) := lpN (fun _ _ _ _ _ _ _ _ => none) (b_X0_noLength_33 ) n
def f_X0_noLength (r0 : Option Nat) (i1 : Int32) (i2 : Int32) (i3 : Int32) (M : Mem) : Option (Int32 × Mem) :=
gR M r0 0 0 fun v1 =>
aI M v1 2 i1 fun v2 =>
(if v2 = (1 : Int32) then
(if (1 : Int32) = 0 then
f_X0_noLength_33 FU r0 i1 i2 i3 (1 : Int32) (0 : Int32) (0 : Int32) M
else
f_X0_noLength_33 FU r0 i1 i2 i3 (1 : Int32) (1000000 : Int32) (0 : Int32) M)
else
(if (0 : Int32) = 0 then
f_X0_noLength_33 FU r0 i1 i2 i3 (0 : Int32) (0 : Int32) (0 : Int32) M
else
f_X0_noLength_33 FU r0 i1 i2 i3 (0 : Int32) (1000000 : Int32) (0 : Int32) M))
def L_X0_lineNo : List (Option (Instr × Nat)) := [some (.iconst 0, 1), some (.istore_n 3, 1), some (.iload_n 3, 1), some (.bipush 8, 2), none, some (.if_icmp .ge 37, 3), none, none, some (.iload_n 2, 1), some (.iconst 1, 1), some (.iload_n 3, 1), some (.ishl, 1), some (.iand, 1), some (.ifCond .eq 23, 3), none, none, some (.aload_n 0, 1), some (.iload_n 1, 1), some (.iload_n 2, 1), some (.iload_n 3, 1), some (.invokevirtual 114, 3), none, none, some (.aload_n 0, 1), some (.getfield 17, 3), none, none, some (.iload_n 1, 1), some (.iaload, 1), some (.iconst 1, 1), some (.isub, 1), some (.if_icmp .ne 5, 3), none, none, some (.iload_n 3, 1), some (.ireturn, 1), some (.iinc 3 1, 3), none, none, some (.goto (-37), 3), none, none, some (.iconst 0, 1), some (.ireturn, 1)]
def Y_X0_lineNo : YM := (⟨RX0, "lineNo", "(II)I"⟩, prog_2_method_13_code, L_X0_lineNo, 4, some .int)
def b_X0_lineNo_2 (q2 : Option Nat → Int32 → Int32 → Int32 → Mem → Option (Int32 × Mem)) (r0 : Option Nat) (i1 : Int32) (i2 : Int32) (i3 : Int32) (M : Mem) : Option (Int32 × Mem) :=
(if (8 : Int32) ≤ i3 then
some ((0 : Int32), M)
else
(if (i2 &&& ((1 : Int32) <<< (i3 &&& 31))) = 0 then
q2 r0 i1 i2 (i3 + (1 : Int32)) M
else
cR M r0 (1, 0) (cA (f_X0_noLength r0 i1 i2 i3 M) fun v1 M1 =>
gR M1 r0 0 1 fun v2 =>
aI M1 v2 2 i1 fun v3 =>
(if v1 = (v3 - (1 : Int32)) then
some (i3, M1)
else
q2 r0 i1 i2 (i3 + (1 : Int32)) M1))))
def f_X0_lineNo_2 (n : Nat) : Option Nat → Int32 → Int32 → Int32 → Mem → Option (Int32 × Mem) := lpN (fun _ _ _ _ _ => none) (b_X0_lineNo_2 ) n
def f_X0_lineNo (r0 : Option Nat) (i1 : Int32) (i2 : Int32) (M : Mem) : Option (Int32 × Mem) :=
f_X0_lineNo_2 FU r0 i1 i2 (0 : Int32) M
theorem cn_11_75 : CNk RX11 75 9 2 := ⟨_, rfl, rfl, (gw_in 221 (by decide +kernel) (by decide +kernel)), (gw_in 222 (by decide +kernel) (by decide +kernel)), (gw_in 9 (by decide +kernel) (by decide +kernel))⟩
set_option maxRecDepth 30000 in
theorem ok_X9_init : okY Y_X9_init := ⟨(gw_in 225 rfl rfl), (gw_in 9 (by decide +kernel) (by decide +kernel)), by decide +kernel, by decide +kernel⟩
theorem ml_11_77 : MLi RX11 77 Y_X9_init 0 := ⟨(gw_in 223 (by decide +kernel) (by decide +kernel)), (gw_in 224 (by decide +kernel) (by decide +kernel)), rfl, rfl, ok_X9_init, by decide +kernel⟩
theorem cn_11_78 : CNk RX11 78 2 8 := ⟨_, rfl, rfl, (gw_in 235 (by decide +kernel) (by decide +kernel)), (gw_in 236 (by decide +kernel) (by decide +kernel)), (gw_in 10 (by decide +kernel) (by decide +kernel))⟩
set_option maxRecDepth 30000 in
theorem ok_X2_init : okY Y_X2_init := ⟨(gw_in 239 rfl rfl), (gw_in 10 (by decide +kernel) (by decide +kernel)), by decide +kernel, by decide +kernel⟩
theorem ml_11_80 : MLi RX11 80 Y_X2_init 3 := ⟨(gw_in 237 (by decide +kernel) (by decide +kernel)), (gw_in 238 (by decide +kernel) (by decide +kernel)), rfl, rfl, ok_X2_init, by decide +kernel⟩
theorem cn_11_87 : CNk RX11 87 3 6 := ⟨_, rfl, rfl, (gw_in 274 (by decide +kernel) (by decide +kernel)), (gw_in 275 (by decide +kernel) (by decide +kernel)), (gw_in 11 (by decide +kernel) (by decide +kernel))⟩
set_option maxRecDepth 30000 in
theorem ok_X3_init : okY Y_X3_init := ⟨(gw_in 278 rfl rfl), (gw_in 11 (by decide +kernel) (by decide +kernel)), by decide +kernel, by decide +kernel⟩
theorem ml_11_89 : MLi RX11 89 Y_X3_init 3 := ⟨(gw_in 276 (by decide +kernel) (by decide +kernel)), (gw_in 277 (by decide +kernel) (by decide +kernel)), rfl, rfl, ok_X3_init, by decide +kernel⟩
theorem fl_11_92 : FLk RX11 92 11 9 true := ⟨_, rfl, by decide, (gw_in 410 (by decide +kernel) (by decide +kernel)), rfl⟩
theorem cn_11_96 : CNk RX11 96 8 12 := ⟨_, rfl, rfl, (gw_in 301 (by decide +kernel) (by decide +kernel)), (gw_in 302 (by decide +kernel) (by decide +kernel)), (gw_in 12 (by decide +kernel) (by decide +kernel))⟩
set_option maxRecDepth 30000 in
theorem ok_X8_init : okY Y_X8_init := ⟨(gw_in 305 rfl rfl), (gw_in 12 (by decide +kernel) (by decide +kernel)), by decide +kernel, by decide +kernel⟩
theorem ml_11_98 : MLi RX11 98 Y_X8_init 1 := ⟨(gw_in 303 (by decide +kernel) (by decide +kernel)), (gw_in 304 (by decide +kernel) (by decide +kernel)), rfl, rfl, ok_X8_init, by decide +kernel⟩
theorem cn_11_105 : CNk RX11 105 0 13 := ⟨_, rfl, rfl, (gw_in 352 (by decide +kernel) (by decide +kernel)), (gw_in 353 (by decide +kernel) (by decide +kernel)), (gw_in 13 (by decide +kernel) (by decide +kernel))⟩
set_option maxRecDepth 30000 in
theorem ok_X0_init : okY Y_X0_init := ⟨(gw_in 356 rfl rfl), (gw_in 13 (by decide +kernel) (by decide +kernel)), by decide +kernel, by decide +kernel⟩
theorem ml_11_107 : MLi RX11 107 Y_X0_init 2 := ⟨(gw_in 354 (by decide +kernel) (by decide +kernel)), (gw_in 355 (by decide +kernel) (by decide +kernel)), rfl, rfl, ok_X0_init, by decide +kernel⟩
theorem cn_11_19 : CNk RX11 19 6 6 := ⟨_, rfl, rfl, (gw_in 86 (by decide +kernel) (by decide +kernel)), (gw_in 88 (by decide +kernel) (by decide +kernel)), (gw_in 4 (by decide +kernel) (by decide +kernel))⟩
set_option maxRecDepth 30000 in
theorem ok_X6_init : okY Y_X6_init := ⟨(gw_in 91 rfl rfl), (gw_in 4 (by decide +kernel) (by decide +kernel)), by decide +kernel, by decide +kernel⟩
theorem ml_11_25 : MLi RX11 25 Y_X6_init 0 := ⟨(gw_in 89 (by decide +kernel) (by decide +kernel)), (gw_in 90 (by decide +kernel) (by decide +kernel)), rfl, rfl, ok_X6_init, by decide +kernel⟩
theorem mk_11_1 : Jvm.Cond.methodLink RX11 1 Lib.objectInit ∈ gw := gw_in 28 (by decide +kernel) (by decide +kernel)
theorem cn_11_7 : CNk RX11 7 7 6 := ⟨_, rfl, rfl, (gw_in 31 (by decide +kernel) (by decide +kernel)), (gw_in 32 (by decide +kernel) (by decide +kernel)), (gw_in 2 (by decide +kernel) (by decide +kernel))⟩
set_option maxRecDepth 30000 in
theorem ok_X7_init : okY Y_X7_init := ⟨(gw_in 35 rfl rfl), (gw_in 2 (by decide +kernel) (by decide +kernel)), by decide +kernel, by decide +kernel⟩
theorem ml_11_9 : MLi RX11 9 Y_X7_init 0 := ⟨(gw_in 33 (by decide +kernel) (by decide +kernel)), (gw_in 34 (by decide +kernel) (by decide +kernel)), rfl, rfl, ok_X7_init, by decide +kernel⟩
theorem ck_11_19 : Jvm.Cond.classLink RX11 19 RX6 ∈ gw := gw_in 86 (by decide +kernel) (by decide +kernel)
theorem cn_11_30 : CNk RX11 30 5 9 := ⟨_, rfl, rfl, (gw_in 164 (by decide +kernel) (by decide +kernel)), (gw_in 165 (by decide +kernel) (by decide +kernel)), (gw_in 6 (by decide +kernel) (by decide +kernel))⟩
set_option maxRecDepth 30000 in
theorem ok_X5_init : okY Y_X5_init := ⟨(gw_in 168 rfl rfl), (gw_in 6 (by decide +kernel) (by decide +kernel)), by decide +kernel, by decide +kernel⟩
theorem ml_11_32 : MLi RX11 32 Y_X5_init 0 := ⟨(gw_in 166 (by decide +kernel) (by decide +kernel)), (gw_in 167 (by decide +kernel) (by decide +kernel)), rfl, rfl, ok_X5_init, by decide +kernel⟩
theorem cn_11_37 : CNk RX11 37 10 1 := ⟨_, rfl, rfl, (gw_in 201 (by decide +kernel) (by decide +kernel)), (gw_in 202 (by decide +kernel) (by decide +kernel)), (gw_in 7 (by decide +kernel) (by decide +kernel))⟩
set_option maxRecDepth 30000 in
theorem ok_X10_init : okY Y_X10_init := ⟨(gw_in 205 rfl rfl), (gw_in 7 (by decide +kernel) (by decide +kernel)), by decide +kernel, by decide +kernel⟩
theorem ml_11_39 : MLi RX11 39 Y_X10_init 0 := ⟨(gw_in 203 (by decide +kernel) (by decide +kernel)), (gw_in 204 (by decide +kernel) (by decide +kernel)), rfl, rfl, ok_X10_init, by decide +kernel⟩
theorem cn_11_44 : CNk RX11 44 4 3 := ⟨_, rfl, rfl, (gw_in 213 (by decide +kernel) (by decide +kernel)), (gw_in 38 (by decide +kernel) (by decide +kernel)), (gw_in 3 (by decide +kernel) (by decide +kernel))⟩
theorem ml_11_46 : MLi RX11 46 Y_X4_init 0 := ⟨(gw_in 214 (by decide +kernel) (by decide +kernel)), (gw_in 40 (by decide +kernel) (by decide +kernel)), rfl, rfl, ok_X4_init, by decide +kernel⟩
theorem mk_11_59 : Jvm.Cond.methodLink RX11 59 Lib.Math.min.name ∈ gw := gw_in 215 (by decide +kernel) (by decide +kernel)
theorem mk_11_65 : Jvm.Cond.methodLink RX11 65 Lib.Math.max.name ∈ gw := gw_in 218 (by decide +kernel) (by decide +kernel)
theorem mk_0_118 : Jvm.Cond.methodLink RX0 118 Lib.Math.max.name ∈ gw := gw_in 1048 (by decide +kernel) (by decide +kernel)
theorem mk_0_123 : Jvm.Cond.methodLink RX0 123 Lib.Math.min.name ∈ gw := gw_in 1047 (by decide +kernel) (by decide +kernel)
theorem kc_0_117 : Jvm.Cond.constant RX0 117 (1000000) ∈ gw := gw_in 1042 (by decide +kernel) (by decide +kernel)
set_option maxRecDepth 30000 in
theorem ok_X0_noLength : okY Y_X0_noLength := ⟨(gw_in 1046 rfl rfl), (gw_in 13 (by decide +kernel) (by decide +kernel)), by decide +kernel, by decide +kernel⟩
theorem ml_0_114 : MLv RX0 114 Y_X0_noLength 3 := ⟨(gw_in 1043 (by decide +kernel) (by decide +kernel)), (gw_in 1045 (by decide +kernel) (by decide +kernel)), (gw_sel (n := 13) 42 (by decide +kernel) (by decide +kernel)), ok_X0_noLength, by decide +kernel⟩
set_option maxRecDepth 20000 in
theorem dk_X11_init : ∀ pc i, L_X11_init[pc]? = some (some i) → decode prog_1_method_1_code pc = .ok i := dk_of (by decide +kernel)
theorem sb_X11_init_123 {d : Nat} {P : Unit → Mem → Prop} {q123 : Option Nat → Int32 → Mem → Option (Unit × Mem)} {c n : Nat} (hc : c + 26 ≤ 224) (hn : n + 527 ≤ 5095) (hq123 : ∀ (r0 : Option Nat) (i3 : Int32) (M : Mem), FQ (q123 r0 i3 M) P → wp Y_X11_init (rmD (d + 3) 254 315400) (FM (QV P) 254 315400) (c + 26) (n + 527) 123 [some (va_rf r0), none, none, some (.int i3)] [] M) (r0 : Option Nat) (i3 : Int32) (M : Mem) (h : FQ (b_X11_init_123 q123 r0 i3 M) P) : wp Y_X11_init (rmD (d + 3) 254 315400) (FM (QV P) 254 315400) c n 123 [some (va_rf r0), none, none, some (.int i3)] [] M := by
  unfold b_X11_init_123 at h
  refine r_iload_n rfl rfl ?_
  refine r_bipush (v := 6) rfl (by decide) ?_
  refine r_ic_ge 148 rfl (by decide) h (fun h => ?_) (fun h => ?_)
  · refine r_wide (c' := 224) (n' := 5095) (by omega) (by omega) ?_
    refine r_new rfl cn_11_75 ⟨Nat.le_of_ble_eq_true rfl, Nat.le_of_ble_eq_true rfl⟩ h (fun v1 M1 h => ?_)
    refine r_dup rfl (cat_rf _) ?_
    refine r_ci_v (mc := 2) (ms := 71) (vs := []) rfl ml_11_77 (rOk.of rfl) ⟨Nat.le_of_ble_eq_true rfl, Nat.le_of_ble_eq_true rfl⟩ rfl rfl rfl h s_X9_init (fun _ M2 h => ?_)
    refine r_astore_n (lo' := [some (va_rf r0), none, none, some (va_rf v1)]) rfl rfl rfl rfl ?_
    refine r_aload_n rfl rfl ?_
    refine r_new rfl cn_11_78 ⟨Nat.le_of_ble_eq_true rfl, Nat.le_of_ble_eq_true rfl⟩ h (fun v2 M3 h => ?_)
    refine r_dup rfl (cat_rf _) ?_
    refine r_aload_n rfl rfl ?_
    refine r_getI rfl fl_11_68 rfl h (fun v3 h => ?_)
    refine r_aload_n rfl rfl ?_
    refine r_getI rfl fl_11_72 rfl h (fun v4 h => ?_)
    refine r_aload_n rfl rfl ?_
    refine r_ci_v (mc := 5) (ms := 80) (vs := [.int v3, .int v4, va_rf v1]) rfl ml_11_80 (rOk.of rfl) ⟨Nat.le_of_ble_eq_true rfl, Nat.le_of_ble_eq_true rfl⟩ rfl rfl rfl h s_X2_init (fun _ M4 h => ?_)
    refine r_putR rfl fl_11_83 (fun _ => ⟨rfl, fun q hq => by cases hq; rfl⟩) (Or.inl ⟨_, rfl⟩) h (fun M5 h => ?_)
    refine r_aload_n rfl rfl ?_
    refine r_new rfl cn_11_87 ⟨Nat.le_of_ble_eq_true rfl, Nat.le_of_ble_eq_true rfl⟩ h (fun v5 M6 h => ?_)
    refine r_dup rfl (cat_rf _) ?_
    refine r_aload_n rfl rfl ?_
    refine r_getR rfl fl_11_83 rfl h (fun v6 h => ?_)
    refine r_aload_n rfl rfl ?_
    refine r_aload_n rfl rfl ?_
    refine r_getR rfl fl_11_40 rfl h (fun v7 h => ?_)
    refine r_ci_v (mc := 1) (ms := 8) (vs := [va_rf v6, va_rf v1, va_rf v7]) rfl ml_11_89 (rOk.of rfl) ⟨Nat.le_of_ble_eq_true rfl, Nat.le_of_ble_eq_true rfl⟩ rfl rfl rfl h s_X3_init (fun _ M7 h => ?_)
    refine r_putR rfl fl_11_92 (fun _ => ⟨rfl, fun q hq => by cases hq; rfl⟩) (Or.inl ⟨_, rfl⟩) h (fun M8 h => ?_)
    refine r_aload_n rfl rfl ?_
    refine r_new rfl cn_11_96 ⟨Nat.le_of_ble_eq_true rfl, Nat.le_of_ble_eq_true rfl⟩ h (fun v8 M9 h => ?_)
    refine r_dup rfl (cat_rf _) ?_
    refine r_aload_n rfl rfl ?_
    refine r_getR rfl fl_11_83 rfl h (fun v9 h => ?_)
    refine r_ci_v (mc := 8) (ms := 138105) (vs := [va_rf v9]) rfl ml_11_98 (rOk.of rfl) ⟨Nat.le_of_ble_eq_true rfl, Nat.le_of_ble_eq_true rfl⟩ rfl rfl rfl h s_X8_init (fun _ M10 h => ?_)
    refine r_putR rfl fl_11_101 (fun _ => ⟨rfl, fun q hq => by cases hq; rfl⟩) (Or.inl ⟨_, rfl⟩) h (fun M11 h => ?_)
    refine r_aload_n rfl rfl ?_
    refine r_new rfl cn_11_105 ⟨Nat.le_of_ble_eq_true rfl, Nat.le_of_ble_eq_true rfl⟩ h (fun v10 M12 h => ?_)
    refine r_dup rfl (cat_rf _) ?_
    refine r_aload_n rfl rfl ?_
    refine r_getR rfl fl_11_101 rfl h (fun v11 h => ?_)
    refine r_aload_n rfl rfl ?_
    refine r_getR rfl fl_11_40 rfl h (fun v12 h => ?_)
    refine r_ci_v (mc := 9) (ms := 172000) (vs := [va_rf v11, va_rf v12]) rfl ml_11_107 (rOk.of rfl) ⟨Nat.le_of_ble_eq_true rfl, Nat.le_of_ble_eq_true rfl⟩ rfl rfl rfl h s_X0_init (fun _ M13 h => ?_)
    refine r_putR rfl fl_11_110 (fun _ => ⟨rfl, fun q hq => by cases hq; rfl⟩) (Or.inl ⟨_, rfl⟩) h (fun M14 h => ?_)
    exact r_vret rfl rfl ⟨Nat.le_of_ble_eq_true rfl, Nat.le_of_ble_eq_true rfl⟩ h
  · refine r_aload_n rfl rfl ?_
    refine r_getR rfl fl_11_21 rfl h (fun v13 h => ?_)
    refine r_iload_n rfl rfl ?_
    refine r_new rfl cn_11_19 ⟨by show _ ≤ 254; omega, by show _ ≤ 315400; omega⟩ h (fun v14 M15 h => ?_)
    refine r_dup rfl (cat_rf _) ?_
    refine r_ci_v (mc := 25) (ms := 521) (vs := []) rfl ml_11_25 (rOk.of rfl) ⟨by show _ ≤ 254; omega, by show _ ≤ 315400; omega⟩ rfl rfl rfl h s_X6_init (fun _ M16 h => ?_)
    refine r_aast7 rfl h (fun M17 h => ?_)
    refine r_iinc (v := 1) (lo' := [some (va_rf r0), none, none, some (.int (i3 + (1 : Int32)))]) rfl rfl rfl (by decide) rfl rfl ?_
    refine r_goto 123 rfl (by decide) ?_
    refine r_wide (c' := c + 26) (n' := n + 527) (by omega) (by omega) ?_
    exact hq123 _ _ _ h
theorem s_X11_init_123 {d : Nat} {P : Unit → Mem → Prop}   : ∀ (k c n : Nat), c + k * 26 ≤ 224 → n + k * 527 ≤ 5095 → ∀ (r0 : Option Nat) (i3 : Int32) (M : Mem), FQ (f_X11_init_123  k r0 i3 M) P → wp Y_X11_init (rmD (d + 3) 254 315400) (FM (QV P) 254 315400) c n 123 [some (va_rf r0), none, none, some (.int i3)] [] M
  | 0, _, _, _, _, _, _, _, h => h.no
  | k + 1, c, n, hc, hn, r0, i3, M, h => sb_X11_init_123 (by omega) (by omega)  (s_X11_init_123  k (c + 26) (n + 527) (by omega) (by omega)) r0 i3 M h
theorem s_X11_init {d : Nat} {P : Unit → Mem → Prop} {r0 : Option Nat} {i1 : Int32} {i2 : Int32} {M : Mem} (h : FQ (f_X11_init r0 i1 i2 M) P) : Con Y_X11_init (d + 3) 254 315400 [va_rf r0, .int i1, .int i2] M (QV P) := by
  refine Con.of [some (va_rf r0), some (.int i1), some (.int i2), none] (by decide +kernel) dk_X11_init (by simp [Y_X11_init, cat_rf, cat_i, cat_l]) (by simp [loE, Y_X11_init, cat_rf, cat_i, cat_l, List.replicate]) ?_
  unfold f_X11_init at h
  refine r_aload_n rfl rfl ?_
  refine r_obj rfl mk_11_1 ⟨by show 1 ≤ _ + 1; omega, by show 20 ≤ 64 * (_ + 1); omega⟩ rfl h (fun h => ?_)
  refine r_aload_n rfl rfl ?_
  refine r_new rfl cn_11_7 ⟨Nat.le_of_ble_eq_true rfl, Nat.le_of_ble_eq_true rfl⟩ h (fun v1 M1 h => ?_)
  refine r_dup rfl (cat_rf _) ?_
  refine r_ci_v (mc := 3) (ms := 205) (vs := []) rfl ml_11_9 (rOk.of rfl) ⟨Nat.le_of_ble_eq_true rfl, Nat.le_of_ble_eq_true rfl⟩ rfl rfl rfl h s_X7_init (fun _ M2 h => ?_)
  refine r_putR rfl fl_11_10 (fun _ => ⟨rfl, fun q hq => by cases hq; rfl⟩) (Or.inl ⟨_, rfl⟩) h (fun M3 h => ?_)
  refine r_aload_n rfl rfl ?_
  refine r_new rfl cn_11_7 ⟨Nat.le_of_ble_eq_true rfl, Nat.le_of_ble_eq_true rfl⟩ h (fun v2 M4 h => ?_)
  refine r_dup rfl (cat_rf _) ?_
  refine r_ci_v (mc := 3) (ms := 205) (vs := []) rfl ml_11_9 (rOk.of rfl) ⟨Nat.le_of_ble_eq_true rfl, Nat.le_of_ble_eq_true rfl⟩ rfl rfl rfl h s_X7_init (fun _ M5 h => ?_)
  refine r_putR rfl fl_11_16 (fun _ => ⟨rfl, fun q hq => by cases hq; rfl⟩) (Or.inl ⟨_, rfl⟩) h (fun M6 h => ?_)
  refine r_aload_n rfl rfl ?_
  refine r_bipush (v := 6) rfl (by decide) ?_
  refine r_newq7 6 rfl ck_11_19 (by decide) ⟨Nat.le_of_ble_eq_true rfl, Nat.le_of_ble_eq_true rfl⟩ h (fun v3 M7 h => ?_)
  refine r_putR rfl fl_11_21 (fun _ => ⟨rfl, fun q hq => by cases hq; rfl⟩) (Or.inr ⟨_, rfl⟩) h (fun M8 h => ?_)
  refine r_aload_n rfl rfl ?_
  refine r_new rfl cn_11_19 ⟨Nat.le_of_ble_eq_true rfl, Nat.le_of_ble_eq_true rfl⟩ h (fun v4 M9 h => ?_)
  refine r_dup rfl (cat_rf _) ?_
  refine r_ci_v (mc := 25) (ms := 521) (vs := []) rfl ml_11_25 (rOk.of rfl) ⟨Nat.le_of_ble_eq_true rfl, Nat.le_of_ble_eq_true rfl⟩ rfl rfl rfl h s_X6_init (fun _ M10 h => ?_)
  refine r_putR rfl fl_11_26 (fun _ => ⟨rfl, fun q hq => by cases hq; rfl⟩) (Or.inl ⟨_, rfl⟩) h (fun M11 h => ?_)
  refine r_aload_n rfl rfl ?_
  refine r_new rfl cn_11_30 ⟨Nat.le_of_ble_eq_true rfl, Nat.le_of_ble_eq_true rfl⟩ h (fun v5 M12 h => ?_)
  refine r_dup rfl (cat_rf _) ?_
  refine r_ci_v (mc := 1) (ms := 300) (vs := []) rfl ml_11_32 (rOk.of rfl) ⟨Nat.le_of_ble_eq_true rfl, Nat.le_of_ble_eq_true rfl⟩ rfl rfl rfl h s_X5_init (fun _ M13 h => ?_)
  refine r_putR rfl fl_11_33 (fun _ => ⟨rfl, fun q hq => by cases hq; rfl⟩) (Or.inl ⟨_, rfl⟩) h (fun M14 h => ?_)
  refine r_aload_n rfl rfl ?_
  refine r_new rfl cn_11_37 ⟨Nat.le_of_ble_eq_true rfl, Nat.le_of_ble_eq_true rfl⟩ h (fun v6 M15 h => ?_)
  refine r_dup rfl (cat_rf _) ?_
  refine r_ci_v (mc := 1) (ms := 56) (vs := []) rfl ml_11_39 (rOk.of rfl) ⟨Nat.le_of_ble_eq_true rfl, Nat.le_of_ble_eq_true rfl⟩ rfl rfl rfl h s_X10_init (fun _ M16 h => ?_)
  refine r_putR rfl fl_11_40 (fun _ => ⟨rfl, fun q hq => by cases hq; rfl⟩) (Or.inl ⟨_, rfl⟩) h (fun M17 h => ?_)
  refine r_aload_n rfl rfl ?_
  refine r_new rfl cn_11_44 ⟨Nat.le_of_ble_eq_true rfl, Nat.le_of_ble_eq_true rfl⟩ h (fun v7 M18 h => ?_)
  refine r_dup rfl (cat_rf _) ?_
  refine r_ci_v (mc := 0) (ms := 0) (vs := []) rfl ml_11_46 (rOk.of rfl) ⟨Nat.le_of_ble_eq_true rfl, Nat.le_of_ble_eq_true rfl⟩ rfl rfl rfl h s_X4_init (fun _ M19 h => ?_)
  refine r_putR rfl fl_11_47 (fun _ => ⟨rfl, fun q hq => by cases hq; rfl⟩) (Or.inl ⟨_, rfl⟩) h (fun M20 h => ?_)
  refine r_aload_n rfl rfl ?_
  refine r_bipush (v := 41) rfl (by decide) ?_
  refine r_newL 41 rfl (by decide) ⟨Nat.le_of_ble_eq_true rfl, Nat.le_of_ble_eq_true rfl⟩ h (fun v8 M21 h => ?_)
  refine r_putR rfl fl_11_51 (fun _ => ⟨rfl, fun q hq => by cases hq; rfl⟩) (Or.inr ⟨_, rfl⟩) h (fun M22 h => ?_)
  refine r_aload_n rfl rfl ?_
  refine r_bipush (v := 41) rfl (by decide) ?_
  refine r_newI 41 rfl (by decide) ⟨Nat.le_of_ble_eq_true rfl, Nat.le_of_ble_eq_true rfl⟩ h (fun v9 M23 h => ?_)
  refine r_putR rfl fl_11_55 (fun _ => ⟨rfl, fun q hq => by cases hq; rfl⟩) (Or.inr ⟨_, rfl⟩) h (fun M24 h => ?_)
  refine r_aload_n rfl rfl ?_
  refine r_iconst (v := 2) rfl (by decide) ?_
  refine r_iconst (v := 4) rfl (by decide) ?_
  refine r_iload_n rfl rfl ?_
  refine r_mmin rfl mk_11_59 ⟨by show 1 ≤ _ + 1; omega, by show 40 ≤ 64 * (_ + 1); omega⟩ ⟨Nat.le_of_ble_eq_true rfl, Nat.le_of_ble_eq_true rfl⟩ rfl ?_
  refine r_mmax rfl mk_11_65 ⟨by show 1 ≤ _ + 1; omega, by show 40 ≤ 64 * (_ + 1); omega⟩ ⟨Nat.le_of_ble_eq_true rfl, Nat.le_of_ble_eq_true rfl⟩ rfl ?_
  refine r_putI rfl fl_11_68 (fun _ => ⟨rfl, fun q hq => by cases hq; rfl⟩) rfl h (fun M25 h => ?_)
  refine r_aload_n rfl rfl ?_
  refine r_iconst (v := 1) rfl (by decide) ?_
  refine r_iconst (v := 3) rfl (by decide) ?_
  refine r_iload_n rfl rfl ?_
  refine r_mmin rfl mk_11_59 ⟨by show 1 ≤ _ + 1; omega, by show 40 ≤ 64 * (_ + 1); omega⟩ ⟨Nat.le_of_ble_eq_true rfl, Nat.le_of_ble_eq_true rfl⟩ rfl ?_
  refine r_mmax rfl mk_11_65 ⟨by show 1 ≤ _ + 1; omega, by show 40 ≤ 64 * (_ + 1); omega⟩ ⟨Nat.le_of_ble_eq_true rfl, Nat.le_of_ble_eq_true rfl⟩ rfl ?_
  refine r_putI rfl fl_11_72 (fun _ => ⟨rfl, fun q hq => by cases hq; rfl⟩) rfl h (fun M26 h => ?_)
  refine r_iconst (v := 0) rfl (by decide) ?_
  refine r_istore_n (lo' := [some (va_rf r0), some (.int i1), some (.int i2), some (.int (0 : Int32))]) rfl rfl rfl rfl ?_
  refine r_msk [true, false, false, true] rfl ?_
  exact s_X11_init_123 7 _ _ (by decide) (by decide) _ _ _ h
set_option maxRecDepth 20000 in
theorem dk_X11_judge : ∀ pc i, L_X11_judge[pc]? = some (some i) → decode prog_1_method_17_code pc = .ok i := dk_of (by decide +kernel)
theorem sb_X11_judge_16 {d : Nat} {P : Int32 → Mem → Prop} {q16 : Option Nat → Int32 → Mem → Option (Int32 × Mem)} (hq16 : ∀ (r0 : Option Nat) (i1 : Int32) (M : Mem), FQ (q16 r0 i1 M) P → wp Y_X11_judge (rmD (d + 7) 0 0) (FM (QI P) 0 0) 0 0 16 [some (va_rf r0), some (.int i1)] [] M) (r0 : Option Nat) (i1 : Int32) (M : Mem) (h : FQ (b_X11_judge_16 q16 r0 i1 M) P) : wp Y_X11_judge (rmD (d + 7) 0 0) (FM (QI P) 0 0) 0 0 16 [some (va_rf r0), some (.int i1)] [] M := by
  unfold b_X11_judge_16 at h
  refine r_iload_n rfl rfl ?_
  refine r_aload_n rfl rfl ?_
  refine r_getR rfl fl_11_10 rfl h (fun v1 h => ?_)
  refine r_getI rfl fl_11_205 rfl h (fun v2 h => ?_)
  refine r_ic_ge 43 rfl (by decide) h (fun h => ?_) (fun h => ?_)
  · refine r_iconst (v := -1) rfl (by decide) ?_
    exact r_iret rfl rfl ⟨Nat.le_of_ble_eq_true rfl, Nat.le_of_ble_eq_true rfl⟩ h
  · refine r_aload_n rfl rfl ?_
    refine r_iload_n rfl rfl ?_
    refine r_cv_i (vs := [.int i1]) rfl ml_11_215 rfl (rOk.of rfl) ⟨Nat.zero_le _, Nat.zero_le _⟩ rfl rfl rfl h s_X11_tryPly (fun v3 M1 h => ?_)
    refine r_if_ne 37 rfl (by decide) h (fun h => ?_) (fun h => ?_)
    · refine r_iload_n rfl rfl ?_
      exact r_iret rfl rfl ⟨Nat.le_of_ble_eq_true rfl, Nat.le_of_ble_eq_true rfl⟩ h
    · refine r_iinc (v := 1) (lo' := [some (va_rf r0), some (.int (i1 + (1 : Int32)))]) rfl rfl rfl (by decide) (by simp [stOk, cat_rf]) rfl ?_
      refine r_goto 16 rfl (by decide) ?_
      exact hq16 _ _ _ h
theorem s_X11_judge_16 {d : Nat} {P : Int32 → Mem → Prop}   : ∀ (k : Nat) (r0 : Option Nat) (i1 : Int32) (M : Mem), FQ (f_X11_judge_16  k r0 i1 M) P → wp Y_X11_judge (rmD (d + 7) 0 0) (FM (QI P) 0 0) 0 0 16 [some (va_rf r0), some (.int i1)] [] M
  | 0, _, _, _, h => h.no
  | k + 1, r0, i1, M, h => sb_X11_judge_16  (s_X11_judge_16  k) r0 i1 M h
theorem s_X11_judge {d : Nat} {P : Int32 → Mem → Prop} {r0 : Option Nat} {M : Mem} (h : FQ (f_X11_judge r0 M) P) : Con Y_X11_judge (d + 7) 0 0 [va_rf r0] M (QI P) := by
  refine Con.of [some (va_rf r0), none] (by decide +kernel) dk_X11_judge (by simp [Y_X11_judge, cat_rf, cat_i, cat_l]) (by simp [loE, Y_X11_judge, cat_rf, cat_i, cat_l, List.replicate]) ?_
  unfold f_X11_judge at h
  refine r_aload_n rfl rfl ?_
  refine r_getR rfl fl_11_47 rfl h (fun v1 h => ?_)
  refine r_aload_n rfl rfl ?_
  refine r_getR rfl fl_11_10 rfl h (fun v2 h => ?_)
  refine r_getR rfl fl_11_114 rfl h (fun v3 h => ?_)
  refine r_cv_v (vs := [va_rf v3]) rfl ml_11_211 rfl (rOk.of rfl) ⟨Nat.zero_le _, Nat.zero_le _⟩ rfl rfl rfl h s_X4_take (fun _ M1 h => ?_)
  refine r_iconst (v := 0) rfl (by decide) ?_
  refine r_istore_n (lo' := [some (va_rf r0), some (.int (0 : Int32))]) rfl rfl (by simp [stOk, cat_rf]) rfl ?_
  exact s_X11_judge_16 FU _ _ _ h
set_option maxRecDepth 20000 in
theorem dk_X0_lineDone : ∀ pc i, L_X0_lineDone[pc]? = some (some i) → decode prog_2_method_14_code pc = .ok i := dk_of (by decide +kernel)
theorem sb_X0_lineDone_3 {d : Nat} {P : Int32 → Mem → Prop} {q3 : Option Nat → Int32 → Int32 → Int32 → Int32 → Mem → Option (Int32 × Mem)} (hq3 : ∀ (r0 : Option Nat) (i1 : Int32) (i2 : Int32) (i3 : Int32) (i4 : Int32) (M : Mem), FQ (q3 r0 i1 i2 i3 i4 M) P → wp Y_X0_lineDone (rmD d 0 0) (FM (QI P) 0 0) 0 0 3 [some (va_rf r0), some (.int i1), some (.int i2), some (.int i3), some (.int i4), none] [] M) (r0 : Option Nat) (i1 : Int32) (i2 : Int32) (i3 : Int32) (i4 : Int32) (M : Mem) (h : FQ (b_X0_lineDone_3 q3 r0 i1 i2 i3 i4 M) P) : wp Y_X0_lineDone (rmD d 0 0) (FM (QI P) 0 0) 0 0 3 [some (va_rf r0), some (.int i1), some (.int i2), some (.int i3), some (.int i4), none] [] M := by
  unfold b_X0_lineDone_3 at h
  refine r_iload rfl rfl ?_
  refine r_bipush (v := 8) rfl (by decide) ?_
  refine r_ic_ge 92 rfl (by decide) h (fun h => ?_) (fun h => ?_)
  · refine r_iconst (v := 0) rfl (by decide) ?_
    exact r_iret rfl rfl ⟨Nat.le_of_ble_eq_true rfl, Nat.le_of_ble_eq_true rfl⟩ h
  · refine r_iload rfl rfl ?_
    refine r_iload_n rfl rfl ?_
    refine r_ic_eq 86 rfl (by decide) h (fun h => ?_) (fun h => ?_)
    · refine r_iinc (v := 1) (lo' := [some (va_rf r0), some (.int i1), some (.int i2), some (.int i3), some (.int (i4 + (1 : Int32))), none]) rfl rfl rfl (by decide) rfl rfl ?_
      refine r_goto 3 rfl (by decide) ?_
      exact hq3 _ _ _ _ _ _ h
    · refine r_iload_n rfl rfl ?_
      refine r_iconst (v := 1) rfl (by decide) ?_
      refine r_iload rfl rfl ?_
      refine r_ishl rfl ?_
      refine r_iand rfl ?_
      refine r_if_eq 86 rfl (by decide) h (fun h => ?_) (fun h => ?_)
      · refine r_iinc (v := 1) (lo' := [some (va_rf r0), some (.int i1), some (.int i2), some (.int i3), some (.int (i4 + (1 : Int32))), none]) rfl rfl rfl (by decide) rfl rfl ?_
        refine r_goto 3 rfl (by decide) ?_
        exact hq3 _ _ _ _ _ _ h
      · refine r_aload_n rfl rfl ?_
        refine r_getR rfl fl_0_42 rfl h (fun v1 h => ?_)
        refine r_getR rfl fl_0_71 rfl h (fun v2 h => ?_)
        refine r_iload_n rfl rfl ?_
        refine r_bipush (v := 64) rfl (by decide) ?_
        refine r_imul rfl ?_
        refine r_iload_n rfl rfl ?_
        refine r_bipush (v := 8) rfl (by decide) ?_
        refine r_imul rfl ?_
        refine r_iadd rfl ?_
        refine r_iload rfl rfl ?_
        refine r_iadd rfl ?_
        refine r_iald rfl h (fun v3 h => ?_)
        refine r_istore (lo' := [some (va_rf r0), some (.int i1), some (.int i2), some (.int i3), some (.int i4), some (.int v3)]) rfl rfl rfl rfl ?_
        refine r_aload_n rfl rfl ?_
        refine r_getR rfl fl_0_11 rfl h (fun v4 h => ?_)
        refine r_iload rfl rfl ?_
        refine r_iald rfl h (fun v5 h => ?_)
        refine r_iconst (v := 3) rfl (by decide) ?_
        refine r_aload_n rfl rfl ?_
        refine r_getR rfl fl_0_11 rfl h (fun v6 h => ?_)
        refine r_iload_n rfl rfl ?_
        refine r_iald rfl h (fun v7 h => ?_)
        refine r_isub rfl ?_
        refine r_ic_ne 86 rfl (by decide) h (fun h => ?_) (fun h => ?_)
        · refine r_aload_n rfl rfl ?_
          refine r_getR rfl fl_0_17 rfl h (fun v8 h => ?_)
          refine r_iload rfl rfl ?_
          refine r_iald rfl h (fun v9 h => ?_)
          refine r_aload_n rfl rfl ?_
          refine r_getR rfl fl_0_17 rfl h (fun v10 h => ?_)
          refine r_iload_n rfl rfl ?_
          refine r_iald rfl h (fun v11 h => ?_)
          refine r_iconst (v := 1) rfl (by decide) ?_
          refine r_isub rfl ?_
          refine r_ic_ne 86 rfl (by decide) h (fun h => ?_) (fun h => ?_)
          · refine r_iload rfl rfl ?_
            exact r_iret rfl rfl ⟨Nat.le_of_ble_eq_true rfl, Nat.le_of_ble_eq_true rfl⟩ h
          · refine r_iinc (v := 1) (lo' := [some (va_rf r0), some (.int i1), some (.int i2), some (.int i3), some (.int (i4 + (1 : Int32))), some (.int v3)]) rfl rfl rfl (by decide) rfl rfl ?_
            refine r_goto 3 rfl (by decide) ?_
            refine r_msk [true, true, true, true, true, false] rfl ?_
            exact hq3 _ _ _ _ _ _ h
        · refine r_iinc (v := 1) (lo' := [some (va_rf r0), some (.int i1), some (.int i2), some (.int i3), some (.int (i4 + (1 : Int32))), some (.int v3)]) rfl rfl rfl (by decide) rfl rfl ?_
          refine r_goto 3 rfl (by decide) ?_
          refine r_msk [true, true, true, true, true, false] rfl ?_
          exact hq3 _ _ _ _ _ _ h
theorem s_X0_lineDone_3 {d : Nat} {P : Int32 → Mem → Prop}   : ∀ (k : Nat) (r0 : Option Nat) (i1 : Int32) (i2 : Int32) (i3 : Int32) (i4 : Int32) (M : Mem), FQ (f_X0_lineDone_3  k r0 i1 i2 i3 i4 M) P → wp Y_X0_lineDone (rmD d 0 0) (FM (QI P) 0 0) 0 0 3 [some (va_rf r0), some (.int i1), some (.int i2), some (.int i3), some (.int i4), none] [] M
  | 0, _, _, _, _, _, _, h => h.no
  | k + 1, r0, i1, i2, i3, i4, M, h => sb_X0_lineDone_3  (s_X0_lineDone_3  k) r0 i1 i2 i3 i4 M h
theorem s_X0_lineDone {d : Nat} {P : Int32 → Mem → Prop} {r0 : Option Nat} {i1 : Int32} {i2 : Int32} {i3 : Int32} {M : Mem} (h : FQ (f_X0_lineDone r0 i1 i2 i3 M) P) : Con Y_X0_lineDone d 0 0 [va_rf r0, .int i1, .int i2, .int i3] M (QI P) := by
  refine Con.of [some (va_rf r0), some (.int i1), some (.int i2), some (.int i3), none, none] (by decide +kernel) dk_X0_lineDone (by simp [Y_X0_lineDone, cat_rf, cat_i, cat_l]) (by simp [loE, Y_X0_lineDone, cat_rf, cat_i, cat_l, List.replicate]) ?_
  unfold f_X0_lineDone at h
  refine r_iconst (v := 0) rfl (by decide) ?_
  refine r_istore (lo' := [some (va_rf r0), some (.int i1), some (.int i2), some (.int i3), some (.int (0 : Int32)), none]) rfl rfl rfl rfl ?_
  exact s_X0_lineDone_3 FU _ _ _ _ _ _ h
set_option maxRecDepth 20000 in
theorem dk_X0_noLength : ∀ pc i, L_X0_noLength[pc]? = some (some i) → decode prog_2_method_16_code pc = .ok i := dk_of (by decide +kernel)
theorem s_X0_noLength_107 {d : Nat} {P : Int32 → Mem → Prop} {q33 : Option Nat → Int32 → Int32 → Int32 → Int32 → Int32 → Int32 → Mem → Option (Int32 × Mem)} (hq33 : ∀ (r0 : Option Nat) (i1 : Int32) (i2 : Int32) (i3 : Int32) (i4 : Int32) (i5 : Int32) (i6 : Int32) (M : Mem), FQ (q33 r0 i1 i2 i3 i4 i5 i6 M) P → wp Y_X0_noLength (rmD (d + 1) 0 0) (FM (QI P) 0 0) 0 0 33 [some (va_rf r0), some (.int i1), some (.int i2), some (.int i3), some (.int i4), some (.int i5), some (.int i6), none, none] [] M) (r0 : Option Nat) (i1 : Int32) (i2 : Int32) (i3 : Int32) (i4 : Int32) (i5 : Int32) (i6 : Int32) (si0 : Int32) (M : Mem) (h : FQ (f_X0_noLength_107 q33 r0 i1 i2 i3 i4 i5 i6 si0 M) P) : wp Y_X0_noLength (rmD (d + 1) 0 0) (FM (QI P) 0 0) 0 0 107 [some (va_rf r0), some (.int i1), some (.int i2), some (.int i3), some (.int i4), some (.int i5), some (.int i6), none, none] [.int si0] M := by
  unfold f_X0_noLength_107 at h
  refine r_istore (lo' := [some (va_rf r0), some (.int i1), some (.int i2), some (.int i3), some (.int i4), some (.int i5), some (.int i6), none, some (.int si0)]) rfl rfl rfl rfl ?_
  refine r_iload rfl rfl ?_
  refine r_if_eq 124 rfl (by decide) h (fun h => ?_) (fun h => ?_)
  · refine r_iload rfl rfl ?_
    refine r_iload rfl rfl ?_
    refine r_mmax rfl mk_0_118 ⟨by show 1 ≤ _ + 1; omega, by show 40 ≤ 64 * (_ + 1); omega⟩ ⟨Nat.le_of_ble_eq_true rfl, Nat.le_of_ble_eq_true rfl⟩ rfl ?_
    refine r_istore (lo' := [some (va_rf r0), some (.int i1), some (.int i2), some (.int i3), some (.int i4), some (.int (if i5 < si0 then si0 else i5)), some (.int i6), none, some (.int si0)]) rfl rfl rfl rfl ?_
    refine r_iinc (v := 1) (lo' := [some (va_rf r0), some (.int i1), some (.int i2), some (.int i3), some (.int i4), some (.int (if i5 < si0 then si0 else i5)), some (.int (i6 + (1 : Int32))), none, some (.int si0)]) rfl rfl rfl (by decide) rfl rfl ?_
    refine r_goto 33 rfl (by decide) ?_
    refine r_msk [true, true, true, true, true, true, true, true, false] rfl ?_
    exact hq33 _ _ _ _ _ _ _ _ h
  · refine r_iload rfl rfl ?_
    refine r_iload rfl rfl ?_
    refine r_mmin rfl mk_0_123 ⟨by show 1 ≤ _ + 1; omega, by show 40 ≤ 64 * (_ + 1); omega⟩ ⟨Nat.le_of_ble_eq_true rfl, Nat.le_of_ble_eq_true rfl⟩ rfl ?_
    refine r_goto 131 rfl (by decide) ?_
    refine r_istore (lo' := [some (va_rf r0), some (.int i1), some (.int i2), some (.int i3), some (.int i4), some (.int (if si0 < i5 then si0 else i5)), some (.int i6), none, some (.int si0)]) rfl rfl rfl rfl ?_
    refine r_iinc (v := 1) (lo' := [some (va_rf r0), some (.int i1), some (.int i2), some (.int i3), some (.int i4), some (.int (if si0 < i5 then si0 else i5)), some (.int (i6 + (1 : Int32))), none, some (.int si0)]) rfl rfl rfl (by decide) rfl rfl ?_
    refine r_goto 33 rfl (by decide) ?_
    refine r_msk [true, true, true, true, true, true, true, true, false] rfl ?_
    exact hq33 _ _ _ _ _ _ _ _ h
theorem sb_X0_noLength_33 {d : Nat} {P : Int32 → Mem → Prop} {q33 : Option Nat → Int32 → Int32 → Int32 → Int32 → Int32 → Int32 → Mem → Option (Int32 × Mem)} (hq33 : ∀ (r0 : Option Nat) (i1 : Int32) (i2 : Int32) (i3 : Int32) (i4 : Int32) (i5 : Int32) (i6 : Int32) (M : Mem), FQ (q33 r0 i1 i2 i3 i4 i5 i6 M) P → wp Y_X0_noLength (rmD (d + 1) 0 0) (FM (QI P) 0 0) 0 0 33 [some (va_rf r0), some (.int i1), some (.int i2), some (.int i3), some (.int i4), some (.int i5), some (.int i6), none, none] [] M) (r0 : Option Nat) (i1 : Int32) (i2 : Int32) (i3 : Int32) (i4 : Int32) (i5 : Int32) (i6 : Int32) (M : Mem) (h : FQ (b_X0_noLength_33 q33 r0 i1 i2 i3 i4 i5 i6 M) P) : wp Y_X0_noLength (rmD (d + 1) 0 0) (FM (QI P) 0 0) 0 0 33 [some (va_rf r0), some (.int i1), some (.int i2), some (.int i3), some (.int i4), some (.int i5), some (.int i6), none, none] [] M := by
  unfold b_X0_noLength_33 at h
  refine r_iload rfl rfl ?_
  refine r_bipush (v := 8) rfl (by decide) ?_
  refine r_ic_ge 139 rfl (by decide) h (fun h => ?_) (fun h => ?_)
  · refine r_iload rfl rfl ?_
    exact r_iret rfl rfl ⟨Nat.le_of_ble_eq_true rfl, Nat.le_of_ble_eq_true rfl⟩ h
  · refine r_iload rfl rfl ?_
    refine r_iload_n rfl rfl ?_
    refine r_ic_eq 133 rfl (by decide) h (fun h => ?_) (fun h => ?_)
    · refine r_iinc (v := 1) (lo' := [some (va_rf r0), some (.int i1), some (.int i2), some (.int i3), some (.int i4), some (.int i5), some (.int (i6 + (1 : Int32))), none, none]) rfl rfl rfl (by decide) rfl rfl ?_
      refine r_goto 33 rfl (by decide) ?_
      exact hq33 _ _ _ _ _ _ _ _ h
    · refine r_iload_n rfl rfl ?_
      refine r_iconst (v := 1) rfl (by decide) ?_
      refine r_iload rfl rfl ?_
      refine r_ishl rfl ?_
      refine r_iand rfl ?_
      refine r_if_eq 133 rfl (by decide) h (fun h => ?_) (fun h => ?_)
      · refine r_iinc (v := 1) (lo' := [some (va_rf r0), some (.int i1), some (.int i2), some (.int i3), some (.int i4), some (.int i5), some (.int (i6 + (1 : Int32))), none, none]) rfl rfl rfl (by decide) rfl rfl ?_
        refine r_goto 33 rfl (by decide) ?_
        exact hq33 _ _ _ _ _ _ _ _ h
      · refine r_aload_n rfl rfl ?_
        refine r_getR rfl fl_0_42 rfl h (fun v1 h => ?_)
        refine r_getR rfl fl_0_71 rfl h (fun v2 h => ?_)
        refine r_iload_n rfl rfl ?_
        refine r_bipush (v := 64) rfl (by decide) ?_
        refine r_imul rfl ?_
        refine r_iload_n rfl rfl ?_
        refine r_bipush (v := 8) rfl (by decide) ?_
        refine r_imul rfl ?_
        refine r_iadd rfl ?_
        refine r_iload rfl rfl ?_
        refine r_iadd rfl ?_
        refine r_iald rfl h (fun v3 h => ?_)
        refine r_istore (lo' := [some (va_rf r0), some (.int i1), some (.int i2), some (.int i3), some (.int i4), some (.int i5), some (.int i6), some (.int v3), none]) rfl rfl rfl rfl ?_
        refine r_aload_n rfl rfl ?_
        refine r_getR rfl fl_0_11 rfl h (fun v4 h => ?_)
        refine r_iload rfl rfl ?_
        refine r_iald rfl h (fun v5 h => ?_)
        refine r_iconst (v := 3) rfl (by decide) ?_
        refine r_aload_n rfl rfl ?_
        refine r_getR rfl fl_0_11 rfl h (fun v6 h => ?_)
        refine r_iload_n rfl rfl ?_
        refine r_iald rfl h (fun v7 h => ?_)
        refine r_isub rfl ?_
        refine r_ic_ne 105 rfl (by decide) h (fun h => ?_) (fun h => ?_)
        · refine r_aload_n rfl rfl ?_
          refine r_getR rfl fl_0_17 rfl h (fun v8 h => ?_)
          refine r_iload rfl rfl ?_
          refine r_iald rfl h (fun v9 h => ?_)
          refine r_goto 107 rfl (by decide) ?_
          refine r_msk [true, true, true, true, true, true, true, false, true] rfl ?_
          exact s_X0_noLength_107 hq33 _ _ _ _ _ _ _ _ _ h
        · refine r_ldc rfl kc_0_117 ?_
          refine r_msk [true, true, true, true, true, true, true, false, true] rfl ?_
          exact s_X0_noLength_107 hq33 _ _ _ _ _ _ _ _ _ h
theorem s_X0_noLength_33 {d : Nat} {P : Int32 → Mem → Prop}   : ∀ (k : Nat) (r0 : Option Nat) (i1 : Int32) (i2 : Int32) (i3 : Int32) (i4 : Int32) (i5 : Int32) (i6 : Int32) (M : Mem), FQ (f_X0_noLength_33  k r0 i1 i2 i3 i4 i5 i6 M) P → wp Y_X0_noLength (rmD (d + 1) 0 0) (FM (QI P) 0 0) 0 0 33 [some (va_rf r0), some (.int i1), some (.int i2), some (.int i3), some (.int i4), some (.int i5), some (.int i6), none, none] [] M
  | 0, _, _, _, _, _, _, _, _, h => h.no
  | k + 1, r0, i1, i2, i3, i4, i5, i6, M, h => sb_X0_noLength_33  (s_X0_noLength_33  k) r0 i1 i2 i3 i4 i5 i6 M h
theorem s_X0_noLength {d : Nat} {P : Int32 → Mem → Prop} {r0 : Option Nat} {i1 : Int32} {i2 : Int32} {i3 : Int32} {M : Mem} (h : FQ (f_X0_noLength r0 i1 i2 i3 M) P) : Con Y_X0_noLength (d + 1) 0 0 [va_rf r0, .int i1, .int i2, .int i3] M (QI P) := by
  refine Con.of [some (va_rf r0), some (.int i1), some (.int i2), some (.int i3), none, none, none, none, none] (by decide +kernel) dk_X0_noLength (by simp [Y_X0_noLength, cat_rf, cat_i, cat_l]) (by simp [loE, Y_X0_noLength, cat_rf, cat_i, cat_l, List.replicate]) ?_
  unfold f_X0_noLength at h
  refine r_aload_n rfl rfl ?_
  refine r_getR rfl fl_0_11 rfl h (fun v1 h => ?_)
  refine r_iload_n rfl rfl ?_
  refine r_iald rfl h (fun v2 h => ?_)
  refine r_iconst (v := 1) rfl (by decide) ?_
  refine r_ic_ne 14 rfl (by decide) h (fun h => ?_) (fun h => ?_)
  · refine r_iconst (v := 1) rfl (by decide) ?_
    refine r_goto 15 rfl (by decide) ?_
    refine r_istore (lo' := [some (va_rf r0), some (.int i1), some (.int i2), some (.int i3), some (.int (1 : Int32)), none, none, none, none]) rfl rfl rfl rfl ?_
    refine r_iload rfl rfl ?_
    refine r_if_eq 27 rfl (by decide) h (fun h => ?_) (fun h => ?_)
    · refine r_iconst (v := 0) rfl (by decide) ?_
      refine r_istore (lo' := [some (va_rf r0), some (.int i1), some (.int i2), some (.int i3), some (.int (1 : Int32)), some (.int (0 : Int32)), none, none, none]) rfl rfl rfl rfl ?_
      refine r_iconst (v := 0) rfl (by decide) ?_
      refine r_istore (lo' := [some (va_rf r0), some (.int i1), some (.int i2), some (.int i3), some (.int (1 : Int32)), some (.int (0 : Int32)), some (.int (0 : Int32)), none, none]) rfl rfl rfl rfl ?_
      exact s_X0_noLength_33 FU _ _ _ _ _ _ _ _ h
    · refine r_ldc rfl kc_0_117 ?_
      refine r_goto 28 rfl (by decide) ?_
      refine r_istore (lo' := [some (va_rf r0), some (.int i1), some (.int i2), some (.int i3), some (.int (1 : Int32)), some (.int (1000000 : Int32)), none, none, none]) rfl rfl rfl rfl ?_
      refine r_iconst (v := 0) rfl (by decide) ?_
      refine r_istore (lo' := [some (va_rf r0), some (.int i1), some (.int i2), some (.int i3), some (.int (1 : Int32)), some (.int (1000000 : Int32)), some (.int (0 : Int32)), none, none]) rfl rfl rfl rfl ?_
      exact s_X0_noLength_33 FU _ _ _ _ _ _ _ _ h
  · refine r_iconst (v := 0) rfl (by decide) ?_
    refine r_istore (lo' := [some (va_rf r0), some (.int i1), some (.int i2), some (.int i3), some (.int (0 : Int32)), none, none, none, none]) rfl rfl rfl rfl ?_
    refine r_iload rfl rfl ?_
    refine r_if_eq 27 rfl (by decide) h (fun h => ?_) (fun h => ?_)
    · refine r_iconst (v := 0) rfl (by decide) ?_
      refine r_istore (lo' := [some (va_rf r0), some (.int i1), some (.int i2), some (.int i3), some (.int (0 : Int32)), some (.int (0 : Int32)), none, none, none]) rfl rfl rfl rfl ?_
      refine r_iconst (v := 0) rfl (by decide) ?_
      refine r_istore (lo' := [some (va_rf r0), some (.int i1), some (.int i2), some (.int i3), some (.int (0 : Int32)), some (.int (0 : Int32)), some (.int (0 : Int32)), none, none]) rfl rfl rfl rfl ?_
      exact s_X0_noLength_33 FU _ _ _ _ _ _ _ _ h
    · refine r_ldc rfl kc_0_117 ?_
      refine r_goto 28 rfl (by decide) ?_
      refine r_istore (lo' := [some (va_rf r0), some (.int i1), some (.int i2), some (.int i3), some (.int (0 : Int32)), some (.int (1000000 : Int32)), none, none, none]) rfl rfl rfl rfl ?_
      refine r_iconst (v := 0) rfl (by decide) ?_
      refine r_istore (lo' := [some (va_rf r0), some (.int i1), some (.int i2), some (.int i3), some (.int (0 : Int32)), some (.int (1000000 : Int32)), some (.int (0 : Int32)), none, none]) rfl rfl rfl rfl ?_
      exact s_X0_noLength_33 FU _ _ _ _ _ _ _ _ h
set_option maxRecDepth 20000 in
theorem dk_X0_lineNo : ∀ pc i, L_X0_lineNo[pc]? = some (some i) → decode prog_2_method_13_code pc = .ok i := dk_of (by decide +kernel)
theorem sb_X0_lineNo_2 {d : Nat} {P : Int32 → Mem → Prop} {q2 : Option Nat → Int32 → Int32 → Int32 → Mem → Option (Int32 × Mem)} (hq2 : ∀ (r0 : Option Nat) (i1 : Int32) (i2 : Int32) (i3 : Int32) (M : Mem), FQ (q2 r0 i1 i2 i3 M) P → wp Y_X0_lineNo (rmD (d + 2) 0 0) (FM (QI P) 0 0) 0 0 2 [some (va_rf r0), some (.int i1), some (.int i2), some (.int i3)] [] M) (r0 : Option Nat) (i1 : Int32) (i2 : Int32) (i3 : Int32) (M : Mem) (h : FQ (b_X0_lineNo_2 q2 r0 i1 i2 i3 M) P) : wp Y_X0_lineNo (rmD (d + 2) 0 0) (FM (QI P) 0 0) 0 0 2 [some (va_rf r0), some (.int i1), some (.int i2), some (.int i3)] [] M := by
  unfold b_X0_lineNo_2 at h
  refine r_iload_n rfl rfl ?_
  refine r_bipush (v := 8) rfl (by decide) ?_
  refine r_ic_ge 42 rfl (by decide) h (fun h => ?_) (fun h => ?_)
  · refine r_iconst (v := 0) rfl (by decide) ?_
    exact r_iret rfl rfl ⟨Nat.le_of_ble_eq_true rfl, Nat.le_of_ble_eq_true rfl⟩ h
  · refine r_iload_n rfl rfl ?_
    refine r_iconst (v := 1) rfl (by decide) ?_
    refine r_iload_n rfl rfl ?_
    refine r_ishl rfl ?_
    refine r_iand rfl ?_
    refine r_if_eq 36 rfl (by decide) h (fun h => ?_) (fun h => ?_)
    · refine r_iinc (v := 1) (lo' := [some (va_rf r0), some (.int i1), some (.int i2), some (.int (i3 + (1 : Int32)))]) rfl rfl rfl (by decide) rfl rfl ?_
      refine r_goto 2 rfl (by decide) ?_
      exact hq2 _ _ _ _ _ h
    · refine r_aload_n rfl rfl ?_
      refine r_iload_n rfl rfl ?_
      refine r_iload_n rfl rfl ?_
      refine r_iload_n rfl rfl ?_
      refine r_cv_i (vs := [.int i1, .int i2, .int i3]) rfl ml_0_114 rfl (rOk.of rfl) ⟨Nat.zero_le _, Nat.zero_le _⟩ rfl rfl rfl h s_X0_noLength (fun v1 M1 h => ?_)
      refine r_aload_n rfl rfl ?_
      refine r_getR rfl fl_0_17 rfl h (fun v2 h => ?_)
      refine r_iload_n rfl rfl ?_
      refine r_iald rfl h (fun v3 h => ?_)
      refine r_iconst (v := 1) rfl (by decide) ?_
      refine r_isub rfl ?_
      refine r_ic_ne 36 rfl (by decide) h (fun h => ?_) (fun h => ?_)
      · refine r_iload_n rfl rfl ?_
        exact r_iret rfl rfl ⟨Nat.le_of_ble_eq_true rfl, Nat.le_of_ble_eq_true rfl⟩ h
      · refine r_iinc (v := 1) (lo' := [some (va_rf r0), some (.int i1), some (.int i2), some (.int (i3 + (1 : Int32)))]) rfl rfl rfl (by decide) rfl rfl ?_
        refine r_goto 2 rfl (by decide) ?_
        exact hq2 _ _ _ _ _ h
theorem s_X0_lineNo_2 {d : Nat} {P : Int32 → Mem → Prop}   : ∀ (k : Nat) (r0 : Option Nat) (i1 : Int32) (i2 : Int32) (i3 : Int32) (M : Mem), FQ (f_X0_lineNo_2  k r0 i1 i2 i3 M) P → wp Y_X0_lineNo (rmD (d + 2) 0 0) (FM (QI P) 0 0) 0 0 2 [some (va_rf r0), some (.int i1), some (.int i2), some (.int i3)] [] M
  | 0, _, _, _, _, _, h => h.no
  | k + 1, r0, i1, i2, i3, M, h => sb_X0_lineNo_2  (s_X0_lineNo_2  k) r0 i1 i2 i3 M h
theorem s_X0_lineNo {d : Nat} {P : Int32 → Mem → Prop} {r0 : Option Nat} {i1 : Int32} {i2 : Int32} {M : Mem} (h : FQ (f_X0_lineNo r0 i1 i2 M) P) : Con Y_X0_lineNo (d + 2) 0 0 [va_rf r0, .int i1, .int i2] M (QI P) := by
  refine Con.of [some (va_rf r0), some (.int i1), some (.int i2), none] (by decide +kernel) dk_X0_lineNo (by simp [Y_X0_lineNo, cat_rf, cat_i, cat_l]) (by simp [loE, Y_X0_lineNo, cat_rf, cat_i, cat_l, List.replicate]) ?_
  unfold f_X0_lineNo at h
  refine r_iconst (v := 0) rfl (by decide) ?_
  refine r_istore_n (lo' := [some (va_rf r0), some (.int i1), some (.int i2), some (.int (0 : Int32))]) rfl rfl rfl rfl ?_
  exact s_X0_lineNo_2 FU _ _ _ _ _ h
