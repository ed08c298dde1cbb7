/-! walked by program (wip/gen): X0_offerLength X0_lineOffer X0_lineAt X11_line X11_loses X3_value X3_weigh -/
def L_X0_offerLength : List (Option (Instr × Nat)) := [some (.aload_n 0, 1), some (.getfield 11, 3), none, none, some (.iload_n 1, 1), some (.iaload, 1), some (.iconst 1, 1), some (.if_icmp .ne 7, 3), none, none, some (.iconst 1, 1), some (.goto 4, 3), none, none, some (.iconst 0, 1), some (.istore_n 3, 1), some (.iload_n 3, 1), some (.ifCond .eq 7, 3), none, none, some (.iconst 0, 1), some (.goto 5, 3), none, none, some (.ldc 117, 2), none, some (.istore 4, 2), none, some (.iconst 0, 1), some (.istore 5, 2), none, some (.iload 5, 2), none, some (.bipush 8, 2), none, some (.if_icmp .ge 51, 3), none, none, some (.iload_n 2, 1), some (.iconst 1, 1), some (.iload 5, 2), none, some (.ishl, 1), some (.iand, 1), some (.ifCond .eq 36, 3), none, none, some (.aload_n 0, 1), some (.iload_n 1, 1), some (.iload_n 2, 1), some (.iload 5, 2), none, some (.invokevirtual 114, 3), none, none, some (.istore 6, 2), none, some (.iload_n 3, 1), some (.ifCond .eq 13, 3), none, none, some (.iload 4, 2), none, some (.iload 6, 2), none, some (.invokestatic 118, 3), none, none, some (.goto 10, 3), none, none, some (.iload 4, 2), none, some (.iload 6, 2), none, some (.invokestatic 123, 3), none, none, some (.istore 4, 2), none, some (.iinc 5 1, 3), none, none, some (.goto (-52), 3), none, none, some (.iload 4, 2), none, some (.ireturn, 1)]
def Y_X0_offerLength : YM := (⟨RX0, "offerLength", "(II)I"⟩, prog_2_method_15_code, L_X0_offerLength, 7, some .int)
def b_X0_offerLength_31 (q31 : Option Nat → Int32 → Int32 → Int32 → Int32 → Int32 → Mem → Option (Int32 × Mem)) (r0 : Option Nat) (i1 : Int32) (i2 : Int32) (i3 : Int32) (i4 : Int32) (i5 : Int32) (M : Mem) : Option (Int32 × Mem) :=
(if (8 : Int32) ≤ i5 then
some (i4, M)
else
(if (i2 &&& ((1 : Int32) <<< (i5 &&& 31))) = 0 then
q31 r0 i1 i2 i3 i4 (i5 + (1 : Int32)) M
else
cR M r0 (1, 0) (cA (f_X0_noLength r0 i1 i2 i5 M) fun v1 M1 =>
(if i3 = 0 then
q31 r0 i1 i2 i3 (if v1 < i4 then v1 else i4) (i5 + (1 : Int32)) M1
else
q31 r0 i1 i2 i3 (if i4 < v1 then v1 else i4) (i5 + (1 : Int32)) M1))))
def f_X0_offerLength_31 (n : Nat) : Option Nat → Int32 → Int32 → Int32 → Int32 → Int32 → Mem → Option (Int32 × Mem) := lpN (fun _ _ _ _ _ _ _ => none) (b_X0_offerLength_31 ) n
def f_X0_offerLength (r0 : Option Nat) (i1 : Int32) (i2 : Int32) (M : Mem) : Option (Int32 × Mem) :=
gR M r0 0 0 fun v1 =>
aI M v1 2 i1 fun v2 =>
(if v2 = (1 : Int32) then
(if (1 : Int32) = 0 then
f_X0_offerLength_31 FU r0 i1 i2 (1 : Int32) (1000000 : Int32) (0 : Int32) M
else
f_X0_offerLength_31 FU r0 i1 i2 (1 : Int32) (0 : Int32) (0 : Int32) M)
else
(if (0 : Int32) = 0 then
f_X0_offerLength_31 FU r0 i1 i2 (0 : Int32) (1000000 : Int32) (0 : Int32) M
else
f_X0_offerLength_31 FU r0 i1 i2 (0 : Int32) (0 : Int32) (0 : Int32) M))
def L_X0_lineOffer : List (Option (Instr × Nat)) := [some (.iconst 0, 1), some (.istore_n 2, 1), some (.iload_n 2, 1), some (.bipush 56, 2), none, some (.if_icmp .ge 53, 3), none, none, some (.aload_n 0, 1), some (.getfield 46, 3), none, none, some (.getfield 83, 3), none, none, some (.iload_n 2, 1), some (.iaload, 1), some (.istore_n 3, 1), some (.iload_n 3, 1), some (.aload_n 0, 1), some (.getfield 42, 3), none, none, some (.getfield 60, 3), none, none, some (.iload_n 1, 1), some (.iaload, 1), some (.iand, 1), some (.iload_n 3, 1), some (.if_icmp .ne 22, 3), none, none, some (.aload_n 0, 1), some (.iload_n 1, 1), some (.iload_n 3, 1), some (.invokevirtual 111, 3), none, none, some (.aload_n 0, 1), some (.getfield 17, 3), none, none, some (.iload_n 1, 1), some (.iaload, 1), some (.iconst 1, 1), some (.isub, 1), some (.if_icmp .ne 5, 3), none, none, some (.iload_n 3, 1), some (.ireturn, 1), some (.iinc 2 1, 3), none, none, some (.goto (-53), 3), none, none, some (.iconst 0, 1), some (.ireturn, 1)]
def Y_X0_lineOffer : YM := (⟨RX0, "lineOffer", "(I)I"⟩, prog_2_method_12_code, L_X0_lineOffer, 4, some .int)
def b_X0_lineOffer_2 (q2 : Option Nat → Int32 → Int32 → Mem → Option (Int32 × Mem)) (r0 : Option Nat) (i1 : Int32) (i2 : Int32) (M : Mem) : Option (Int32 × Mem) :=
(if (56 : Int32) ≤ i2 then
some ((0 : Int32), M)
else
gR M r0 0 3 fun v1 =>
gR M v1 10 0 fun v2 =>
aI M v2 2 i2 fun v3 =>
gR M r0 0 2 fun v4 =>
gR M v4 8 0 fun v5 =>
aI M v5 2 i1 fun v6 =>
(if (v3 &&& v6) = v3 then
cR M r0 (1, 0) (cA (f_X0_offerLength r0 i1 v3 M) fun v7 M1 =>
gR M1 r0 0 1 fun v8 =>
aI M1 v8 2 i1 fun v9 =>
(if v7 = (v9 - (1 : Int32)) then
some (v3, M1)
else
q2 r0 i1 (i2 + (1 : Int32)) M1))
else
q2 r0 i1 (i2 + (1 : Int32)) M))
def f_X0_lineOffer_2 (n : Nat) : Option Nat → Int32 → Int32 → Mem → Option (Int32 × Mem) := lpN (fun _ _ _ _ => none) (b_X0_lineOffer_2 ) n
def f_X0_lineOffer (r0 : Option Nat) (i1 : Int32) (M : Mem) : Option (Int32 × Mem) :=
f_X0_lineOffer_2 FU r0 i1 (0 : Int32) M
def L_X0_lineAt : List (Option (Instr × Nat)) := [some (.aload_n 0, 1), some (.getfield 11, 3), none, none, some (.iconst 0, 1), some (.iaload, 1), some (.ifCond .eq 13, 3), none, none, some (.iload_n 1, 1), some (.aload_n 0, 1), some (.getfield 17, 3), none, none, some (.iconst 0, 1), some (.iaload, 1), some (.if_icmp .lt 5, 3), none, none, some (.iconst (-1), 1), some (.ireturn, 1), some (.iconst 0, 1), some (.istore_n 3, 1), some (.iconst 0, 1), some (.istore 4, 2), none, some (.iload 4, 2), none, some (.iload_n 1, 1), some (.if_icmp .ge 54, 3), none, none, some (.aload_n 0, 1), some (.iload_n 3, 1), some (.invokevirtual 98, 3), none, none, some (.istore 5, 2), none, some (.aload_n 0, 1), some (.iload_n 3, 1), some (.iload 5, 2), none, some (.invokevirtual 101, 3), none, none, some (.istore 6, 2), none, some (.aload_n 0, 1), some (.getfield 42, 3), none, none, some (.getfield 71, 3), none, none, some (.iload_n 3, 1), some (.bipush 64, 2), none, some (.imul, 1), some (.iload 6, 2), none, some (.bipush 8, 2), none, some (.imul, 1), some (.iadd, 1), some (.aload_n 0, 1), some (.iload_n 3, 1), some (.iload 5, 2), none, some (.iload 6, 2), none, some (.invokevirtual 104, 3), none, none, some (.iadd, 1), some (.iaload, 1), some (.istore_n 3, 1), some (.iinc 4 1, 3), none, none, some (.goto (-54), 3), none, none, some (.aload_n 0, 1), some (.iload_n 3, 1), some (.invokevirtual 98, 3), none, none, some (.istore 4, 2), none, some (.iload_n 2, 1), some (.iconst 3, 1), some (.if_icmp .ge 10, 3), none, none, some (.iload 4, 2), none, some (.iload_n 2, 1), some (.invokestatic 108, 3), none, none, some (.ireturn, 1), some (.aload_n 0, 1), some (.iload_n 3, 1), some (.iload 4, 2), none, some (.invokevirtual 101, 3), none, none, some (.istore 5, 2), none, some (.iload_n 2, 1), some (.iconst 3, 1), some (.if_icmp .ne 8, 3), none, none, some (.iload 5, 2), none, some (.goto 12, 3), none, none, some (.aload_n 0, 1), some (.iload_n 3, 1), some (.iload 4, 2), none, some (.iload 5, 2), none, some (.invokevirtual 104, 3), none, none, some (.ireturn, 1)]
def Y_X0_lineAt : YM := (⟨RX0, "lineAt", "(II)I"⟩, prog_2_method_11_code, L_X0_lineAt, 7, some .int)
def b_X0_lineAt_26 (q26 : Option Nat → Int32 → Int32 → Int32 → Int32 → Mem → Option (Int32 × Mem)) (r0 : Option Nat) (i1 : Int32) (i2 : Int32) (i3 : Int32) (i4 : Int32) (M : Mem) : Option (Int32 × Mem) :=
(if i1 ≤ i4 then
cR M r0 (1, 0) (cA (f_X0_lineOffer r0 i3 M) fun v1 M1 =>
(if (3 : Int32) ≤ i2 then
cR M1 r0 (1, 0) (cA (f_X0_lineNo r0 i3 v1 M1) fun v2 M2 =>
(if i2 = (3 : Int32) then
some (v2, M2)
else
cR M2 r0 (1, 0) (cA (f_X0_lineDone r0 i3 v1 v2 M2) fun v3 M3 =>
some (v3, M3))))
else
cA (f_X10_member v1 i2 M1) fun v4 M4 =>
some (v4, M4)))
else
cR M r0 (1, 0) (cA (f_X0_lineOffer r0 i3 M) fun v5 M5 =>
cR M5 r0 (1, 0) (cA (f_X0_lineNo r0 i3 v5 M5) fun v6 M6 =>
gR M6 r0 0 2 fun v7 =>
gR M6 v7 8 1 fun v8 =>
cR M6 r0 (1, 0) (cA (f_X0_lineDone r0 i3 v5 v6 M6) fun v9 M7 =>
aI M7 v8 2 (((i3 * (64 : Int32)) + (v6 * (8 : Int32))) + v9) fun v10 =>
q26 r0 i1 i2 v10 (i4 + (1 : Int32)) M7))))
def f_X0_lineAt_26 (n : Nat) : Option Nat → Int32 → Int32 → Int32 → Int32 → Mem → Option (Int32 × Mem) := lpN (fun _ _ _ _ _ _ => none) (b_X0_lineAt_26 ) n
def f_X0_lineAt (r0 : Option Nat) (i1 : Int32) (i2 : Int32) (M : Mem) : Option (Int32 × Mem) :=
gR M r0 0 0 fun v1 =>
aI M v1 2 (0 : Int32) fun v2 =>
(if v2 = 0 then
some ((-1 : Int32), M)
else
gR M r0 0 1 fun v3 =>
aI M v3 2 (0 : Int32) fun v4 =>
(if i1 < v4 then
f_X0_lineAt_26 FU r0 i1 i2 (0 : Int32) (0 : Int32) M
else
some ((-1 : Int32), M)))
def L_X11_line : List (Option (Instr × Nat)) := [some (.iload_n 1, 1), some (.ifCond .lt 12, 3), none, none, some (.iload_n 2, 1), some (.ifCond .lt 8, 3), none, none, some (.iload_n 2, 1), some (.iconst 5, 1), some (.if_icmp .lt 5, 3), none, none, some (.iconst (-1), 1), some (.ireturn, 1), some (.aload_n 0, 1), some (.aload_n 0, 1), some (.getfield 10, 3), none, none, some (.getfield 114, 3), none, none, some (.invokevirtual 230, 3), none, none, some (.ifCond .eq 15, 3), none, none, some (.aload_n 0, 1), some (.getfield 110, 3), none, none, some (.iload_n 1, 1), some (.iload_n 2, 1), some (.invokevirtual 252, 3), none, none, some (.goto 5, 3), none, none, some (.bipush (-2), 2), none, some (.ireturn, 1)]
def Y_X11_line : YM := (⟨RX11, "line", "(II)I"⟩, prog_1_method_25_code, L_X11_line, 3, some .int)
def f_X11_line (r0 : Option Nat) (i1 : Int32) (i2 : Int32) (M : Mem) : Option (Int32 × Mem) :=
(if i1 < 0 then
some ((-1 : Int32), M)
else
(if i2 < 0 then
some ((-1 : Int32), M)
else
(if i2 < (5 : Int32) then
gR M r0 11 2 fun v1 =>
gR M v1 7 0 fun v2 =>
cR M r0 (1, 11) (cA (f_X11_solved r0 v2 M) fun v3 M1 =>
(if v3 = 0 then
some ((-2 : Int32), M1)
else
gR M1 r0 11 11 fun v4 =>
cR M1 v4 (1, 0) (cA (f_X0_lineAt v4 i1 i2 M1) fun v5 M2 =>
some (v5, M2))))
else
some ((-1 : Int32), M))))
def L_X11_loses : List (Option (Instr × Nat)) := [some (.iload_n 1, 1), some (.iload_n 2, 1), some (.iload_n 3, 1), some (.invokestatic 189, 3), none, none, some (.istore 4, 2), none, some (.aload_n 0, 1), some (.aload_n 0, 1), some (.getfield 10, 3), none, none, some (.getfield 114, 3), none, none, some (.invokevirtual 246, 3), none, none, some (.ifCond .ne 23, 3), none, none, some (.iload 4, 2), none, some (.ifCond .eq 18, 3), none, none, some (.iload 4, 2), none, some (.aload_n 0, 1), some (.getfield 83, 3), none, none, some (.getfield 170, 3), none, none, some (.iand, 1), some (.iload 4, 2), none, some (.if_icmp .eq 5, 3), none, none, some (.iconst (-1), 1), some (.ireturn, 1), some (.aload_n 0, 1), some (.aload_n 0, 1), some (.getfield 10, 3), none, none, some (.getfield 114, 3), none, none, some (.invokevirtual 230, 3), none, none, some (.ifCond .eq 16, 3), none, none, some (.aload_n 0, 1), some (.getfield 110, 3), none, none, some (.iconst 0, 1), some (.iload 4, 2), none, some (.invokevirtual 249, 3), none, none, some (.goto 5, 3), none, none, some (.bipush (-2), 2), none, some (.ireturn, 1)]
def Y_X11_loses : YM := (⟨RX11, "loses", "(III)I"⟩, prog_1_method_24_code, L_X11_loses, 5, some .int)
def f_X11_loses (r0 : Option Nat) (i1 : Int32) (i2 : Int32) (i3 : Int32) (M : Mem) : Option (Int32 × Mem) :=
cA (f_X10_bitsOf i1 i2 i3 M) fun v1 M1 =>
gR M1 r0 11 2 fun v2 =>
gR M1 v2 7 0 fun v3 =>
cR M1 r0 (1, 11) (cA (f_X11_isOver r0 v3 M1) fun v4 M2 =>
(if v4 = 0 then
(if v1 = 0 then
some ((-1 : Int32), M2)
else
gR M2 r0 11 8 fun v5 =>
gI M2 v5 2 3 fun v6 =>
(if (v1 &&& v6) = v1 then
gR M2 r0 11 2 fun v7 =>
gR M2 v7 7 0 fun v8 =>
cR M2 r0 (1, 11) (cA (f_X11_solved r0 v8 M2) fun v9 M3 =>
(if v9 = 0 then
some ((-2 : Int32), M3)
else
gR M3 r0 11 11 fun v10 =>
cR M3 v10 (1, 0) (cA (f_X0_losingNoes v10 (0 : Int32) v1 M3) fun v11 M4 =>
some (v11, M4))))
else
some ((-1 : Int32), M2)))
else
some ((-1 : Int32), M2)))
def L_X3_value : List (Option (Instr × Nat)) := [some (.aload_n 0, 1), some (.getfield 19, 3), none, none, some (.iload 4, 2), none, some (.aload_n 1, 1), some (.iload 4, 2), none, some (.invokevirtual 87, 3), none, none, some (.aload_n 0, 1), some (.getfield 15, 3), none, none, some (.getfield 92, 3), none, none, some (.iload 4, 2), none, some (.iaload, 1), some (.aload_n 0, 1), some (.getfield 15, 3), none, none, some (.getfield 95, 3), none, none, some (.iload 4, 2), none, some (.iaload, 1), some (.invokevirtual 98, 3), none, none, some (.aload_n 0, 1), some (.getfield 19, 3), none, none, some (.aload_n 2, 1), some (.aload_n 3, 1), some (.invokevirtual 104, 3), none, none, some (.ireturn, 1)]
def Y_X3_value : YM := (⟨RX3, "value", "(LGameOfNoes$Position;LGameOfNoes$Rules;LGameOfNoes$Clause;I)I"⟩, prog_5_method_7_code, L_X3_value, 5, some .int)
def f_X3_value (r0 : Option Nat) (r1 : Option Nat) (r2 : Option Nat) (r3 : Option Nat) (i4 : Int32) (M : Mem) : Option (Int32 × Mem) :=
gR M r0 3 3 fun v1 =>
cR M r1 (1, 4) (cA (f_X4_count r1 i4 M) fun v2 M1 =>
gR M1 r0 3 2 fun v3 =>
gR M1 v3 2 0 fun v4 =>
aI M1 v4 2 i4 fun v5 =>
gR M1 r0 3 2 fun v6 =>
gR M1 v6 2 1 fun v7 =>
aI M1 v7 2 i4 fun v8 =>
cR M1 v1 (1, 9) (cA (f_X9_aim v1 i4 v2 v5 v8 M1) fun _ M2 =>
gR M2 r0 3 3 fun v9 =>
cR M2 v9 (1, 9) (cA (f_X9_value v9 r2 r3 M2) fun v10 M3 =>
some (v10, M3))))
def L_X3_weigh : List (Option (Instr × Nat)) := [some (.aload_n 2, 1), some (.iload_n 3, 1), some (.invokevirtual 83, 3), none, none, some (.astore 4, 2), none, some (.iconst 0, 1), some (.istore 5, 2), none, some (.iload 5, 2), none, some (.bipush 8, 2), none, some (.if_icmp .ge 62, 3), none, none, some (.aload 4, 2), none, some (.ifnull 22, 3), none, none, some (.aload_n 0, 1), some (.getfield 15, 3), none, none, some (.getfield 54, 3), none, none, some (.iconst 1, 1), some (.iload 5, 2), none, some (.ishl, 1), some (.iand, 1), some (.ifCond .eq 7, 3), none, none, some (.iconst 1, 1), some (.goto 4, 3), none, none, some (.iconst 0, 1), some (.istore 6, 2), none, some (.aload_n 0, 1), some (.getfield 9, 3), none, none, some (.iload 5, 2), none, some (.iload 6, 2), none, some (.ifCond .eq 16, 3), none, none, some (.aload_n 0, 1), some (.aload_n 1, 1), some (.aload_n 2, 1), some (.aload 4, 2), none, some (.iload 5, 2), none, some (.invokevirtual 73, 3), none, none, some (.goto 4, 3), none, none, some (.iconst 0, 1), some (.iastore, 1), some (.iinc 5 1, 3), none, none, some (.goto (-63), 3), none, none, some (.return_, 1)]
def Y_X3_weigh : YM := (⟨RX3, "weigh", "(LGameOfNoes$Position;LGameOfNoes$Rules;I)V"⟩, prog_5_method_6_code, L_X3_weigh, 7, none)
def f_X3_weigh_42 (q10 : Option Nat → Option Nat → Option Nat → Option Nat → Int32 → Mem → Option (Unit × Mem)) (r0 : Option Nat) (r1 : Option Nat) (r2 : Option Nat) (r4 : Option Nat) (i5 : Int32) (si0 : Int32) (M : Mem) : Option (Unit × Mem) :=
gR M r0 3 5 fun v1 =>
(if si0 = 0 then
wI M v1 2 i5 (0 : Int32) fun M1 =>
q10 r0 r1 r2 r4 (i5 + (1 : Int32)) M1
else
cR M r0 (1, 3) (cA (f_X3_value r0 r1 r2 r4 i5 M) fun v2 M2 =>
wI M2 v1 2 i5 v2 fun M3 =>
q10 r0 r1 r2 r4 (i5 + (1 : Int32)) M3))
def b_X3_weigh_10 (q10 : Option Nat → Option Nat → Option Nat → Option Nat → Int32 → Mem → Option (Unit × Mem)) (r0 : Option Nat) (r1 : Option Nat) (r2 : Option Nat) (r4 : Option Nat) (i5 : Int32) (M : Mem) : Option (Unit × Mem) :=
(if (8 : Int32) ≤ i5 then
some ((), M)
else
(if r4 = none then
f_X3_weigh_42 q10 r0 r1 r2 r4 i5 (0 : Int32) M
else
gR M r0 3 2 fun v1 =>
gI M v1 2 3 fun v2 =>
(if (v2 &&& ((1 : Int32) <<< (i5 &&& 31))) = 0 then
f_X3_weigh_42 q10 r0 r1 r2 r4 i5 (0 : Int32) M
else
f_X3_weigh_42 q10 r0 r1 r2 r4 i5 (1 : Int32) M)))
def f_X3_weigh_10 (n : Nat) : Option Nat → Option Nat → Option Nat → Option Nat → Int32 → Mem → Option (Unit × Mem) := lpN (fun _ _ _ _ _ _ => none) (b_X3_weigh_10 ) n
def f_X3_weigh (r0 : Option Nat) (r1 : Option Nat) (r2 : Option Nat) (i3 : Int32) (M : Mem) : Option (Unit × Mem) :=
cR M r2 (1, 6) (cA (f_X6_singleOf r2 i3 M) fun v1 M1 =>
f_X3_weigh_10 FU r0 r1 r2 v1 (0 : Int32) M1)
set_option maxRecDepth 30000 in
theorem ok_X0_offerLength : okY Y_X0_offerLength := ⟨(gw_in 1041 rfl rfl), (gw_in 13 (by decide +kernel) (by decide +kernel)), by decide +kernel, by decide +kernel⟩
theorem ml_0_111 : MLv RX0 111 Y_X0_offerLength 2 := ⟨(gw_in 1038 (by decide +kernel) (by decide +kernel)), (gw_in 1040 (by decide +kernel) (by decide +kernel)), (gw_sel (n := 13) 41 (by decide +kernel) (by decide +kernel)), ok_X0_offerLength, by decide +kernel⟩
set_option maxRecDepth 30000 in
theorem ok_X0_lineOffer : okY Y_X0_lineOffer := ⟨(gw_in 1037 rfl rfl), (gw_in 13 (by decide +kernel) (by decide +kernel)), by decide +kernel, by decide +kernel⟩
theorem ml_0_98 : MLv RX0 98 Y_X0_lineOffer 1 := ⟨(gw_in 1034 (by decide +kernel) (by decide +kernel)), (gw_in 1036 (by decide +kernel) (by decide +kernel)), (gw_sel (n := 13) 40 (by decide +kernel) (by decide +kernel)), ok_X0_lineOffer, by decide +kernel⟩
set_option maxRecDepth 30000 in
theorem ok_X0_lineNo : okY Y_X0_lineNo := ⟨(gw_in 1052 rfl rfl), (gw_in 13 (by decide +kernel) (by decide +kernel)), by decide +kernel, by decide +kernel⟩
theorem ml_0_101 : MLv RX0 101 Y_X0_lineNo 2 := ⟨(gw_in 1049 (by decide +kernel) (by decide +kernel)), (gw_in 1051 (by decide +kernel) (by decide +kernel)), (gw_sel (n := 13) 43 (by decide +kernel) (by decide +kernel)), ok_X0_lineNo, by decide +kernel⟩
set_option maxRecDepth 30000 in
theorem ok_X0_lineDone : okY Y_X0_lineDone := ⟨(gw_in 1056 rfl rfl), (gw_in 13 (by decide +kernel) (by decide +kernel)), by decide +kernel, by decide +kernel⟩
theorem ml_0_104 : MLv RX0 104 Y_X0_lineDone 3 := ⟨(gw_in 1053 (by decide +kernel) (by decide +kernel)), (gw_in 1055 (by decide +kernel) (by decide +kernel)), (gw_sel (n := 13) 44 (by decide +kernel) (by decide +kernel)), ok_X0_lineDone, by decide +kernel⟩
theorem ml_0_108 : MLs RX0 108 Y_X10_member 2 := ⟨(gw_in 1057 (by decide +kernel) (by decide +kernel)), (gw_in 795 (by decide +kernel) (by decide +kernel)), ok_X10_member, by decide +kernel⟩
set_option maxRecDepth 30000 in
theorem ok_X0_lineAt : okY Y_X0_lineAt := ⟨(gw_in 1033 rfl rfl), (gw_in 13 (by decide +kernel) (by decide +kernel)), by decide +kernel, by decide +kernel⟩
theorem ml_11_252 : MLv RX11 252 Y_X0_lineAt 2 := ⟨(gw_in 1030 (by decide +kernel) (by decide +kernel)), (gw_in 1031 (by decide +kernel) (by decide +kernel)), (gw_in 1032 (by decide +kernel) (by decide +kernel)), ok_X0_lineAt, by decide +kernel⟩
theorem ml_11_249 : MLv RX11 249 Y_X0_losingNoes 2 := ⟨(gw_in 1025 (by decide +kernel) (by decide +kernel)), (gw_in 1001 (by decide +kernel) (by decide +kernel)), (gw_in 1002 (by decide +kernel) (by decide +kernel)), ok_X0_losingNoes, by decide +kernel⟩
theorem ml_3_87 : MLv RX3 87 Y_X4_count 1 := ⟨(gw_in 860 (by decide +kernel) (by decide +kernel)), (gw_in 747 (by decide +kernel) (by decide +kernel)), (gw_in 748 (by decide +kernel) (by decide +kernel)), ok_X4_count, by decide +kernel⟩
theorem fl_3_92 : FLk RX3 92 2 0 true := ⟨_, rfl, by decide, (gw_in 242 (by decide +kernel) (by decide +kernel)), rfl⟩
theorem fl_3_95 : FLk RX3 95 2 1 true := ⟨_, rfl, by decide, (gw_in 245 (by decide +kernel) (by decide +kernel)), rfl⟩
theorem ml_3_98 : MLv RX3 98 Y_X9_aim 4 := ⟨(gw_in 861 (by decide +kernel) (by decide +kernel)), (gw_in 751 (by decide +kernel) (by decide +kernel)), (gw_in 752 (by decide +kernel) (by decide +kernel)), ok_X9_aim, by decide +kernel⟩
theorem ml_3_104 : MLv RX3 104 Y_X9_value 2 := ⟨(gw_in 862 (by decide +kernel) (by decide +kernel)), (gw_in 759 (by decide +kernel) (by decide +kernel)), (gw_in 760 (by decide +kernel) (by decide +kernel)), ok_X9_value, by decide +kernel⟩
set_option maxRecDepth 30000 in
theorem ok_X3_value : okY Y_X3_value := ⟨(gw_in 859 rfl rfl), (gw_in 11 (by decide +kernel) (by decide +kernel)), by decide +kernel, by decide +kernel⟩
theorem ml_3_73 : MLv RX3 73 Y_X3_value 4 := ⟨(gw_in 856 (by decide +kernel) (by decide +kernel)), (gw_in 858 (by decide +kernel) (by decide +kernel)), (gw_sel (n := 6) 22 (by decide +kernel) (by decide +kernel)), ok_X3_value, by decide +kernel⟩
theorem fl_3_54 : FLk RX3 54 2 3 false := ⟨_, rfl, by decide, (gw_in 250 (by decide +kernel) (by decide +kernel)), rfl⟩
theorem ml_3_83 : MLv RX3 83 Y_X6_singleOf 1 := ⟨(gw_in 868 (by decide +kernel) (by decide +kernel)), (gw_in 640 (by decide +kernel) (by decide +kernel)), (gw_in 641 (by decide +kernel) (by decide +kernel)), ok_X6_singleOf, by decide +kernel⟩
set_option maxRecDepth 20000 in
theorem dk_X0_offerLength : ∀ pc i, L_X0_offerLength[pc]? = some (some i) → decode prog_2_method_15_code pc = .ok i := dk_of (by decide +kernel)
theorem sb_X0_offerLength_31 {d : Nat} {P : Int32 → Mem → Prop} {q31 : Option Nat → Int32 → Int32 → Int32 → Int32 → Int32 → Mem → Option (Int32 × Mem)} (hq31 : ∀ (r0 : Option Nat) (i1 : Int32) (i2 : Int32) (i3 : Int32) (i4 : Int32) (i5 : Int32) (M : Mem), FQ (q31 r0 i1 i2 i3 i4 i5 M) P → wp Y_X0_offerLength (rmD (d + 2) 0 0) (FM (QI P) 0 0) 0 0 31 [some (va_rf r0), some (.int i1), some (.int i2), some (.int i3), some (.int i4), some (.int i5), none] [] M) (r0 : Option Nat) (i1 : Int32) (i2 : Int32) (i3 : Int32) (i4 : Int32) (i5 : Int32) (M : Mem) (h : FQ (b_X0_offerLength_31 q31 r0 i1 i2 i3 i4 i5 M) P) : wp Y_X0_offerLength (rmD (d + 2) 0 0) (FM (QI P) 0 0) 0 0 31 [some (va_rf r0), some (.int i1), some (.int i2), some (.int i3), some (.int i4), some (.int i5), none] [] M := by
  unfold b_X0_offerLength_31 at h
  refine r_iload rfl rfl ?_
  refine r_bipush (v := 8) rfl (by decide) ?_
  refine r_ic_ge 86 rfl (by decide) h (fun h => ?_) (fun h => ?_)
  · refine r_iload rfl rfl ?_
    exact r_iret rfl rfl ⟨Nat.le_of_ble_eq_true rfl, Nat.le_of_ble_eq_true rfl⟩ h
  · refine r_iload_n rfl rfl ?_
    refine r_iconst (v := 1) rfl (by decide) ?_
    refine r_iload rfl rfl ?_
    refine r_ishl rfl ?_
    refine r_iand rfl ?_
    refine r_if_eq 80 rfl (by decide) h (fun h => ?_) (fun h => ?_)
    · refine r_iinc (v := 1) (lo' := [some (va_rf r0), some (.int i1), some (.int i2), some (.int i3), some (.int i4), some (.int (i5 + (1 : Int32))), none]) rfl rfl rfl (by decide) rfl rfl ?_
      refine r_goto 31 rfl (by decide) ?_
      exact hq31 _ _ _ _ _ _ _ h
    · refine r_aload_n rfl rfl ?_
      refine r_iload_n rfl rfl ?_
      refine r_iload_n rfl rfl ?_
      refine r_iload rfl rfl ?_
      refine r_cv_i (vs := [.int i1, .int i2, .int i5]) rfl ml_0_114 rfl (rOk.of rfl) ⟨Nat.zero_le _, Nat.zero_le _⟩ rfl rfl rfl h s_X0_noLength (fun v1 M1 h => ?_)
      refine r_istore (lo' := [some (va_rf r0), some (.int i1), some (.int i2), some (.int i3), some (.int i4), some (.int i5), some (.int v1)]) rfl rfl rfl rfl ?_
      refine r_iload_n rfl rfl ?_
      refine r_if_eq 71 rfl (by decide) h (fun h => ?_) (fun h => ?_)
      · refine r_iload rfl rfl ?_
        refine r_iload rfl rfl ?_
        refine r_mmin rfl mk_0_123 ⟨by show 1 ≤ _ + 1; omega, by show 40 ≤ 64 * (_ + 1); omega⟩ ⟨Nat.le_of_ble_eq_true rfl, Nat.le_of_ble_eq_true rfl⟩ rfl ?_
        refine r_istore (lo' := [some (va_rf r0), some (.int i1), some (.int i2), some (.int i3), some (.int (if v1 < i4 then v1 else i4)), some (.int i5), some (.int v1)]) rfl rfl rfl rfl ?_
        refine r_iinc (v := 1) (lo' := [some (va_rf r0), some (.int i1), some (.int i2), some (.int i3), some (.int (if v1 < i4 then v1 else i4)), some (.int (i5 + (1 : Int32))), some (.int v1)]) rfl rfl rfl (by decide) rfl rfl ?_
        refine r_goto 31 rfl (by decide) ?_
        refine r_msk [true, true, true, true, true, true, false] rfl ?_
        exact hq31 _ _ _ _ _ _ _ h
      · refine r_iload rfl rfl ?_
        refine r_iload rfl rfl ?_
        refine r_mmax rfl mk_0_118 ⟨by show 1 ≤ _ + 1; omega, by show 40 ≤ 64 * (_ + 1); omega⟩ ⟨Nat.le_of_ble_eq_true rfl, Nat.le_of_ble_eq_true rfl⟩ rfl ?_
        refine r_goto 78 rfl (by decide) ?_
        refine r_istore (lo' := [some (va_rf r0), some (.int i1), some (.int i2), some (.int i3), some (.int (if i4 < v1 then v1 else i4)), some (.int i5), some (.int v1)]) rfl rfl rfl rfl ?_
        refine r_iinc (v := 1) (lo' := [some (va_rf r0), some (.int i1), some (.int i2), some (.int i3), some (.int (if i4 < v1 then v1 else i4)), some (.int (i5 + (1 : Int32))), some (.int v1)]) rfl rfl rfl (by decide) rfl rfl ?_
        refine r_goto 31 rfl (by decide) ?_
        refine r_msk [true, true, true, true, true, true, false] rfl ?_
        exact hq31 _ _ _ _ _ _ _ h
theorem s_X0_offerLength_31 {d : Nat} {P : Int32 → Mem → Prop}   : ∀ (k : Nat) (r0 : Option Nat) (i1 : Int32) (i2 : Int32) (i3 : Int32) (i4 : Int32) (i5 : Int32) (M : Mem), FQ (f_X0_offerLength_31  k r0 i1 i2 i3 i4 i5 M) P → wp Y_X0_offerLength (rmD (d + 2) 0 0) (FM (QI P) 0 0) 0 0 31 [some (va_rf r0), some (.int i1), some (.int i2), some (.int i3), some (.int i4), some (.int i5), none] [] M
  | 0, _, _, _, _, _, _, _, h => h.no
  | k + 1, r0, i1, i2, i3, i4, i5, M, h => sb_X0_offerLength_31  (s_X0_offerLength_31  k) r0 i1 i2 i3 i4 i5 M h
theorem s_X0_offerLength {d : Nat} {P : Int32 → Mem → Prop} {r0 : Option Nat} {i1 : Int32} {i2 : Int32} {M : Mem} (h : FQ (f_X0_offerLength r0 i1 i2 M) P) : Con Y_X0_offerLength (d + 2) 0 0 [va_rf r0, .int i1, .int i2] M (QI P) := by
  refine Con.of [some (va_rf r0), some (.int i1), some (.int i2), none, none, none, none] (by decide +kernel) dk_X0_offerLength (by simp [Y_X0_offerLength, cat_rf, cat_i, cat_l]) (by simp [loE, Y_X0_offerLength, cat_rf, cat_i, cat_l, List.replicate]) ?_
  unfold f_X0_offerLength at h
  refine r_aload_n rfl rfl ?_
  refine r_getR rfl fl_0_11 rfl h (fun v1 h => ?_)
  refine r_iload_n rfl rfl ?_
  refine r_iald rfl h (fun v2 h => ?_)
  refine r_iconst (v := 1) rfl (by decide) ?_
  refine r_ic_ne 14 rfl (by decide) h (fun h => ?_) (fun h => ?_)
  · refine r_iconst (v := 1) rfl (by decide) ?_
    refine r_goto 15 rfl (by decide) ?_
    refine r_istore_n (lo' := [some (va_rf r0), some (.int i1), some (.int i2), some (.int (1 : Int32)), none, none, none]) rfl rfl rfl rfl ?_
    refine r_iload_n rfl rfl ?_
    refine r_if_eq 24 rfl (by decide) h (fun h => ?_) (fun h => ?_)
    · refine r_ldc rfl kc_0_117 ?_
      refine r_istore (lo' := [some (va_rf r0), some (.int i1), some (.int i2), some (.int (1 : Int32)), some (.int (1000000 : Int32)), none, none]) rfl rfl rfl rfl ?_
      refine r_iconst (v := 0) rfl (by decide) ?_
      refine r_istore (lo' := [some (va_rf r0), some (.int i1), some (.int i2), some (.int (1 : Int32)), some (.int (1000000 : Int32)), some (.int (0 : Int32)), none]) rfl rfl rfl rfl ?_
      exact s_X0_offerLength_31 FU _ _ _ _ _ _ _ h
    · refine r_iconst (v := 0) rfl (by decide) ?_
      refine r_goto 26 rfl (by decide) ?_
      refine r_istore (lo' := [some (va_rf r0), some (.int i1), some (.int i2), some (.int (1 : Int32)), some (.int (0 : Int32)), none, none]) rfl rfl rfl rfl ?_
      refine r_iconst (v := 0) rfl (by decide) ?_
      refine r_istore (lo' := [some (va_rf r0), some (.int i1), some (.int i2), some (.int (1 : Int32)), some (.int (0 : Int32)), some (.int (0 : Int32)), none]) rfl rfl rfl rfl ?_
      exact s_X0_offerLength_31 FU _ _ _ _ _ _ _ h
  · refine r_iconst (v := 0) rfl (by decide) ?_
    refine r_istore_n (lo' := [some (va_rf r0), some (.int i1), some (.int i2), some (.int (0 : Int32)), none, none, none]) rfl rfl rfl rfl ?_
    refine r_iload_n rfl rfl ?_
    refine r_if_eq 24 rfl (by decide) h (fun h => ?_) (fun h => ?_)
    · refine r_ldc rfl kc_0_117 ?_
      refine r_istore (lo' := [some (va_rf r0), some (.int i1), some (.int i2), some (.int (0 : Int32)), some (.int (1000000 : Int32)), none, none]) rfl rfl rfl rfl ?_
      refine r_iconst (v := 0) rfl (by decide) ?_
      refine r_istore (lo' := [some (va_rf r0), some (.int i1), some (.int i2), some (.int (0 : Int32)), some (.int (1000000 : Int32)), some (.int (0 : Int32)), none]) rfl rfl rfl rfl ?_
      exact s_X0_offerLength_31 FU _ _ _ _ _ _ _ h
    · refine r_iconst (v := 0) rfl (by decide) ?_
      refine r_goto 26 rfl (by decide) ?_
      refine r_istore (lo' := [some (va_rf r0), some (.int i1), some (.int i2), some (.int (0 : Int32)), some (.int (0 : Int32)), none, none]) rfl rfl rfl rfl ?_
      refine r_iconst (v := 0) rfl (by decide) ?_
      refine r_istore (lo' := [some (va_rf r0), some (.int i1), some (.int i2), some (.int (0 : Int32)), some (.int (0 : Int32)), some (.int (0 : Int32)), none]) rfl rfl rfl rfl ?_
      exact s_X0_offerLength_31 FU _ _ _ _ _ _ _ h
set_option maxRecDepth 20000 in
theorem dk_X0_lineOffer : ∀ pc i, L_X0_lineOffer[pc]? = some (some i) → decode prog_2_method_12_code pc = .ok i := dk_of (by decide +kernel)
theorem sb_X0_lineOffer_2 {d : Nat} {P : Int32 → Mem → Prop} {q2 : Option Nat → Int32 → Int32 → Mem → Option (Int32 × Mem)} (hq2 : ∀ (r0 : Option Nat) (i1 : Int32) (i2 : Int32) (M : Mem), FQ (q2 r0 i1 i2 M) P → wp Y_X0_lineOffer (rmD (d + 3) 0 0) (FM (QI P) 0 0) 0 0 2 [some (va_rf r0), some (.int i1), some (.int i2), none] [] M) (r0 : Option Nat) (i1 : Int32) (i2 : Int32) (M : Mem) (h : FQ (b_X0_lineOffer_2 q2 r0 i1 i2 M) P) : wp Y_X0_lineOffer (rmD (d + 3) 0 0) (FM (QI P) 0 0) 0 0 2 [some (va_rf r0), some (.int i1), some (.int i2), none] [] M := by
  unfold b_X0_lineOffer_2 at h
  refine r_iload_n rfl rfl ?_
  refine r_bipush (v := 56) rfl (by decide) ?_
  refine r_ic_ge 58 rfl (by decide) h (fun h => ?_) (fun h => ?_)
  · refine r_iconst (v := 0) rfl (by decide) ?_
    exact r_iret rfl rfl ⟨Nat.le_of_ble_eq_true rfl, Nat.le_of_ble_eq_true rfl⟩ h
  · refine r_aload_n rfl rfl ?_
    refine r_getR rfl fl_0_46 rfl h (fun v1 h => ?_)
    refine r_getR rfl fl_0_83 rfl h (fun v2 h => ?_)
    refine r_iload_n rfl rfl ?_
    refine r_iald rfl h (fun v3 h => ?_)
    refine r_istore_n (lo' := [some (va_rf r0), some (.int i1), some (.int i2), some (.int v3)]) rfl rfl rfl rfl ?_
    refine r_iload_n rfl rfl ?_
    refine r_aload_n rfl rfl ?_
    refine r_getR rfl fl_0_42 rfl h (fun v4 h => ?_)
    refine r_getR rfl fl_0_60 rfl h (fun v5 h => ?_)
    refine r_iload_n rfl rfl ?_
    refine r_iald rfl h (fun v6 h => ?_)
    refine r_iand rfl ?_
    refine r_iload_n rfl rfl ?_
    refine r_ic_ne 52 rfl (by decide) h (fun h => ?_) (fun h => ?_)
    · refine r_aload_n rfl rfl ?_
      refine r_iload_n rfl rfl ?_
      refine r_iload_n rfl rfl ?_
      refine r_cv_i (vs := [.int i1, .int v3]) rfl ml_0_111 rfl (rOk.of rfl) ⟨Nat.zero_le _, Nat.zero_le _⟩ rfl rfl rfl h s_X0_offerLength (fun v7 M1 h => ?_)
      refine r_aload_n rfl rfl ?_
      refine r_getR rfl fl_0_17 rfl h (fun v8 h => ?_)
      refine r_iload_n rfl rfl ?_
      refine r_iald rfl h (fun v9 h => ?_)
      refine r_iconst (v := 1) rfl (by decide) ?_
      refine r_isub rfl ?_
      refine r_ic_ne 52 rfl (by decide) h (fun h => ?_) (fun h => ?_)
      · refine r_iload_n rfl rfl ?_
        exact r_iret rfl rfl ⟨Nat.le_of_ble_eq_true rfl, Nat.le_of_ble_eq_true rfl⟩ h
      · refine r_iinc (v := 1) (lo' := [some (va_rf r0), some (.int i1), some (.int (i2 + (1 : Int32))), some (.int v3)]) rfl rfl rfl (by decide) rfl rfl ?_
        refine r_goto 2 rfl (by decide) ?_
        refine r_msk [true, true, true, false] rfl ?_
        exact hq2 _ _ _ _ h
    · refine r_iinc (v := 1) (lo' := [some (va_rf r0), some (.int i1), some (.int (i2 + (1 : Int32))), some (.int v3)]) rfl rfl rfl (by decide) rfl rfl ?_
      refine r_goto 2 rfl (by decide) ?_
      refine r_msk [true, true, true, false] rfl ?_
      exact hq2 _ _ _ _ h
theorem s_X0_lineOffer_2 {d : Nat} {P : Int32 → Mem → Prop}   : ∀ (k : Nat) (r0 : Option Nat) (i1 : Int32) (i2 : Int32) (M : Mem), FQ (f_X0_lineOffer_2  k r0 i1 i2 M) P → wp Y_X0_lineOffer (rmD (d + 3) 0 0) (FM (QI P) 0 0) 0 0 2 [some (va_rf r0), some (.int i1), some (.int i2), none] [] M
  | 0, _, _, _, _, h => h.no
  | k + 1, r0, i1, i2, M, h => sb_X0_lineOffer_2  (s_X0_lineOffer_2  k) r0 i1 i2 M h
theorem s_X0_lineOffer {d : Nat} {P : Int32 → Mem → Prop} {r0 : Option Nat} {i1 : Int32} {M : Mem} (h : FQ (f_X0_lineOffer r0 i1 M) P) : Con Y_X0_lineOffer (d + 3) 0 0 [va_rf r0, .int i1] M (QI P) := by
  refine Con.of [some (va_rf r0), some (.int i1), none, none] (by decide +kernel) dk_X0_lineOffer (by simp [Y_X0_lineOffer, cat_rf, cat_i, cat_l]) (by simp [loE, Y_X0_lineOffer, cat_rf, cat_i, cat_l, List.replicate]) ?_
  unfold f_X0_lineOffer at h
  refine r_iconst (v := 0) rfl (by decide) ?_
  refine r_istore_n (lo' := [some (va_rf r0), some (.int i1), some (.int (0 : Int32)), none]) rfl rfl rfl rfl ?_
  exact s_X0_lineOffer_2 FU _ _ _ _ h
set_option maxRecDepth 20000 in
theorem dk_X0_lineAt : ∀ pc i, L_X0_lineAt[pc]? = some (some i) → decode prog_2_method_11_code pc = .ok i := dk_of (by decide +kernel)
theorem sb_X0_lineAt_26 {d : Nat} {P : Int32 → Mem → Prop} {q26 : Option Nat → Int32 → Int32 → Int32 → Int32 → Mem → Option (Int32 × Mem)} (hq26 : ∀ (r0 : Option Nat) (i1 : Int32) (i2 : Int32) (i3 : Int32) (i4 : Int32) (M : Mem), FQ (q26 r0 i1 i2 i3 i4 M) P → wp Y_X0_lineAt (rmD (d + 4) 0 0) (FM (QI P) 0 0) 0 0 26 [some (va_rf r0), some (.int i1), some (.int i2), some (.int i3), some (.int i4), none, none] [] M) (r0 : Option Nat) (i1 : Int32) (i2 : Int32) (i3 : Int32) (i4 : Int32) (M : Mem) (h : FQ (b_X0_lineAt_26 q26 r0 i1 i2 i3 i4 M) P) : wp Y_X0_lineAt (rmD (d + 4) 0 0) (FM (QI P) 0 0) 0 0 26 [some (va_rf r0), some (.int i1), some (.int i2), some (.int i3), some (.int i4), none, none] [] M := by
  unfold b_X0_lineAt_26 at h
  refine r_iload rfl rfl ?_
  refine r_iload_n rfl rfl ?_
  refine r_ic_ge 83 rfl (by decide) h (fun h => ?_) (fun h => ?_)
  · refine r_aload_n rfl rfl ?_
    refine r_iload_n rfl rfl ?_
    refine r_cv_i (vs := [.int i3]) rfl ml_0_98 rfl (rOk.of rfl) ⟨Nat.zero_le _, Nat.zero_le _⟩ rfl rfl rfl h s_X0_lineOffer (fun v1 M1 h => ?_)
    refine r_istore (lo' := [some (va_rf r0), some (.int i1), some (.int i2), some (.int i3), some (.int v1), none, none]) rfl rfl rfl rfl ?_
    refine r_iload_n rfl rfl ?_
    refine r_iconst (v := 3) rfl (by decide) ?_
    refine r_ic_ge 102 rfl (by decide) h (fun h => ?_) (fun h => ?_)
    · refine r_aload_n rfl rfl ?_
      refine r_iload_n rfl rfl ?_
      refine r_iload rfl rfl ?_
      refine r_cv_i (vs := [.int i3, .int v1]) rfl ml_0_101 rfl (rOk.of rfl) ⟨Nat.zero_le _, Nat.zero_le _⟩ rfl rfl rfl h s_X0_lineNo (fun v2 M2 h => ?_)
      refine r_istore (lo' := [some (va_rf r0), some (.int i1), some (.int i2), some (.int i3), some (.int v1), some (.int v2), none]) rfl rfl rfl rfl ?_
      refine r_iload_n rfl rfl ?_
      refine r_iconst (v := 3) rfl (by decide) ?_
      refine r_ic_ne 121 rfl (by decide) h (fun h => ?_) (fun h => ?_)
      · refine r_iload rfl rfl ?_
        refine r_goto 130 rfl (by decide) ?_
        exact r_iret rfl rfl ⟨Nat.le_of_ble_eq_true rfl, Nat.le_of_ble_eq_true rfl⟩ h
      · refine r_aload_n rfl rfl ?_
        refine r_iload_n rfl rfl ?_
        refine r_iload rfl rfl ?_
        refine r_iload rfl rfl ?_
        refine r_cv_i (vs := [.int i3, .int v1, .int v2]) rfl ml_0_104 rfl (rOk.of rfl) ⟨Nat.zero_le _, Nat.zero_le _⟩ rfl rfl rfl h s_X0_lineDone (fun v3 M3 h => ?_)
        exact r_iret rfl rfl ⟨Nat.le_of_ble_eq_true rfl, Nat.le_of_ble_eq_true rfl⟩ h
    · refine r_iload rfl rfl ?_
      refine r_iload_n rfl rfl ?_
      refine r_cs_i (vs := [.int v1, .int i2]) rfl ml_0_108 (rOk.of rfl) ⟨Nat.zero_le _, Nat.zero_le _⟩ rfl rfl rfl h s_X10_member (fun v4 M4 h => ?_)
      exact r_iret rfl rfl ⟨Nat.le_of_ble_eq_true rfl, Nat.le_of_ble_eq_true rfl⟩ h
  · refine r_aload_n rfl rfl ?_
    refine r_iload_n rfl rfl ?_
    refine r_cv_i (vs := [.int i3]) rfl ml_0_98 rfl (rOk.of rfl) ⟨Nat.zero_le _, Nat.zero_le _⟩ rfl rfl rfl h s_X0_lineOffer (fun v5 M5 h => ?_)
    refine r_istore (lo' := [some (va_rf r0), some (.int i1), some (.int i2), some (.int i3), some (.int i4), some (.int v5), none]) rfl rfl rfl rfl ?_
    refine r_aload_n rfl rfl ?_
    refine r_iload_n rfl rfl ?_
    refine r_iload rfl rfl ?_
    refine r_cv_i (vs := [.int i3, .int v5]) rfl ml_0_101 rfl (rOk.of rfl) ⟨Nat.zero_le _, Nat.zero_le _⟩ rfl rfl rfl h s_X0_lineNo (fun v6 M6 h => ?_)
    refine r_istore (lo' := [some (va_rf r0), some (.int i1), some (.int i2), some (.int i3), some (.int i4), some (.int v5), some (.int v6)]) rfl rfl rfl rfl ?_
    refine r_aload_n rfl rfl ?_
    refine r_getR rfl fl_0_42 rfl h (fun v7 h => ?_)
    refine r_getR rfl fl_0_71 rfl h (fun v8 h => ?_)
    refine r_iload_n rfl rfl ?_
    refine r_bipush (v := 64) rfl (by decide) ?_
    refine r_imul rfl ?_
    refine r_iload rfl rfl ?_
    refine r_bipush (v := 8) rfl (by decide) ?_
    refine r_imul rfl ?_
    refine r_iadd rfl ?_
    refine r_aload_n rfl rfl ?_
    refine r_iload_n rfl rfl ?_
    refine r_iload rfl rfl ?_
    refine r_iload rfl rfl ?_
    refine r_cv_i (vs := [.int i3, .int v5, .int v6]) rfl ml_0_104 rfl (rOk.of rfl) ⟨Nat.zero_le _, Nat.zero_le _⟩ rfl rfl rfl h s_X0_lineDone (fun v9 M7 h => ?_)
    refine r_iadd rfl ?_
    refine r_iald rfl h (fun v10 h => ?_)
    refine r_istore_n (lo' := [some (va_rf r0), some (.int i1), some (.int i2), some (.int v10), some (.int i4), some (.int v5), some (.int v6)]) rfl rfl rfl rfl ?_
    refine r_iinc (v := 1) (lo' := [some (va_rf r0), some (.int i1), some (.int i2), some (.int v10), some (.int (i4 + (1 : Int32))), some (.int v5), some (.int v6)]) rfl rfl rfl (by decide) rfl rfl ?_
    refine r_goto 26 rfl (by decide) ?_
    refine r_msk [true, true, true, true, true, false, false] rfl ?_
    exact hq26 _ _ _ _ _ _ h
theorem s_X0_lineAt_26 {d : Nat} {P : Int32 → Mem → Prop}   : ∀ (k : Nat) (r0 : Option Nat) (i1 : Int32) (i2 : Int32) (i3 : Int32) (i4 : Int32) (M : Mem), FQ (f_X0_lineAt_26  k r0 i1 i2 i3 i4 M) P → wp Y_X0_lineAt (rmD (d + 4) 0 0) (FM (QI P) 0 0) 0 0 26 [some (va_rf r0), some (.int i1), some (.int i2), some (.int i3), some (.int i4), none, none] [] M
  | 0, _, _, _, _, _, _, h => h.no
  | k + 1, r0, i1, i2, i3, i4, M, h => sb_X0_lineAt_26  (s_X0_lineAt_26  k) r0 i1 i2 i3 i4 M h
theorem s_X0_lineAt {d : Nat} {P : Int32 → Mem → Prop} {r0 : Option Nat} {i1 : Int32} {i2 : Int32} {M : Mem} (h : FQ (f_X0_lineAt r0 i1 i2 M) P) : Con Y_X0_lineAt (d + 4) 0 0 [va_rf r0, .int i1, .int i2] M (QI P) := by
  refine Con.of [some (va_rf r0), some (.int i1), some (.int i2), none, none, none, none] (by decide +kernel) dk_X0_lineAt (by simp [Y_X0_lineAt, cat_rf, cat_i, cat_l]) (by simp [loE, Y_X0_lineAt, cat_rf, cat_i, cat_l, List.replicate]) ?_
  unfold f_X0_lineAt at h
  refine r_aload_n rfl rfl ?_
  refine r_getR rfl fl_0_11 rfl h (fun v1 h => ?_)
  refine r_iconst (v := 0) rfl (by decide) ?_
  refine r_iald rfl h (fun v2 h => ?_)
  refine r_if_eq 19 rfl (by decide) h (fun h => ?_) (fun h => ?_)
  · refine r_iconst (v := -1) rfl (by decide) ?_
    exact r_iret rfl rfl ⟨Nat.le_of_ble_eq_true rfl, Nat.le_of_ble_eq_true rfl⟩ h
  · refine r_iload_n rfl rfl ?_
    refine r_aload_n rfl rfl ?_
    refine r_getR rfl fl_0_17 rfl h (fun v3 h => ?_)
    refine r_iconst (v := 0) rfl (by decide) ?_
    refine r_iald rfl h (fun v4 h => ?_)
    refine r_ic_lt 21 rfl (by decide) h (fun h => ?_) (fun h => ?_)
    · refine r_iconst (v := 0) rfl (by decide) ?_
      refine r_istore_n (lo' := [some (va_rf r0), some (.int i1), some (.int i2), some (.int (0 : Int32)), none, none, none]) rfl rfl rfl rfl ?_
      refine r_iconst (v := 0) rfl (by decide) ?_
      refine r_istore (lo' := [some (va_rf r0), some (.int i1), some (.int i2), some (.int (0 : Int32)), some (.int (0 : Int32)), none, none]) rfl rfl rfl rfl ?_
      exact s_X0_lineAt_26 FU _ _ _ _ _ _ h
    · refine r_iconst (v := -1) rfl (by decide) ?_
      exact r_iret rfl rfl ⟨Nat.le_of_ble_eq_true rfl, Nat.le_of_ble_eq_true rfl⟩ h
set_option maxRecDepth 20000 in
theorem dk_X11_line : ∀ pc i, L_X11_line[pc]? = some (some i) → decode prog_1_method_25_code pc = .ok i := dk_of (by decide +kernel)
theorem s_X11_line {d : Nat} {P : Int32 → Mem → Prop} {r0 : Option Nat} {i1 : Int32} {i2 : Int32} {M : Mem} (h : FQ (f_X11_line r0 i1 i2 M) P) : Con Y_X11_line (d + 7) 0 0 [va_rf r0, .int i1, .int i2] M (QI P) := by
  refine Con.of [some (va_rf r0), some (.int i1), some (.int i2)] (by decide +kernel) dk_X11_line (by simp [Y_X11_line, cat_rf, cat_i, cat_l]) (by simp [loE, Y_X11_line, cat_rf, cat_i, cat_l, List.replicate]) ?_
  unfold f_X11_line at h
  refine r_iload_n rfl rfl ?_
  refine r_if_lt 13 rfl (by decide) h (fun h => ?_) (fun h => ?_)
  · refine r_iconst (v := -1) rfl (by decide) ?_
    exact r_iret rfl rfl ⟨Nat.le_of_ble_eq_true rfl, Nat.le_of_ble_eq_true rfl⟩ h
  · refine r_iload_n rfl rfl ?_
    refine r_if_lt 13 rfl (by decide) h (fun h => ?_) (fun h => ?_)
    · refine r_iconst (v := -1) rfl (by decide) ?_
      exact r_iret rfl rfl ⟨Nat.le_of_ble_eq_true rfl, Nat.le_of_ble_eq_true rfl⟩ h
    · refine r_iload_n rfl rfl ?_
      refine r_iconst (v := 5) rfl (by decide) ?_
      refine r_ic_lt 15 rfl (by decide) h (fun h => ?_) (fun h => ?_)
      · refine r_aload_n rfl rfl ?_
        refine r_aload_n rfl rfl ?_
        refine r_getR rfl fl_11_10 rfl h (fun v1 h => ?_)
        refine r_getR rfl fl_11_114 rfl h (fun v2 h => ?_)
        refine r_cv_i (vs := [va_rf v2]) rfl ml_11_230 rfl (rOk.of rfl) ⟨Nat.zero_le _, Nat.zero_le _⟩ rfl rfl rfl h s_X11_solved (fun v3 M1 h => ?_)
        refine r_if_eq 41 rfl (by decide) h (fun h => ?_) (fun h => ?_)
        · refine r_bipush (v := -2) rfl (by decide) ?_
          exact r_iret rfl rfl ⟨Nat.le_of_ble_eq_true rfl, Nat.le_of_ble_eq_true rfl⟩ h
        · refine r_aload_n rfl rfl ?_
          refine r_getR rfl fl_11_110 rfl h (fun v4 h => ?_)
          refine r_iload_n rfl rfl ?_
          refine r_iload_n rfl rfl ?_
          refine r_cv_i (vs := [.int i1, .int i2]) rfl ml_11_252 rfl (rOk.of rfl) ⟨Nat.zero_le _, Nat.zero_le _⟩ rfl rfl rfl h s_X0_lineAt (fun v5 M2 h => ?_)
          refine r_goto 43 rfl (by decide) ?_
          exact r_iret rfl rfl ⟨Nat.le_of_ble_eq_true rfl, Nat.le_of_ble_eq_true rfl⟩ h
      · refine r_iconst (v := -1) rfl (by decide) ?_
        exact r_iret rfl rfl ⟨Nat.le_of_ble_eq_true rfl, Nat.le_of_ble_eq_true rfl⟩ h
set_option maxRecDepth 20000 in
theorem dk_X11_loses : ∀ pc i, L_X11_loses[pc]? = some (some i) → decode prog_1_method_24_code pc = .ok i := dk_of (by decide +kernel)
theorem s_X11_loses {d : Nat} {P : Int32 → Mem → Prop} {r0 : Option Nat} {i1 : Int32} {i2 : Int32} {i3 : Int32} {M : Mem} (h : FQ (f_X11_loses r0 i1 i2 i3 M) P) : Con Y_X11_loses (d + 7) 0 0 [va_rf r0, .int i1, .int i2, .int i3] M (QI P) := by
  refine Con.of [some (va_rf r0), some (.int i1), some (.int i2), some (.int i3), none] (by decide +kernel) dk_X11_loses (by simp [Y_X11_loses, cat_rf, cat_i, cat_l]) (by simp [loE, Y_X11_loses, cat_rf, cat_i, cat_l, List.replicate]) ?_
  unfold f_X11_loses at h
  refine r_iload_n rfl rfl ?_
  refine r_iload_n rfl rfl ?_
  refine r_iload_n rfl rfl ?_
  refine r_cs_i (vs := [.int i1, .int i2, .int i3]) rfl ml_11_189 (rOk.of rfl) ⟨Nat.zero_le _, Nat.zero_le _⟩ rfl rfl rfl h s_X10_bitsOf (fun v1 M1 h => ?_)
  refine r_istore (lo' := [some (va_rf r0), some (.int i1), some (.int i2), some (.int i3), some (.int v1)]) rfl rfl rfl rfl ?_
  refine r_aload_n rfl rfl ?_
  refine r_aload_n rfl rfl ?_
  refine r_getR rfl fl_11_10 rfl h (fun v2 h => ?_)
  refine r_getR rfl fl_11_114 rfl h (fun v3 h => ?_)
  refine r_cv_i (vs := [va_rf v3]) rfl ml_11_246 rfl (rOk.of rfl) ⟨Nat.zero_le _, Nat.zero_le _⟩ rfl rfl rfl h s_X11_isOver (fun v4 M2 h => ?_)
  refine r_if_ne 42 rfl (by decide) h (fun h => ?_) (fun h => ?_)
  · refine r_iload rfl rfl ?_
    refine r_if_eq 42 rfl (by decide) h (fun h => ?_) (fun h => ?_)
    · refine r_iconst (v := -1) rfl (by decide) ?_
      exact r_iret rfl rfl ⟨Nat.le_of_ble_eq_true rfl, Nat.le_of_ble_eq_true rfl⟩ h
    · refine r_iload rfl rfl ?_
      refine r_aload_n rfl rfl ?_
      refine r_getR rfl fl_11_83 rfl h (fun v5 h => ?_)
      refine r_getI rfl fl_11_170 rfl h (fun v6 h => ?_)
      refine r_iand rfl ?_
      refine r_iload rfl rfl ?_
      refine r_ic_eq 44 rfl (by decide) h (fun h => ?_) (fun h => ?_)
      · refine r_aload_n rfl rfl ?_
        refine r_aload_n rfl rfl ?_
        refine r_getR rfl fl_11_10 rfl h (fun v7 h => ?_)
        refine r_getR rfl fl_11_114 rfl h (fun v8 h => ?_)
        refine r_cv_i (vs := [va_rf v8]) rfl ml_11_230 rfl (rOk.of rfl) ⟨Nat.zero_le _, Nat.zero_le _⟩ rfl rfl rfl h s_X11_solved (fun v9 M3 h => ?_)
        refine r_if_eq 71 rfl (by decide) h (fun h => ?_) (fun h => ?_)
        · refine r_bipush (v := -2) rfl (by decide) ?_
          exact r_iret rfl rfl ⟨Nat.le_of_ble_eq_true rfl, Nat.le_of_ble_eq_true rfl⟩ h
        · refine r_aload_n rfl rfl ?_
          refine r_getR rfl fl_11_110 rfl h (fun v10 h => ?_)
          refine r_iconst (v := 0) rfl (by decide) ?_
          refine r_iload rfl rfl ?_
          refine r_cv_i (vs := [.int (0 : Int32), .int v1]) rfl ml_11_249 rfl (rOk.of rfl) ⟨Nat.zero_le _, Nat.zero_le _⟩ rfl rfl rfl h s_X0_losingNoes (fun v11 M4 h => ?_)
          refine r_goto 73 rfl (by decide) ?_
          exact r_iret rfl rfl ⟨Nat.le_of_ble_eq_true rfl, Nat.le_of_ble_eq_true rfl⟩ h
      · refine r_iconst (v := -1) rfl (by decide) ?_
        exact r_iret rfl rfl ⟨Nat.le_of_ble_eq_true rfl, Nat.le_of_ble_eq_true rfl⟩ h
  · refine r_iconst (v := -1) rfl (by decide) ?_
    exact r_iret rfl rfl ⟨Nat.le_of_ble_eq_true rfl, Nat.le_of_ble_eq_true rfl⟩ h
set_option maxRecDepth 20000 in
theorem dk_X3_value : ∀ pc i, L_X3_value[pc]? = some (some i) → decode prog_5_method_7_code pc = .ok i := dk_of (by decide +kernel)
theorem s_X3_value {d : Nat} {P : Int32 → Mem → Prop} {r0 : Option Nat} {r1 : Option Nat} {r2 : Option Nat} {r3 : Option Nat} {i4 : Int32} {M : Mem} (h : FQ (f_X3_value r0 r1 r2 r3 i4 M) P) : Con Y_X3_value (d + 2) 0 0 [va_rf r0, va_rf r1, va_rf r2, va_rf r3, .int i4] M (QI P) := by
  refine Con.of [some (va_rf r0), some (va_rf r1), some (va_rf r2), some (va_rf r3), some (.int i4)] (by decide +kernel) dk_X3_value (by simp [Y_X3_value, cat_rf, cat_i, cat_l]) (by simp [loE, Y_X3_value, cat_rf, cat_i, cat_l, List.replicate]) ?_
  unfold f_X3_value at h
  refine r_aload_n rfl rfl ?_
  refine r_getR rfl fl_3_19 rfl h (fun v1 h => ?_)
  refine r_iload rfl rfl ?_
  refine r_aload_n rfl rfl ?_
  refine r_iload rfl rfl ?_
  refine r_cv_i (vs := [.int i4]) rfl ml_3_87 rfl (rOk.of rfl) ⟨Nat.zero_le _, Nat.zero_le _⟩ rfl rfl rfl h s_X4_count (fun v2 M1 h => ?_)
  refine r_aload_n rfl rfl ?_
  refine r_getR rfl fl_3_15 rfl h (fun v3 h => ?_)
  refine r_getR rfl fl_3_92 rfl h (fun v4 h => ?_)
  refine r_iload rfl rfl ?_
  refine r_iald rfl h (fun v5 h => ?_)
  refine r_aload_n rfl rfl ?_
  refine r_getR rfl fl_3_15 rfl h (fun v6 h => ?_)
  refine r_getR rfl fl_3_95 rfl h (fun v7 h => ?_)
  refine r_iload rfl rfl ?_
  refine r_iald rfl h (fun v8 h => ?_)
  refine r_cv_v (vs := [.int i4, .int v2, .int v5, .int v8]) rfl ml_3_98 rfl (rOk.of rfl) ⟨Nat.zero_le _, Nat.zero_le _⟩ rfl rfl rfl h s_X9_aim (fun _ M2 h => ?_)
  refine r_aload_n rfl rfl ?_
  refine r_getR rfl fl_3_19 rfl h (fun v9 h => ?_)
  refine r_aload_n rfl rfl ?_
  refine r_aload_n rfl rfl ?_
  refine r_cv_i (vs := [va_rf r2, va_rf r3]) rfl ml_3_104 rfl (rOk.of rfl) ⟨Nat.zero_le _, Nat.zero_le _⟩ rfl rfl rfl h s_X9_value (fun v10 M3 h => ?_)
  exact r_iret rfl rfl ⟨Nat.le_of_ble_eq_true rfl, Nat.le_of_ble_eq_true rfl⟩ h
set_option maxRecDepth 20000 in
theorem dk_X3_weigh : ∀ pc i, L_X3_weigh[pc]? = some (some i) → decode prog_5_method_6_code pc = .ok i := dk_of (by decide +kernel)
theorem s_X3_weigh_42 {d : Nat} {P : Unit → Mem → Prop} {q10 : Option Nat → Option Nat → Option Nat → Option Nat → Int32 → Mem → Option (Unit × Mem)} (hq10 : ∀ (r0 : Option Nat) (r1 : Option Nat) (r2 : Option Nat) (r4 : Option Nat) (i5 : Int32) (M : Mem), FQ (q10 r0 r1 r2 r4 i5 M) P → wp Y_X3_weigh (rmD (d + 3) 0 0) (FM (QV P) 0 0) 0 0 10 [some (va_rf r0), some (va_rf r1), some (va_rf r2), none, some (va_rf r4), some (.int i5), none] [] M) (r0 : Option Nat) (r1 : Option Nat) (r2 : Option Nat) (r4 : Option Nat) (i5 : Int32) (si0 : Int32) (M : Mem) (h : FQ (f_X3_weigh_42 q10 r0 r1 r2 r4 i5 si0 M) P) : wp Y_X3_weigh (rmD (d + 3) 0 0) (FM (QV P) 0 0) 0 0 42 [some (va_rf r0), some (va_rf r1), some (va_rf r2), none, some (va_rf r4), some (.int i5), none] [.int si0] M := by
  unfold f_X3_weigh_42 at h
  refine r_istore (lo' := [some (va_rf r0), some (va_rf r1), some (va_rf r2), none, some (va_rf r4), some (.int i5), some (.int si0)]) rfl rfl rfl rfl ?_
  refine r_aload_n rfl rfl ?_
  refine r_getR rfl fl_3_9 rfl h (fun v1 h => ?_)
  refine r_iload rfl rfl ?_
  refine r_iload rfl rfl ?_
  refine r_if_eq 68 rfl (by decide) h (fun h => ?_) (fun h => ?_)
  · refine r_iconst (v := 0) rfl (by decide) ?_
    refine r_iast rfl h (fun M1 h => ?_)
    refine r_iinc (v := 1) (lo' := [some (va_rf r0), some (va_rf r1), some (va_rf r2), none, some (va_rf r4), some (.int (i5 + (1 : Int32))), some (.int si0)]) rfl rfl rfl (by decide) (by simp [stOk, cat_rf]) rfl ?_
    refine r_goto 10 rfl (by decide) ?_
    refine r_msk [true, true, true, true, true, true, false] rfl ?_
    exact hq10 _ _ _ _ _ _ h
  · refine r_aload_n rfl rfl ?_
    refine r_aload_n rfl rfl ?_
    refine r_aload_n rfl rfl ?_
    refine r_aload rfl rfl ?_
    refine r_iload rfl rfl ?_
    refine r_cv_i (vs := [va_rf r1, va_rf r2, va_rf r4, .int i5]) rfl ml_3_73 rfl (rOk.of rfl) ⟨Nat.zero_le _, Nat.zero_le _⟩ rfl rfl rfl h s_X3_value (fun v2 M2 h => ?_)
    refine r_goto 69 rfl (by decide) ?_
    refine r_iast rfl h (fun M3 h => ?_)
    refine r_iinc (v := 1) (lo' := [some (va_rf r0), some (va_rf r1), some (va_rf r2), none, some (va_rf r4), some (.int (i5 + (1 : Int32))), some (.int si0)]) rfl rfl rfl (by decide) (by simp [stOk, cat_rf]) rfl ?_
    refine r_goto 10 rfl (by decide) ?_
    refine r_msk [true, true, true, true, true, true, false] rfl ?_
    exact hq10 _ _ _ _ _ _ h
theorem sb_X3_weigh_10 {d : Nat} {P : Unit → Mem → Prop} {q10 : Option Nat → Option Nat → Option Nat → Option Nat → Int32 → Mem → Option (Unit × Mem)} (hq10 : ∀ (r0 : Option Nat) (r1 : Option Nat) (r2 : Option Nat) (r4 : Option Nat) (i5 : Int32) (M : Mem), FQ (q10 r0 r1 r2 r4 i5 M) P → wp Y_X3_weigh (rmD (d + 3) 0 0) (FM (QV P) 0 0) 0 0 10 [some (va_rf r0), some (va_rf r1), some (va_rf r2), none, some (va_rf r4), some (.int i5), none] [] M) (r0 : Option Nat) (r1 : Option Nat) (r2 : Option Nat) (r4 : Option Nat) (i5 : Int32) (M : Mem) (h : FQ (b_X3_weigh_10 q10 r0 r1 r2 r4 i5 M) P) : wp Y_X3_weigh (rmD (d + 3) 0 0) (FM (QV P) 0 0) 0 0 10 [some (va_rf r0), some (va_rf r1), some (va_rf r2), none, some (va_rf r4), some (.int i5), none] [] M := by
  unfold b_X3_weigh_10 at h
  refine r_iload rfl rfl ?_
  refine r_bipush (v := 8) rfl (by decide) ?_
  refine r_ic_ge 76 rfl (by decide) h (fun h => ?_) (fun h => ?_)
  · exact r_vret rfl rfl ⟨Nat.le_of_ble_eq_true rfl, Nat.le_of_ble_eq_true rfl⟩ h
  · refine r_aload rfl rfl ?_
    refine r_null_t 41 rfl (by decide) h (fun h => ?_) (fun h => ?_)
    · refine r_iconst (v := 0) rfl (by decide) ?_
      exact s_X3_weigh_42 hq10 _ _ _ _ _ _ _ h
    · refine r_aload_n rfl rfl ?_
      refine r_getR rfl fl_3_15 rfl h (fun v1 h => ?_)
      refine r_getI rfl fl_3_54 rfl h (fun v2 h => ?_)
      refine r_iconst (v := 1) rfl (by decide) ?_
      refine r_iload rfl rfl ?_
      refine r_ishl rfl ?_
      refine r_iand rfl ?_
      refine r_if_eq 41 rfl (by decide) h (fun h => ?_) (fun h => ?_)
      · refine r_iconst (v := 0) rfl (by decide) ?_
        exact s_X3_weigh_42 hq10 _ _ _ _ _ _ _ h
      · refine r_iconst (v := 1) rfl (by decide) ?_
        refine r_goto 42 rfl (by decide) ?_
        exact s_X3_weigh_42 hq10 _ _ _ _ _ _ _ h
theorem s_X3_weigh_10 {d : Nat} {P : Unit → Mem → Prop}   : ∀ (k : Nat) (r0 : Option Nat) (r1 : Option Nat) (r2 : Option Nat) (r4 : Option Nat) (i5 : Int32) (M : Mem), FQ (f_X3_weigh_10  k r0 r1 r2 r4 i5 M) P → wp Y_X3_weigh (rmD (d + 3) 0 0) (FM (QV P) 0 0) 0 0 10 [some (va_rf r0), some (va_rf r1), some (va_rf r2), none, some (va_rf r4), some (.int i5), none] [] M
  | 0, _, _, _, _, _, _, h => h.no
  | k + 1, r0, r1, r2, r4, i5, M, h => sb_X3_weigh_10  (s_X3_weigh_10  k) r0 r1 r2 r4 i5 M h
theorem s_X3_weigh {d : Nat} {P : Unit → Mem → Prop} {r0 : Option Nat} {r1 : Option Nat} {r2 : Option Nat} {i3 : Int32} {M : Mem} (h : FQ (f_X3_weigh r0 r1 r2 i3 M) P) : Con Y_X3_weigh (d + 3) 0 0 [va_rf r0, va_rf r1, va_rf r2, .int i3] M (QV P) := by
  refine Con.of [some (va_rf r0), some (va_rf r1), some (va_rf r2), some (.int i3), none, none, none] (by decide +kernel) dk_X3_weigh (by simp [Y_X3_weigh, cat_rf, cat_i, cat_l]) (by simp [loE, Y_X3_weigh, cat_rf, cat_i, cat_l, List.replicate]) ?_
  unfold f_X3_weigh at h
  refine r_aload_n rfl rfl ?_
  refine r_iload_n rfl rfl ?_
  refine r_cv_r (vs := [.int i3]) rfl ml_3_83 rfl (rOk.of rfl) ⟨Nat.zero_le _, Nat.zero_le _⟩ rfl rfl rfl h s_X6_singleOf (fun v1 M1 h => ?_)
  refine r_astore (lo' := [some (va_rf r0), some (va_rf r1), some (va_rf r2), some (.int i3), some (va_rf v1), none, none]) rfl rfl rfl rfl ?_
  refine r_iconst (v := 0) rfl (by decide) ?_
  refine r_istore (lo' := [some (va_rf r0), some (va_rf r1), some (va_rf r2), some (.int i3), some (va_rf v1), some (.int (0 : Int32)), none]) rfl rfl (by simp [stOk, cat_rf]) rfl ?_
  refine r_msk [true, true, true, false, true, true, true] rfl ?_
  exact s_X3_weigh_10 FU _ _ _ _ _ _ h
