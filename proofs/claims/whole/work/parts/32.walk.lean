/-! walked by program (wip/gen): X3_greatest X3_allowed X3_offered X3_decide X11_byWays X11_match -/
def L_X3_greatest : List (Option (Instr × Nat)) := [some (.aload_n 0, 1), some (.aload_n 1, 1), some (.aload_n 2, 1), some (.iload_n 3, 1), some (.invokevirtual 45, 3), none, none, some (.iconst (-1), 1), some (.istore 5, 2), none, some (.iconst 0, 1), some (.istore 6, 2), none, some (.iload 6, 2), none, some (.bipush 8, 2), none, some (.if_icmp .ge 46, 3), none, none, some (.iload 4, 2), none, some (.iconst 1, 1), some (.iload 6, 2), none, some (.ishl, 1), some (.iand, 1), some (.ifCond .eq 30, 3), none, none, some (.iload 5, 2), none, some (.iconst (-1), 1), some (.if_icmp .eq 20, 3), none, none, some (.aload_n 0, 1), some (.getfield 9, 3), none, none, some (.iload 6, 2), none, some (.iaload, 1), some (.aload_n 0, 1), some (.getfield 9, 3), none, none, some (.iload 5, 2), none, some (.iaload, 1), some (.if_icmp .le 7, 3), none, none, some (.iload 6, 2), none, some (.istore 5, 2), none, some (.iinc 6 1, 3), none, none, some (.goto (-47), 3), none, none, some (.iload 5, 2), none, some (.iconst (-1), 1), some (.if_icmp .ne 7, 3), none, none, some (.iconst 0, 1), some (.goto 5, 3), none, none, some (.iload 5, 2), none, some (.ireturn, 1)]
def Y_X3_greatest : YM := (⟨RX3, "greatest", "(LGameOfNoes$Position;LGameOfNoes$Rules;II)I"⟩, prog_5_method_5_code, L_X3_greatest, 7, some .int)
def b_X3_greatest_13 (q13 : Option Nat → Int32 → Int32 → Int32 → Mem → Option (Int32 × Mem)) (r0 : Option Nat) (i4 : Int32) (i5 : Int32) (i6 : Int32) (M : Mem) : Option (Int32 × Mem) :=
(if (8 : Int32) ≤ i6 then
(if i5 = (-1 : Int32) then
some ((0 : Int32), M)
else
some (i5, M))
else
(if (i4 &&& ((1 : Int32) <<< (i6 &&& 31))) = 0 then
q13 r0 i4 i5 (i6 + (1 : Int32)) M
else
(if i5 = (-1 : Int32) then
q13 r0 i4 i6 (i6 + (1 : Int32)) M
else
gR M r0 3 5 fun v1 =>
aI M v1 2 i6 fun v2 =>
gR M r0 3 5 fun v3 =>
aI M v3 2 i5 fun v4 =>
(if v2 ≤ v4 then
q13 r0 i4 i5 (i6 + (1 : Int32)) M
else
q13 r0 i4 i6 (i6 + (1 : Int32)) M))))
def f_X3_greatest_13 (n : Nat) : Option Nat → Int32 → Int32 → Int32 → Mem → Option (Int32 × Mem) := lpN (fun _ _ _ _ _ => none) (b_X3_greatest_13 ) n
def f_X3_greatest (r0 : Option Nat) (r1 : Option Nat) (r2 : Option Nat) (i3 : Int32) (i4 : Int32) (M : Mem) : Option (Int32 × Mem) :=
cR M r0 (1, 3) (cA (f_X3_weigh r0 r1 r2 i3 M) fun _ M1 =>
f_X3_greatest_13 FU r0 i4 (-1 : Int32) (0 : Int32) M1)
def L_X3_allowed : List (Option (Instr × Nat)) := [some (.aload_n 0, 1), some (.getfield 15, 3), none, none, some (.getfield 54, 3), none, none, some (.istore_n 3, 1), some (.iconst 0, 1), some (.istore 4, 2), none, some (.iload 4, 2), none, some (.aload_n 2, 1), some (.getfield 59, 3), none, none, some (.if_icmp .ge 75, 3), none, none, some (.aload_n 2, 1), some (.getfield 64, 3), none, none, some (.iload 4, 2), none, some (.aaload, 1), some (.astore 5, 2), none, some (.iconst 0, 1), some (.istore 6, 2), none, some (.iload 6, 2), none, some (.bipush 8, 2), none, some (.if_icmp .ge 50, 3), none, none, some (.aload 5, 2), none, some (.getfield 68, 3), none, none, some (.bipush 16, 2), none, some (.if_icmp .ne 40, 3), none, none, some (.iload_n 3, 1), some (.iconst 1, 1), some (.iload 6, 2), none, some (.ishl, 1), some (.iand, 1), some (.ifCond .eq 25, 3), none, none, some (.aload_n 0, 1), some (.aload_n 1, 1), some (.aload_n 2, 1), some (.aload 5, 2), none, some (.iload 6, 2), none, some (.invokevirtual 73, 3), none, none, some (.ifCond .eq 12, 3), none, none, some (.iload_n 3, 1), some (.iconst 1, 1), some (.iload 6, 2), none, some (.ishl, 1), some (.iconst (-1), 1), some (.ixor, 1), some (.iand, 1), some (.istore_n 3, 1), some (.iinc 6 1, 3), none, none, some (.goto (-51), 3), none, none, some (.iinc 4 1, 3), none, none, some (.goto (-78), 3), none, none, some (.iload_n 3, 1), some (.invokestatic 77, 3), none, none, some (.iconst 3, 1), some (.if_icmp .ge 13, 3), none, none, some (.aload_n 0, 1), some (.getfield 15, 3), none, none, some (.getfield 54, 3), none, none, some (.goto 4, 3), none, none, some (.iload_n 3, 1), some (.ireturn, 1)]
def Y_X3_allowed : YM := (⟨RX3, "allowed", "(LGameOfNoes$Position;LGameOfNoes$Rules;)I"⟩, prog_5_method_4_code, L_X3_allowed, 7, some .int)
def b_X3_allowed_32 (q11 : Option Nat → Option Nat → Option Nat → Int32 → Int32 → Mem → Option (Int32 × Mem)) (q32 : Option Nat → Option Nat → Option Nat → Int32 → Int32 → Option Nat → Int32 → Mem → Option (Int32 × Mem)) (r0 : Option Nat) (r1 : Option Nat) (r2 : Option Nat) (i3 : Int32) (i4 : Int32) (r5 : Option Nat) (i6 : Int32) (M : Mem) : Option (Int32 × Mem) :=
(if (8 : Int32) ≤ i6 then
q11 r0 r1 r2 i3 (i4 + (1 : Int32)) M
else
gI M r5 1 1 fun v1 =>
(if v1 = (16 : Int32) then
(if (i3 &&& ((1 : Int32) <<< (i6 &&& 31))) = 0 then
q32 r0 r1 r2 i3 i4 r5 (i6 + (1 : Int32)) M
else
cR M r0 (1, 3) (cA (f_X3_value r0 r1 r2 r5 i6 M) fun v2 M1 =>
(if v2 = 0 then
q32 r0 r1 r2 i3 i4 r5 (i6 + (1 : Int32)) M1
else
q32 r0 r1 r2 (i3 &&& (((1 : Int32) <<< (i6 &&& 31)) ^^^ (-1 : Int32))) i4 r5 (i6 + (1 : Int32)) M1)))
else
q11 r0 r1 r2 i3 (i4 + (1 : Int32)) M))
def f_X3_allowed_32 (q11 : Option Nat → Option Nat → Option Nat → Int32 → Int32 → Mem → Option (Int32 × Mem)) (n : Nat) : Option Nat → Option Nat → Option Nat → Int32 → Int32 → Option Nat → Int32 → Mem → Option (Int32 × Mem) := lpN (fun _ _ _ _ _ _ _ _ => none) (b_X3_allowed_32 q11) n
def b_X3_allowed_11 (q11 : Option Nat → Option Nat → Option Nat → Int32 → Int32 → Mem → Option (Int32 × Mem)) (r0 : Option Nat) (r1 : Option Nat) (r2 : Option Nat) (i3 : Int32) (i4 : Int32) (M : Mem) : Option (Int32 × Mem) :=
gI M r2 6 4 fun v1 =>
(if v1 ≤ i4 then
cA (f_J6_bitCount_0f7a4 i3 M) fun v2 M1 =>
(if (3 : Int32) ≤ v2 then
some (i3, M1)
else
gR M1 r0 3 2 fun v3 =>
gI M1 v3 2 3 fun v4 =>
some (v4, M1))
else
gR M r2 6 0 fun v5 =>
aR M v5 6 i4 fun v6 =>
f_X3_allowed_32 q11 FU r0 r1 r2 i3 i4 v6 (0 : Int32) M)
def f_X3_allowed_11 (n : Nat) : Option Nat → Option Nat → Option Nat → Int32 → Int32 → Mem → Option (Int32 × Mem) := lpN (fun _ _ _ _ _ _ => none) (b_X3_allowed_11 ) n
def f_X3_allowed (r0 : Option Nat) (r1 : Option Nat) (r2 : Option Nat) (M : Mem) : Option (Int32 × Mem) :=
gR M r0 3 2 fun v1 =>
gI M v1 2 3 fun v2 =>
f_X3_allowed_11 FU r0 r1 r2 v2 (0 : Int32) M
def L_X3_offered : List (Option (Instr × Nat)) := [some (.aload_n 0, 1), some (.aload_n 1, 1), some (.aload_n 2, 1), some (.invokevirtual 42, 3), none, none, some (.istore_n 3, 1), some (.aload_n 0, 1), some (.aload_n 1, 1), some (.aload_n 2, 1), some (.bipush 13, 2), none, some (.invokevirtual 45, 3), none, none, some (.iconst 0, 1), some (.istore 4, 2), none, some (.iconst 0, 1), some (.istore 5, 2), none, some (.iconst 0, 1), some (.istore 6, 2), none, some (.iload 6, 2), none, some (.bipush 56, 2), none, some (.if_icmp .ge 98, 3), none, none, some (.aload_n 0, 1), some (.getfield 23, 3), none, none, some (.getfield 51, 3), none, none, some (.iload 6, 2), none, some (.iaload, 1), some (.istore 7, 2), none, some (.iload 7, 2), none, some (.iload_n 3, 1), some (.iand, 1), some (.iload 7, 2), none, some (.if_icmp .eq 6, 3), none, none, some (.goto 68, 3), none, none, some (.iconst 0, 1), some (.istore 8, 2), none, some (.iconst 0, 1), some (.istore 9, 2), none, some (.iload 9, 2), none, some (.bipush 8, 2), none, some (.if_icmp .ge 35, 3), none, none, some (.iload 8, 2), none, some (.iload 7, 2), none, some (.iconst 1, 1), some (.iload 9, 2), none, some (.ishl, 1), some (.iand, 1), some (.ifCond .eq 13, 3), none, none, some (.aload_n 0, 1), some (.getfield 9, 3), none, none, some (.iload 9, 2), none, some (.iaload, 1), some (.goto 4, 3), none, none, some (.iconst 0, 1), some (.iadd, 1), some (.istore 8, 2), none, some (.iinc 9 1, 3), none, none, some (.goto (-36), 3), none, none, some (.iload 4, 2), none, some (.ifCond .eq 10, 3), none, none, some (.iload 8, 2), none, some (.iload 5, 2), none, some (.if_icmp .le 11, 3), none, none, some (.iload 7, 2), none, some (.istore 4, 2), none, some (.iload 8, 2), none, some (.istore 5, 2), none, some (.iinc 6 1, 3), none, none, some (.goto (-99), 3), none, none, some (.iload 4, 2), none, some (.ireturn, 1)]
def Y_X3_offered : YM := (⟨RX3, "offered", "(LGameOfNoes$Position;LGameOfNoes$Rules;)I"⟩, prog_5_method_3_code, L_X3_offered, 10, some .int)
def b_X3_offered_61 (q24 : Option Nat → Int32 → Int32 → Int32 → Int32 → Mem → Option (Int32 × Mem)) (q61 : Option Nat → Int32 → Int32 → Int32 → Int32 → Int32 → Int32 → Int32 → Mem → Option (Int32 × Mem)) (r0 : Option Nat) (i3 : Int32) (i4 : Int32) (i5 : Int32) (i6 : Int32) (i7 : Int32) (i8 : Int32) (i9 : Int32) (M : Mem) : Option (Int32 × Mem) :=
(if (8 : Int32) ≤ i9 then
(if i4 = 0 then
q24 r0 i3 i7 i8 (i6 + (1 : Int32)) M
else
(if i8 ≤ i5 then
q24 r0 i3 i4 i5 (i6 + (1 : Int32)) M
else
q24 r0 i3 i7 i8 (i6 + (1 : Int32)) M))
else
(if (i7 &&& ((1 : Int32) <<< (i9 &&& 31))) = 0 then
q61 r0 i3 i4 i5 i6 i7 (i8 + (0 : Int32)) (i9 + (1 : Int32)) M
else
gR M r0 3 5 fun v1 =>
aI M v1 2 i9 fun v2 =>
q61 r0 i3 i4 i5 i6 i7 (i8 + v2) (i9 + (1 : Int32)) M))
def f_X3_offered_61 (q24 : Option Nat → Int32 → Int32 → Int32 → Int32 → Mem → Option (Int32 × Mem)) (n : Nat) : Option Nat → Int32 → Int32 → Int32 → Int32 → Int32 → Int32 → Int32 → Mem → Option (Int32 × Mem) := lpN (fun _ _ _ _ _ _ _ _ _ => none) (b_X3_offered_61 q24) n
def b_X3_offered_24 (q24 : Option Nat → Int32 → Int32 → Int32 → Int32 → Mem → Option (Int32 × Mem)) (r0 : Option Nat) (i3 : Int32) (i4 : Int32) (i5 : Int32) (i6 : Int32) (M : Mem) : Option (Int32 × Mem) :=
(if (56 : Int32) ≤ i6 then
some (i4, M)
else
gR M r0 3 4 fun v1 =>
gR M v1 10 0 fun v2 =>
aI M v2 2 i6 fun v3 =>
(if (v3 &&& i3) = v3 then
f_X3_offered_61 q24 FU r0 i3 i4 i5 i6 v3 (0 : Int32) (0 : Int32) M
else
q24 r0 i3 i4 i5 (i6 + (1 : Int32)) M))
def f_X3_offered_24 (n : Nat) : Option Nat → Int32 → Int32 → Int32 → Int32 → Mem → Option (Int32 × Mem) := lpN (fun _ _ _ _ _ _ => none) (b_X3_offered_24 ) n
def f_X3_offered (r0 : Option Nat) (r1 : Option Nat) (r2 : Option Nat) (M : Mem) : Option (Int32 × Mem) :=
cR M r0 (1, 3) (cA (f_X3_allowed r0 r1 r2 M) fun v1 M1 =>
cR M1 r0 (1, 3) (cA (f_X3_weigh r0 r1 r2 (13 : Int32) M1) fun _ M2 =>
f_X3_offered_24 FU r0 v1 (0 : Int32) (0 : Int32) (0 : Int32) M2))
def L_X3_decide : List (Option (Instr × Nat)) := [some (.aload_n 0, 1), some (.aload_n 1, 1), some (.aload_n 2, 1), some (.invokevirtual 34, 3), none, none, some (.istore 4, 2), none, some (.aload_n 0, 1), some (.aload_n 0, 1), some (.aload_n 1, 1), some (.aload_n 3, 1), some (.bipush 14, 2), none, some (.iload 4, 2), none, some (.invokevirtual 38, 3), none, none, some (.putfield 27, 3), none, none, some (.aload_n 0, 1), some (.aload_n 0, 1), some (.aload_n 1, 1), some (.aload_n 2, 1), some (.bipush 15, 2), none, some (.iload 4, 2), none, some (.iconst 1, 1), some (.aload_n 0, 1), some (.getfield 27, 3), none, none, some (.ishl, 1), some (.iconst (-1), 1), some (.ixor, 1), some (.iand, 1), some (.invokevirtual 38, 3), none, none, some (.putfield 31, 3), none, none, some (.return_, 1)]
def Y_X3_decide : YM := (⟨RX3, "decide", "(LGameOfNoes$Position;LGameOfNoes$Rules;LGameOfNoes$Rules;)V"⟩, prog_5_method_2_code, L_X3_decide, 5, none)
def f_X3_decide (r0 : Option Nat) (r1 : Option Nat) (r2 : Option Nat) (r3 : Option Nat) (M : Mem) : Option (Unit × Mem) :=
cR M r0 (1, 3) (cA (f_X3_offered r0 r1 r2 M) fun v1 M1 =>
cR M1 r0 (1, 3) (cA (f_X3_greatest r0 r1 r3 (14 : Int32) v1 M1) fun v2 M2 =>
pI M2 r0 3 0 v2 fun M3 =>
gI M3 r0 3 0 fun v3 =>
cR M3 r0 (1, 3) (cA (f_X3_greatest r0 r1 r2 (15 : Int32) (v1 &&& (((1 : Int32) <<< (v3 &&& 31)) ^^^ (-1 : Int32))) M3) fun v4 M4 =>
pI M4 r0 3 1 v4 fun M5 =>
some ((), M5))))
def L_X11_byWays : List (Option (Instr × Nat)) := [some (.iconst 0, 1), some (.istore_n 3, 1), some (.iload_n 3, 1), some (.iload_n 2, 1), some (.if_icmp .ge 104, 3), none, none, some (.aload_n 0, 1), some (.aload_n 1, 1), some (.invokevirtual 246, 3), none, none, some (.ifCond .eq 5, 3), none, none, some (.iload_n 3, 1), some (.ireturn, 1), some (.aload_n 1, 1), some (.getfield 131, 3), none, none, some (.istore 4, 2), none, some (.aload_n 0, 1), some (.aload_n 0, 1), some (.getfield 10, 3), none, none, some (.getfield 159, 3), none, none, some (.iload 4, 2), none, some (.iaload, 1), some (.invokevirtual 162, 3), none, none, some (.astore 5, 2), none, some (.aload_n 0, 1), some (.aload_n 0, 1), some (.getfield 10, 3), none, none, some (.getfield 159, 3), none, none, some (.iconst 1, 1), some (.iload 4, 2), none, some (.isub, 1), some (.iaload, 1), some (.invokevirtual 162, 3), none, none, some (.astore 6, 2), none, some (.aload_n 0, 1), some (.getfield 92, 3), none, none, some (.aload_n 1, 1), some (.aload 5, 2), none, some (.aload 6, 2), none, some (.invokevirtual 314, 3), none, none, some (.aload_n 0, 1), some (.getfield 83, 3), none, none, some (.aload_n 1, 1), some (.aload_n 0, 1), some (.aload_n 0, 1), some (.getfield 10, 3), none, none, some (.getfield 156, 3), none, none, some (.invokevirtual 162, 3), none, none, some (.aload_n 0, 1), some (.getfield 92, 3), none, none, some (.getfield 318, 3), none, none, some (.aload_n 0, 1), some (.getfield 92, 3), none, none, some (.getfield 321, 3), none, none, some (.invokevirtual 303, 3), none, none, some (.iinc 3 1, 3), none, none, some (.goto (-103), 3), none, none, some (.iload_n 2, 1), some (.ireturn, 1)]
def Y_X11_byWays : YM := (⟨RX11, "byWays", "(LGameOfNoes$Position;I)I"⟩, prog_1_method_43_code, L_X11_byWays, 7, some .int)
def b_X11_byWays_2 (q2 : Option Nat → Option Nat → Int32 → Int32 → Mem → Option (Int32 × Mem)) (r0 : Option Nat) (r1 : Option Nat) (i2 : Int32) (i3 : Int32) (M : Mem) : Option (Int32 × Mem) :=
(if i2 ≤ i3 then
some (i2, M)
else
cR M r0 (1, 11) (cA (f_X11_isOver r0 r1 M) fun v1 M1 =>
(if v1 = 0 then
gI M1 r1 4 2 fun v2 =>
gR M1 r0 11 2 fun v3 =>
gR M1 v3 7 1 fun v4 =>
aI M1 v4 2 v2 fun v5 =>
cR M1 r0 (1, 11) (cA (f_X11_rules r0 v5 M1) fun v6 M2 =>
gR M2 r0 11 2 fun v7 =>
gR M2 v7 7 1 fun v8 =>
aI M2 v8 2 ((1 : Int32) - v2) fun v9 =>
cR M2 r0 (1, 11) (cA (f_X11_rules r0 v9 M2) fun v10 M3 =>
gR M3 r0 11 9 fun v11 =>
cR M3 v11 (1, 3) (cA (f_X3_decide v11 r1 v6 v10 M3) fun _ M4 =>
gR M4 r0 11 8 fun v12 =>
gR M4 r0 11 2 fun v13 =>
gI M4 v13 7 5 fun v14 =>
cR M4 r0 (1, 11) (cA (f_X11_rules r0 v14 M4) fun v15 M5 =>
gR M5 r0 11 9 fun v16 =>
gI M5 v16 3 0 fun v17 =>
gR M5 r0 11 9 fun v18 =>
gI M5 v18 3 1 fun v19 =>
cR M5 v12 (1, 2) (cA (f_X2_advance v12 r1 v15 v17 v19 M5) fun _ M6 =>
q2 r0 r1 i2 (i3 + (1 : Int32)) M6)))))
else
some (i3, M1))))
def f_X11_byWays_2 (n : Nat) : Option Nat → Option Nat → Int32 → Int32 → Mem → Option (Int32 × Mem) := lpN (fun _ _ _ _ _ => none) (b_X11_byWays_2 ) n
def f_X11_byWays (r0 : Option Nat) (r1 : Option Nat) (i2 : Int32) (M : Mem) : Option (Int32 × Mem) :=
f_X11_byWays_2 FU r0 r1 i2 (0 : Int32) M
def L_X11_match : List (Option (Instr × Nat)) := [some (.iload_n 1, 1), some (.iconst 1, 1), some (.if_icmp .lt 18, 3), none, none, some (.iload_n 1, 1), some (.bipush 99, 2), none, some (.if_icmp .gt 12, 3), none, none, some (.iload_n 2, 1), some (.ifCond .lt 8, 3), none, none, some (.iload_n 2, 1), some (.iconst 1, 1), some (.if_icmp .le 6, 3), none, none, some (.bipush (-2), 2), none, some (.ireturn, 1), some (.aload_n 0, 1), some (.getfield 47, 3), none, none, some (.aload_n 0, 1), some (.getfield 10, 3), none, none, some (.getfield 114, 3), none, none, some (.invokevirtual 211, 3), none, none, some (.aload_n 0, 1), some (.aload_n 0, 1), some (.getfield 47, 3), none, none, some (.iload_n 1, 1), some (.invokevirtual 197, 3), none, none, some (.istore_n 3, 1), some (.iload_n 2, 1), some (.iconst 1, 1), some (.if_icmp .ne 7, 3), none, none, some (.iload_n 3, 1), some (.goto 11, 3), none, none, some (.aload_n 0, 1), some (.aload_n 0, 1), some (.getfield 47, 3), none, none, some (.invokevirtual 201, 3), none, none, some (.ireturn, 1)]
def Y_X11_match : YM := (⟨RX11, "match", "(II)I"⟩, prog_1_method_19_code, L_X11_match, 4, some .int)
def f_X11_match (r0 : Option Nat) (i1 : Int32) (i2 : Int32) (M : Mem) : Option (Int32 × Mem) :=
(if i1 < (1 : Int32) then
some ((-2 : Int32), M)
else
(if (99 : Int32) < i1 then
some ((-2 : Int32), M)
else
(if i2 < 0 then
some ((-2 : Int32), M)
else
(if i2 ≤ (1 : Int32) then
gR M r0 11 12 fun v1 =>
gR M r0 11 2 fun v2 =>
gR M v2 7 0 fun v3 =>
cR M v1 (1, 4) (cA (f_X4_take v1 v3 M) fun _ M1 =>
gR M1 r0 11 12 fun v4 =>
cR M1 r0 (1, 11) (cA (f_X11_byWays r0 v4 i1 M1) fun v5 M2 =>
(if i2 = (1 : Int32) then
some (v5, M2)
else
gR M2 r0 11 12 fun v6 =>
cR M2 r0 (1, 11) (cA (f_X11_winner r0 v6 M2) fun v7 M3 =>
some (v7, M3)))))
else
some ((-2 : Int32), M)))))
set_option maxRecDepth 30000 in
theorem ok_X3_weigh : okY Y_X3_weigh := ⟨(gw_in 867 rfl rfl), (gw_in 11 (by decide +kernel) (by decide +kernel)), by decide +kernel, by decide +kernel⟩
theorem ml_3_45 : MLv RX3 45 Y_X3_weigh 3 := ⟨(gw_in 864 (by decide +kernel) (by decide +kernel)), (gw_in 866 (by decide +kernel) (by decide +kernel)), (gw_sel (n := 6) 23 (by decide +kernel) (by decide +kernel)), ok_X3_weigh, by decide +kernel⟩
theorem fl_3_68 : FLk RX3 68 1 1 false := ⟨_, rfl, by decide, (gw_in 102 (by decide +kernel) (by decide +kernel)), rfl⟩
theorem fl_3_59 : FLk RX3 59 6 4 false := ⟨_, rfl, by decide, (gw_in 148 (by decide +kernel) (by decide +kernel)), rfl⟩
theorem ml_3_77 : MLs RX3 77 Y_J6_bitCount_0f7a4 1 := ⟨(gw_in 863 (by decide +kernel) (by decide +kernel)), (gw_in 817 (by decide +kernel) (by decide +kernel)), ok_J6_bitCount_0f7a4, by decide +kernel⟩
theorem fl_3_64 : FLk RX3 64 6 0 true := ⟨_, rfl, by decide, (gw_in 140 (by decide +kernel) (by decide +kernel)), rfl⟩
theorem fl_3_51 : FLk RX3 51 10 0 true := ⟨_, rfl, by decide, (gw_in 208 (by decide +kernel) (by decide +kernel)), rfl⟩
set_option maxRecDepth 30000 in
theorem ok_X3_allowed : okY Y_X3_allowed := ⟨(gw_in 855 rfl rfl), (gw_in 11 (by decide +kernel) (by decide +kernel)), by decide +kernel, by decide +kernel⟩
theorem ml_3_42 : MLv RX3 42 Y_X3_allowed 2 := ⟨(gw_in 852 (by decide +kernel) (by decide +kernel)), (gw_in 854 (by decide +kernel) (by decide +kernel)), (gw_sel (n := 6) 21 (by decide +kernel) (by decide +kernel)), ok_X3_allowed, by decide +kernel⟩
set_option maxRecDepth 30000 in
theorem ok_X3_offered : okY Y_X3_offered := ⟨(gw_in 851 rfl rfl), (gw_in 11 (by decide +kernel) (by decide +kernel)), by decide +kernel, by decide +kernel⟩
theorem ml_3_34 : MLv RX3 34 Y_X3_offered 2 := ⟨(gw_in 848 (by decide +kernel) (by decide +kernel)), (gw_in 850 (by decide +kernel) (by decide +kernel)), (gw_sel (n := 6) 20 (by decide +kernel) (by decide +kernel)), ok_X3_offered, by decide +kernel⟩
set_option maxRecDepth 30000 in
theorem ok_X3_greatest : okY Y_X3_greatest := ⟨(gw_in 872 rfl rfl), (gw_in 11 (by decide +kernel) (by decide +kernel)), by decide +kernel, by decide +kernel⟩
theorem ml_3_38 : MLv RX3 38 Y_X3_greatest 4 := ⟨(gw_in 869 (by decide +kernel) (by decide +kernel)), (gw_in 871 (by decide +kernel) (by decide +kernel)), (gw_sel (n := 6) 24 (by decide +kernel) (by decide +kernel)), ok_X3_greatest, by decide +kernel⟩
set_option maxRecDepth 30000 in
theorem ok_X3_decide : okY Y_X3_decide := ⟨(gw_in 847 rfl rfl), (gw_in 11 (by decide +kernel) (by decide +kernel)), by decide +kernel, by decide +kernel⟩
theorem ml_11_314 : MLv RX11 314 Y_X3_decide 3 := ⟨(gw_in 844 (by decide +kernel) (by decide +kernel)), (gw_in 845 (by decide +kernel) (by decide +kernel)), (gw_in 846 (by decide +kernel) (by decide +kernel)), ok_X3_decide, by decide +kernel⟩
theorem fl_11_318 : FLk RX11 318 3 0 false := ⟨_, rfl, by decide, (gw_in 281 (by decide +kernel) (by decide +kernel)), rfl⟩
theorem fl_11_321 : FLk RX11 321 3 1 false := ⟨_, rfl, by decide, (gw_in 283 (by decide +kernel) (by decide +kernel)), rfl⟩
set_option maxRecDepth 30000 in
theorem ok_X11_byWays : okY Y_X11_byWays := ⟨(gw_in 843 rfl rfl), (gw_in 1 (by decide +kernel) (by decide +kernel)), by decide +kernel, by decide +kernel⟩
theorem ml_11_197 : MLv RX11 197 Y_X11_byWays 2 := ⟨(gw_in 840 (by decide +kernel) (by decide +kernel)), (gw_in 842 (by decide +kernel) (by decide +kernel)), (gw_sel (n := 16) 19 (by decide +kernel) (by decide +kernel)), ok_X11_byWays, by decide +kernel⟩
set_option maxRecDepth 20000 in
theorem dk_X3_greatest : ∀ pc i, L_X3_greatest[pc]? = some (some i) → decode prog_5_method_5_code pc = .ok i := dk_of (by decide +kernel)
theorem sb_X3_greatest_13 {d : Nat} {P : Int32 → Mem → Prop} {q13 : Option Nat → Int32 → Int32 → Int32 → Mem → Option (Int32 × Mem)} (hq13 : ∀ (r0 : Option Nat) (i4 : Int32) (i5 : Int32) (i6 : Int32) (M : Mem), FQ (q13 r0 i4 i5 i6 M) P → wp Y_X3_greatest (rmD (d + 4) 0 0) (FM (QI P) 0 0) 0 0 13 [some (va_rf r0), none, none, none, some (.int i4), some (.int i5), some (.int i6)] [] M) (r0 : Option Nat) (i4 : Int32) (i5 : Int32) (i6 : Int32) (M : Mem) (h : FQ (b_X3_greatest_13 q13 r0 i4 i5 i6 M) P) : wp Y_X3_greatest (rmD (d + 4) 0 0) (FM (QI P) 0 0) 0 0 13 [some (va_rf r0), none, none, none, some (.int i4), some (.int i5), some (.int i6)] [] M := by
  unfold b_X3_greatest_13 at h
  refine r_iload rfl rfl ?_
  refine r_bipush (v := 8) rfl (by decide) ?_
  refine r_ic_ge 63 rfl (by decide) h (fun h => ?_) (fun h => ?_)
  · refine r_iload rfl rfl ?_
    refine r_iconst (v := -1) rfl (by decide) ?_
    refine r_ic_ne 73 rfl (by decide) h (fun h => ?_) (fun h => ?_)
    · refine r_iconst (v := 0) rfl (by decide) ?_
      refine r_goto 75 rfl (by decide) ?_
      exact r_iret rfl rfl ⟨Nat.le_of_ble_eq_true rfl, Nat.le_of_ble_eq_true rfl⟩ h
    · refine r_iload rfl rfl ?_
      exact r_iret rfl rfl ⟨Nat.le_of_ble_eq_true rfl, Nat.le_of_ble_eq_true rfl⟩ h
  · refine r_iload rfl rfl ?_
    refine r_iconst (v := 1) rfl (by decide) ?_
    refine r_iload rfl rfl ?_
    refine r_ishl rfl ?_
    refine r_iand rfl ?_
    refine r_if_eq 57 rfl (by decide) h (fun h => ?_) (fun h => ?_)
    · refine r_iinc (v := 1) (lo' := [some (va_rf r0), none, none, none, some (.int i4), some (.int i5), some (.int (i6 + (1 : Int32)))]) rfl rfl rfl (by decide) rfl rfl ?_
      refine r_goto 13 rfl (by decide) ?_
      exact hq13 _ _ _ _ _ h
    · refine r_iload rfl rfl ?_
      refine r_iconst (v := -1) rfl (by decide) ?_
      refine r_ic_eq 53 rfl (by decide) h (fun h => ?_) (fun h => ?_)
      · refine r_iload rfl rfl ?_
        refine r_istore (lo' := [some (va_rf r0), none, none, none, some (.int i4), some (.int i6), some (.int i6)]) rfl rfl rfl rfl ?_
        refine r_iinc (v := 1) (lo' := [some (va_rf r0), none, none, none, some (.int i4), some (.int i6), some (.int (i6 + (1 : Int32)))]) rfl rfl rfl (by decide) rfl rfl ?_
        refine r_goto 13 rfl (by decide) ?_
        exact hq13 _ _ _ _ _ h
      · refine r_aload_n rfl rfl ?_
        refine r_getR rfl fl_3_9 rfl h (fun v1 h => ?_)
        refine r_iload rfl rfl ?_
        refine r_iald rfl h (fun v2 h => ?_)
        refine r_aload_n rfl rfl ?_
        refine r_getR rfl fl_3_9 rfl h (fun v3 h => ?_)
        refine r_iload rfl rfl ?_
        refine r_iald rfl h (fun v4 h => ?_)
        refine r_ic_le 57 rfl (by decide) h (fun h => ?_) (fun h => ?_)
        · refine r_iinc (v := 1) (lo' := [some (va_rf r0), none, none, none, some (.int i4), some (.int i5), some (.int (i6 + (1 : Int32)))]) rfl rfl rfl (by decide) rfl rfl ?_
          refine r_goto 13 rfl (by decide) ?_
          exact hq13 _ _ _ _ _ h
        · refine r_iload rfl rfl ?_
          refine r_istore (lo' := [some (va_rf r0), none, none, none, some (.int i4), some (.int i6), some (.int i6)]) rfl rfl rfl rfl ?_
          refine r_iinc (v := 1) (lo' := [some (va_rf r0), none, none, none, some (.int i4), some (.int i6), some (.int (i6 + (1 : Int32)))]) rfl rfl rfl (by decide) rfl rfl ?_
          refine r_goto 13 rfl (by decide) ?_
          exact hq13 _ _ _ _ _ h
theorem s_X3_greatest_13 {d : Nat} {P : Int32 → Mem → Prop}   : ∀ (k : Nat) (r0 : Option Nat) (i4 : Int32) (i5 : Int32) (i6 : Int32) (M : Mem), FQ (f_X3_greatest_13  k r0 i4 i5 i6 M) P → wp Y_X3_greatest (rmD (d + 4) 0 0) (FM (QI P) 0 0) 0 0 13 [some (va_rf r0), none, none, none, some (.int i4), some (.int i5), some (.int i6)] [] M
  | 0, _, _, _, _, _, h => h.no
  | k + 1, r0, i4, i5, i6, M, h => sb_X3_greatest_13  (s_X3_greatest_13  k) r0 i4 i5 i6 M h
theorem s_X3_greatest {d : Nat} {P : Int32 → Mem → Prop} {r0 : Option Nat} {r1 : Option Nat} {r2 : Option Nat} {i3 : Int32} {i4 : Int32} {M : Mem} (h : FQ (f_X3_greatest r0 r1 r2 i3 i4 M) P) : Con Y_X3_greatest (d + 4) 0 0 [va_rf r0, va_rf r1, va_rf r2, .int i3, .int i4] M (QI P) := by
  refine Con.of [some (va_rf r0), some (va_rf r1), some (va_rf r2), some (.int i3), some (.int i4), none, none] (by decide +kernel) dk_X3_greatest (by simp [Y_X3_greatest, cat_rf, cat_i, cat_l]) (by simp [loE, Y_X3_greatest, cat_rf, cat_i, cat_l, List.replicate]) ?_
  unfold f_X3_greatest at h
  refine r_aload_n rfl rfl ?_
  refine r_aload_n rfl rfl ?_
  refine r_aload_n rfl rfl ?_
  refine r_iload_n rfl rfl ?_
  refine r_cv_v (vs := [va_rf r1, va_rf r2, .int i3]) rfl ml_3_45 rfl (rOk.of rfl) ⟨Nat.zero_le _, Nat.zero_le _⟩ rfl rfl rfl h s_X3_weigh (fun _ M1 h => ?_)
  refine r_iconst (v := -1) rfl (by decide) ?_
  refine r_istore (lo' := [some (va_rf r0), some (va_rf r1), some (va_rf r2), some (.int i3), some (.int i4), some (.int (-1 : Int32)), none]) rfl rfl rfl rfl ?_
  refine r_iconst (v := 0) rfl (by decide) ?_
  refine r_istore (lo' := [some (va_rf r0), some (va_rf r1), some (va_rf r2), some (.int i3), some (.int i4), some (.int (-1 : Int32)), some (.int (0 : Int32))]) rfl rfl rfl rfl ?_
  refine r_msk [true, false, false, false, true, true, true] rfl ?_
  exact s_X3_greatest_13 FU _ _ _ _ _ h
set_option maxRecDepth 20000 in
theorem dk_X3_allowed : ∀ pc i, L_X3_allowed[pc]? = some (some i) → decode prog_5_method_4_code pc = .ok i := dk_of (by decide +kernel)
theorem sb_X3_allowed_32 {d : Nat} {P : Int32 → Mem → Prop} {q11 : Option Nat → Option Nat → Option Nat → Int32 → Int32 → Mem → Option (Int32 × Mem)} {q32 : Option Nat → Option Nat → Option Nat → Int32 → Int32 → Option Nat → Int32 → Mem → Option (Int32 × Mem)} (hq11 : ∀ (r0 : Option Nat) (r1 : Option Nat) (r2 : Option Nat) (i3 : Int32) (i4 : Int32) (M : Mem), FQ (q11 r0 r1 r2 i3 i4 M) P → wp Y_X3_allowed (rmD (d + 3) 0 0) (FM (QI P) 0 0) 0 0 11 [some (va_rf r0), some (va_rf r1), some (va_rf r2), some (.int i3), some (.int i4), none, none] [] M) (hq32 : ∀ (r0 : Option Nat) (r1 : Option Nat) (r2 : Option Nat) (i3 : Int32) (i4 : Int32) (r5 : Option Nat) (i6 : Int32) (M : Mem), FQ (q32 r0 r1 r2 i3 i4 r5 i6 M) P → wp Y_X3_allowed (rmD (d + 3) 0 0) (FM (QI P) 0 0) 0 0 32 [some (va_rf r0), some (va_rf r1), some (va_rf r2), some (.int i3), some (.int i4), some (va_rf r5), some (.int i6)] [] M) (r0 : Option Nat) (r1 : Option Nat) (r2 : Option Nat) (i3 : Int32) (i4 : Int32) (r5 : Option Nat) (i6 : Int32) (M : Mem) (h : FQ (b_X3_allowed_32 q11 q32 r0 r1 r2 i3 i4 r5 i6 M) P) : wp Y_X3_allowed (rmD (d + 3) 0 0) (FM (QI P) 0 0) 0 0 32 [some (va_rf r0), some (va_rf r1), some (va_rf r2), some (.int i3), some (.int i4), some (va_rf r5), some (.int i6)] [] M := by
  unfold b_X3_allowed_32 at h
  refine r_iload rfl rfl ?_
  refine r_bipush (v := 8) rfl (by decide) ?_
  refine r_ic_ge 86 rfl (by decide) h (fun h => ?_) (fun h => ?_)
  · refine r_iinc (v := 1) (lo' := [some (va_rf r0), some (va_rf r1), some (va_rf r2), some (.int i3), some (.int (i4 + (1 : Int32))), some (va_rf r5), some (.int i6)]) rfl rfl rfl (by decide) rfl rfl ?_
    refine r_goto 11 rfl (by decide) ?_
    refine r_msk [true, true, true, true, true, false, false] rfl ?_
    exact hq11 _ _ _ _ _ _ h
  · refine r_aload rfl rfl ?_
    refine r_getI rfl fl_3_68 rfl h (fun v1 h => ?_)
    refine r_bipush (v := 16) rfl (by decide) ?_
    refine r_ic_ne 86 rfl (by decide) h (fun h => ?_) (fun h => ?_)
    · refine r_iload_n rfl rfl ?_
      refine r_iconst (v := 1) rfl (by decide) ?_
      refine r_iload rfl rfl ?_
      refine r_ishl rfl ?_
      refine r_iand rfl ?_
      refine r_if_eq 80 rfl (by decide) h (fun h => ?_) (fun h => ?_)
      · refine r_iinc (v := 1) (lo' := [some (va_rf r0), some (va_rf r1), some (va_rf r2), some (.int i3), some (.int i4), some (va_rf r5), some (.int (i6 + (1 : Int32)))]) rfl rfl rfl (by decide) (by simp [stOk, cat_rf]) rfl ?_
        refine r_goto 32 rfl (by decide) ?_
        exact hq32 _ _ _ _ _ _ _ _ h
      · refine r_aload_n rfl rfl ?_
        refine r_aload_n rfl rfl ?_
        refine r_aload_n rfl rfl ?_
        refine r_aload rfl rfl ?_
        refine r_iload rfl rfl ?_
        refine r_cv_i (vs := [va_rf r1, va_rf r2, va_rf r5, .int i6]) rfl ml_3_73 rfl (rOk.of rfl) ⟨Nat.zero_le _, Nat.zero_le _⟩ rfl rfl rfl h s_X3_value (fun v2 M1 h => ?_)
        refine r_if_eq 80 rfl (by decide) h (fun h => ?_) (fun h => ?_)
        · refine r_iinc (v := 1) (lo' := [some (va_rf r0), some (va_rf r1), some (va_rf r2), some (.int i3), some (.int i4), some (va_rf r5), some (.int (i6 + (1 : Int32)))]) rfl rfl rfl (by decide) (by simp [stOk, cat_rf]) rfl ?_
          refine r_goto 32 rfl (by decide) ?_
          exact hq32 _ _ _ _ _ _ _ _ h
        · refine r_iload_n rfl rfl ?_
          refine r_iconst (v := 1) rfl (by decide) ?_
          refine r_iload rfl rfl ?_
          refine r_ishl rfl ?_
          refine r_iconst (v := -1) rfl (by decide) ?_
          refine r_ixor rfl ?_
          refine r_iand rfl ?_
          refine r_istore_n (lo' := [some (va_rf r0), some (va_rf r1), some (va_rf r2), some (.int (i3 &&& (((1 : Int32) <<< (i6 &&& 31)) ^^^ (-1 : Int32)))), some (.int i4), some (va_rf r5), some (.int i6)]) rfl rfl (by simp [stOk, cat_rf]) rfl ?_
          refine r_iinc (v := 1) (lo' := [some (va_rf r0), some (va_rf r1), some (va_rf r2), some (.int (i3 &&& (((1 : Int32) <<< (i6 &&& 31)) ^^^ (-1 : Int32)))), some (.int i4), some (va_rf r5), some (.int (i6 + (1 : Int32)))]) rfl rfl rfl (by decide) (by simp [stOk, cat_rf]) rfl ?_
          refine r_goto 32 rfl (by decide) ?_
          exact hq32 _ _ _ _ _ _ _ _ h
    · refine r_iinc (v := 1) (lo' := [some (va_rf r0), some (va_rf r1), some (va_rf r2), some (.int i3), some (.int (i4 + (1 : Int32))), some (va_rf r5), some (.int i6)]) rfl rfl rfl (by decide) rfl rfl ?_
      refine r_goto 11 rfl (by decide) ?_
      refine r_msk [true, true, true, true, true, false, false] rfl ?_
      exact hq11 _ _ _ _ _ _ h
theorem s_X3_allowed_32 {d : Nat} {P : Int32 → Mem → Prop} {q11 : Option Nat → Option Nat → Option Nat → Int32 → Int32 → Mem → Option (Int32 × Mem)} (hq11 : ∀ (r0 : Option Nat) (r1 : Option Nat) (r2 : Option Nat) (i3 : Int32) (i4 : Int32) (M : Mem), FQ (q11 r0 r1 r2 i3 i4 M) P → wp Y_X3_allowed (rmD (d + 3) 0 0) (FM (QI P) 0 0) 0 0 11 [some (va_rf r0), some (va_rf r1), some (va_rf r2), some (.int i3), some (.int i4), none, none] [] M) : ∀ (k : Nat) (r0 : Option Nat) (r1 : Option Nat) (r2 : Option Nat) (i3 : Int32) (i4 : Int32) (r5 : Option Nat) (i6 : Int32) (M : Mem), FQ (f_X3_allowed_32 q11 k r0 r1 r2 i3 i4 r5 i6 M) P → wp Y_X3_allowed (rmD (d + 3) 0 0) (FM (QI P) 0 0) 0 0 32 [some (va_rf r0), some (va_rf r1), some (va_rf r2), some (.int i3), some (.int i4), some (va_rf r5), some (.int i6)] [] M
  | 0, _, _, _, _, _, _, _, _, h => h.no
  | k + 1, r0, r1, r2, i3, i4, r5, i6, M, h => sb_X3_allowed_32 hq11 (s_X3_allowed_32 hq11 k) r0 r1 r2 i3 i4 r5 i6 M h
theorem sb_X3_allowed_11 {d : Nat} {P : Int32 → Mem → Prop} {q11 : Option Nat → Option Nat → Option Nat → Int32 → Int32 → Mem → Option (Int32 × Mem)} (hq11 : ∀ (r0 : Option Nat) (r1 : Option Nat) (r2 : Option Nat) (i3 : Int32) (i4 : Int32) (M : Mem), FQ (q11 r0 r1 r2 i3 i4 M) P → wp Y_X3_allowed (rmD (d + 3) 0 0) (FM (QI P) 0 0) 0 0 11 [some (va_rf r0), some (va_rf r1), some (va_rf r2), some (.int i3), some (.int i4), none, none] [] M) (r0 : Option Nat) (r1 : Option Nat) (r2 : Option Nat) (i3 : Int32) (i4 : Int32) (M : Mem) (h : FQ (b_X3_allowed_11 q11 r0 r1 r2 i3 i4 M) P) : wp Y_X3_allowed (rmD (d + 3) 0 0) (FM (QI P) 0 0) 0 0 11 [some (va_rf r0), some (va_rf r1), some (va_rf r2), some (.int i3), some (.int i4), none, none] [] M := by
  unfold b_X3_allowed_11 at h
  refine r_iload rfl rfl ?_
  refine r_aload_n rfl rfl ?_
  refine r_getI rfl fl_3_59 rfl h (fun v1 h => ?_)
  refine r_ic_ge 92 rfl (by decide) h (fun h => ?_) (fun h => ?_)
  · refine r_iload_n rfl rfl ?_
    refine r_cs_i (vs := [.int i3]) rfl ml_3_77 (rOk.of rfl) ⟨Nat.zero_le _, Nat.zero_le _⟩ rfl rfl rfl h s_J6_bitCount_0f7a4 (fun v2 M1 h => ?_)
    refine r_iconst (v := 3) rfl (by decide) ?_
    refine r_ic_ge 110 rfl (by decide) h (fun h => ?_) (fun h => ?_)
    · refine r_iload_n rfl rfl ?_
      exact r_iret rfl rfl ⟨Nat.le_of_ble_eq_true rfl, Nat.le_of_ble_eq_true rfl⟩ h
    · refine r_aload_n rfl rfl ?_
      refine r_getR rfl fl_3_15 rfl h (fun v3 h => ?_)
      refine r_getI rfl fl_3_54 rfl h (fun v4 h => ?_)
      refine r_goto 111 rfl (by decide) ?_
      exact r_iret rfl rfl ⟨Nat.le_of_ble_eq_true rfl, Nat.le_of_ble_eq_true rfl⟩ h
  · refine r_aload_n rfl rfl ?_
    refine r_getR rfl fl_3_64 rfl h (fun v5 h => ?_)
    refine r_iload rfl rfl ?_
    refine r_aald6 rfl h (fun v6 h => ?_)
    refine r_astore (lo' := [some (va_rf r0), some (va_rf r1), some (va_rf r2), some (.int i3), some (.int i4), some (va_rf v6), none]) rfl rfl rfl rfl ?_
    refine r_iconst (v := 0) rfl (by decide) ?_
    refine r_istore (lo' := [some (va_rf r0), some (va_rf r1), some (va_rf r2), some (.int i3), some (.int i4), some (va_rf v6), some (.int (0 : Int32))]) rfl rfl (by simp [stOk, cat_rf]) rfl ?_
    exact s_X3_allowed_32 hq11 FU _ _ _ _ _ _ _ _ h
theorem s_X3_allowed_11 {d : Nat} {P : Int32 → Mem → Prop}   : ∀ (k : Nat) (r0 : Option Nat) (r1 : Option Nat) (r2 : Option Nat) (i3 : Int32) (i4 : Int32) (M : Mem), FQ (f_X3_allowed_11  k r0 r1 r2 i3 i4 M) P → wp Y_X3_allowed (rmD (d + 3) 0 0) (FM (QI P) 0 0) 0 0 11 [some (va_rf r0), some (va_rf r1), some (va_rf r2), some (.int i3), some (.int i4), none, none] [] M
  | 0, _, _, _, _, _, _, h => h.no
  | k + 1, r0, r1, r2, i3, i4, M, h => sb_X3_allowed_11  (s_X3_allowed_11  k) r0 r1 r2 i3 i4 M h
theorem s_X3_allowed {d : Nat} {P : Int32 → Mem → Prop} {r0 : Option Nat} {r1 : Option Nat} {r2 : Option Nat} {M : Mem} (h : FQ (f_X3_allowed r0 r1 r2 M) P) : Con Y_X3_allowed (d + 3) 0 0 [va_rf r0, va_rf r1, va_rf r2] M (QI P) := by
  refine Con.of [some (va_rf r0), some (va_rf r1), some (va_rf r2), none, none, none, none] (by decide +kernel) dk_X3_allowed (by simp [Y_X3_allowed, cat_rf, cat_i, cat_l]) (by simp [loE, Y_X3_allowed, cat_rf, cat_i, cat_l, List.replicate]) ?_
  unfold f_X3_allowed at h
  refine r_aload_n rfl rfl ?_
  refine r_getR rfl fl_3_15 rfl h (fun v1 h => ?_)
  refine r_getI rfl fl_3_54 rfl h (fun v2 h => ?_)
  refine r_istore_n (lo' := [some (va_rf r0), some (va_rf r1), some (va_rf r2), some (.int v2), none, none, none]) rfl rfl (by simp [stOk, cat_rf]) rfl ?_
  refine r_iconst (v := 0) rfl (by decide) ?_
  refine r_istore (lo' := [some (va_rf r0), some (va_rf r1), some (va_rf r2), some (.int v2), some (.int (0 : Int32)), none, none]) rfl rfl rfl rfl ?_
  exact s_X3_allowed_11 FU _ _ _ _ _ _ h
set_option maxRecDepth 20000 in
theorem dk_X3_offered : ∀ pc i, L_X3_offered[pc]? = some (some i) → decode prog_5_method_3_code pc = .ok i := dk_of (by decide +kernel)
theorem sb_X3_offered_61 {d : Nat} {P : Int32 → Mem → Prop} {q24 : Option Nat → Int32 → Int32 → Int32 → Int32 → Mem → Option (Int32 × Mem)} {q61 : Option Nat → Int32 → Int32 → Int32 → Int32 → Int32 → Int32 → Int32 → Mem → Option (Int32 × Mem)} (hq24 : ∀ (r0 : Option Nat) (i3 : Int32) (i4 : Int32) (i5 : Int32) (i6 : Int32) (M : Mem), FQ (q24 r0 i3 i4 i5 i6 M) P → wp Y_X3_offered (rmD (d + 4) 0 0) (FM (QI P) 0 0) 0 0 24 [some (va_rf r0), none, none, some (.int i3), some (.int i4), some (.int i5), some (.int i6), none, none, none] [] M) (hq61 : ∀ (r0 : Option Nat) (i3 : Int32) (i4 : Int32) (i5 : Int32) (i6 : Int32) (i7 : Int32) (i8 : Int32) (i9 : Int32) (M : Mem), FQ (q61 r0 i3 i4 i5 i6 i7 i8 i9 M) P → wp Y_X3_offered (rmD (d + 4) 0 0) (FM (QI P) 0 0) 0 0 61 [some (va_rf r0), none, none, some (.int i3), some (.int i4), some (.int i5), some (.int i6), some (.int i7), some (.int i8), some (.int i9)] [] M) (r0 : Option Nat) (i3 : Int32) (i4 : Int32) (i5 : Int32) (i6 : Int32) (i7 : Int32) (i8 : Int32) (i9 : Int32) (M : Mem) (h : FQ (b_X3_offered_61 q24 q61 r0 i3 i4 i5 i6 i7 i8 i9 M) P) : wp Y_X3_offered (rmD (d + 4) 0 0) (FM (QI P) 0 0) 0 0 61 [some (va_rf r0), none, none, some (.int i3), some (.int i4), some (.int i5), some (.int i6), some (.int i7), some (.int i8), some (.int i9)] [] M := by
  unfold b_X3_offered_61 at h
  refine r_iload rfl rfl ?_
  refine r_bipush (v := 8) rfl (by decide) ?_
  refine r_ic_ge 100 rfl (by decide) h (fun h => ?_) (fun h => ?_)
  · refine r_iload rfl rfl ?_
    refine r_if_eq 112 rfl (by decide) h (fun h => ?_) (fun h => ?_)
    · refine r_iload rfl rfl ?_
      refine r_istore (lo' := [some (va_rf r0), none, none, some (.int i3), some (.int i7), some (.int i5), some (.int i6), some (.int i7), some (.int i8), some (.int i9)]) rfl rfl rfl rfl ?_
      refine r_iload rfl rfl ?_
      refine r_istore (lo' := [some (va_rf r0), none, none, some (.int i3), some (.int i7), some (.int i8), some (.int i6), some (.int i7), some (.int i8), some (.int i9)]) rfl rfl rfl rfl ?_
      refine r_iinc (v := 1) (lo' := [some (va_rf r0), none, none, some (.int i3), some (.int i7), some (.int i8), some (.int (i6 + (1 : Int32))), some (.int i7), some (.int i8), some (.int i9)]) rfl rfl rfl (by decide) rfl rfl ?_
      refine r_goto 24 rfl (by decide) ?_
      refine r_msk [true, true, true, true, true, true, true, false, false, false] rfl ?_
      exact hq24 _ _ _ _ _ _ h
    · refine r_iload rfl rfl ?_
      refine r_iload rfl rfl ?_
      refine r_ic_le 120 rfl (by decide) h (fun h => ?_) (fun h => ?_)
      · refine r_iinc (v := 1) (lo' := [some (va_rf r0), none, none, some (.int i3), some (.int i4), some (.int i5), some (.int (i6 + (1 : Int32))), some (.int i7), some (.int i8), some (.int i9)]) rfl rfl rfl (by decide) rfl rfl ?_
        refine r_goto 24 rfl (by decide) ?_
        refine r_msk [true, true, true, true, true, true, true, false, false, false] rfl ?_
        exact hq24 _ _ _ _ _ _ h
      · refine r_iload rfl rfl ?_
        refine r_istore (lo' := [some (va_rf r0), none, none, some (.int i3), some (.int i7), some (.int i5), some (.int i6), some (.int i7), some (.int i8), some (.int i9)]) rfl rfl rfl rfl ?_
        refine r_iload rfl rfl ?_
        refine r_istore (lo' := [some (va_rf r0), none, none, some (.int i3), some (.int i7), some (.int i8), some (.int i6), some (.int i7), some (.int i8), some (.int i9)]) rfl rfl rfl rfl ?_
        refine r_iinc (v := 1) (lo' := [some (va_rf r0), none, none, some (.int i3), some (.int i7), some (.int i8), some (.int (i6 + (1 : Int32))), some (.int i7), some (.int i8), some (.int i9)]) rfl rfl rfl (by decide) rfl rfl ?_
        refine r_goto 24 rfl (by decide) ?_
        refine r_msk [true, true, true, true, true, true, true, false, false, false] rfl ?_
        exact hq24 _ _ _ _ _ _ h
  · refine r_iload rfl rfl ?_
    refine r_iload rfl rfl ?_
    refine r_iconst (v := 1) rfl (by decide) ?_
    refine r_iload rfl rfl ?_
    refine r_ishl rfl ?_
    refine r_iand rfl ?_
    refine r_if_eq 90 rfl (by decide) h (fun h => ?_) (fun h => ?_)
    · refine r_iconst (v := 0) rfl (by decide) ?_
      refine r_iadd rfl ?_
      refine r_istore (lo' := [some (va_rf r0), none, none, some (.int i3), some (.int i4), some (.int i5), some (.int i6), some (.int i7), some (.int (i8 + (0 : Int32))), some (.int i9)]) rfl rfl rfl rfl ?_
      refine r_iinc (v := 1) (lo' := [some (va_rf r0), none, none, some (.int i3), some (.int i4), some (.int i5), some (.int i6), some (.int i7), some (.int (i8 + (0 : Int32))), some (.int (i9 + (1 : Int32)))]) rfl rfl rfl (by decide) rfl rfl ?_
      refine r_goto 61 rfl (by decide) ?_
      exact hq61 _ _ _ _ _ _ _ _ _ h
    · refine r_aload_n rfl rfl ?_
      refine r_getR rfl fl_3_9 rfl h (fun v1 h => ?_)
      refine r_iload rfl rfl ?_
      refine r_iald rfl h (fun v2 h => ?_)
      refine r_goto 91 rfl (by decide) ?_
      refine r_iadd rfl ?_
      refine r_istore (lo' := [some (va_rf r0), none, none, some (.int i3), some (.int i4), some (.int i5), some (.int i6), some (.int i7), some (.int (i8 + v2)), some (.int i9)]) rfl rfl rfl rfl ?_
      refine r_iinc (v := 1) (lo' := [some (va_rf r0), none, none, some (.int i3), some (.int i4), some (.int i5), some (.int i6), some (.int i7), some (.int (i8 + v2)), some (.int (i9 + (1 : Int32)))]) rfl rfl rfl (by decide) rfl rfl ?_
      refine r_goto 61 rfl (by decide) ?_
      exact hq61 _ _ _ _ _ _ _ _ _ h
theorem s_X3_offered_61 {d : Nat} {P : Int32 → Mem → Prop} {q24 : Option Nat → Int32 → Int32 → Int32 → Int32 → Mem → Option (Int32 × Mem)} (hq24 : ∀ (r0 : Option Nat) (i3 : Int32) (i4 : Int32) (i5 : Int32) (i6 : Int32) (M : Mem), FQ (q24 r0 i3 i4 i5 i6 M) P → wp Y_X3_offered (rmD (d + 4) 0 0) (FM (QI P) 0 0) 0 0 24 [some (va_rf r0), none, none, some (.int i3), some (.int i4), some (.int i5), some (.int i6), none, none, none] [] M) : ∀ (k : Nat) (r0 : Option Nat) (i3 : Int32) (i4 : Int32) (i5 : Int32) (i6 : Int32) (i7 : Int32) (i8 : Int32) (i9 : Int32) (M : Mem), FQ (f_X3_offered_61 q24 k r0 i3 i4 i5 i6 i7 i8 i9 M) P → wp Y_X3_offered (rmD (d + 4) 0 0) (FM (QI P) 0 0) 0 0 61 [some (va_rf r0), none, none, some (.int i3), some (.int i4), some (.int i5), some (.int i6), some (.int i7), some (.int i8), some (.int i9)] [] M
  | 0, _, _, _, _, _, _, _, _, _, h => h.no
  | k + 1, r0, i3, i4, i5, i6, i7, i8, i9, M, h => sb_X3_offered_61 hq24 (s_X3_offered_61 hq24 k) r0 i3 i4 i5 i6 i7 i8 i9 M h
theorem sb_X3_offered_24 {d : Nat} {P : Int32 → Mem → Prop} {q24 : Option Nat → Int32 → Int32 → Int32 → Int32 → Mem → Option (Int32 × Mem)} (hq24 : ∀ (r0 : Option Nat) (i3 : Int32) (i4 : Int32) (i5 : Int32) (i6 : Int32) (M : Mem), FQ (q24 r0 i3 i4 i5 i6 M) P → wp Y_X3_offered (rmD (d + 4) 0 0) (FM (QI P) 0 0) 0 0 24 [some (va_rf r0), none, none, some (.int i3), some (.int i4), some (.int i5), some (.int i6), none, none, none] [] M) (r0 : Option Nat) (i3 : Int32) (i4 : Int32) (i5 : Int32) (i6 : Int32) (M : Mem) (h : FQ (b_X3_offered_24 q24 r0 i3 i4 i5 i6 M) P) : wp Y_X3_offered (rmD (d + 4) 0 0) (FM (QI P) 0 0) 0 0 24 [some (va_rf r0), none, none, some (.int i3), some (.int i4), some (.int i5), some (.int i6), none, none, none] [] M := by
  unfold b_X3_offered_24 at h
  refine r_iload rfl rfl ?_
  refine r_bipush (v := 56) rfl (by decide) ?_
  refine r_ic_ge 126 rfl (by decide) h (fun h => ?_) (fun h => ?_)
  · refine r_iload rfl rfl ?_
    exact r_iret rfl rfl ⟨Nat.le_of_ble_eq_true rfl, Nat.le_of_ble_eq_true rfl⟩ h
  · refine r_aload_n rfl rfl ?_
    refine r_getR rfl fl_3_23 rfl h (fun v1 h => ?_)
    refine r_getR rfl fl_3_51 rfl h (fun v2 h => ?_)
    refine r_iload rfl rfl ?_
    refine r_iald rfl h (fun v3 h => ?_)
    refine r_istore (lo' := [some (va_rf r0), none, none, some (.int i3), some (.int i4), some (.int i5), some (.int i6), some (.int v3), none, none]) rfl rfl rfl rfl ?_
    refine r_iload rfl rfl ?_
    refine r_iload_n rfl rfl ?_
    refine r_iand rfl ?_
    refine r_iload rfl rfl ?_
    refine r_ic_eq 55 rfl (by decide) h (fun h => ?_) (fun h => ?_)
    · refine r_iconst (v := 0) rfl (by decide) ?_
      refine r_istore (lo' := [some (va_rf r0), none, none, some (.int i3), some (.int i4), some (.int i5), some (.int i6), some (.int v3), some (.int (0 : Int32)), none]) rfl rfl rfl rfl ?_
      refine r_iconst (v := 0) rfl (by decide) ?_
      refine r_istore (lo' := [some (va_rf r0), none, none, some (.int i3), some (.int i4), some (.int i5), some (.int i6), some (.int v3), some (.int (0 : Int32)), some (.int (0 : Int32))]) rfl rfl rfl rfl ?_
      exact s_X3_offered_61 hq24 FU _ _ _ _ _ _ _ _ _ h
    · refine r_goto 120 rfl (by decide) ?_
      refine r_iinc (v := 1) (lo' := [some (va_rf r0), none, none, some (.int i3), some (.int i4), some (.int i5), some (.int (i6 + (1 : Int32))), some (.int v3), none, none]) rfl rfl rfl (by decide) rfl rfl ?_
      refine r_goto 24 rfl (by decide) ?_
      refine r_msk [true, true, true, true, true, true, true, false, true, true] rfl ?_
      exact hq24 _ _ _ _ _ _ h
theorem s_X3_offered_24 {d : Nat} {P : Int32 → Mem → Prop}   : ∀ (k : Nat) (r0 : Option Nat) (i3 : Int32) (i4 : Int32) (i5 : Int32) (i6 : Int32) (M : Mem), FQ (f_X3_offered_24  k r0 i3 i4 i5 i6 M) P → wp Y_X3_offered (rmD (d + 4) 0 0) (FM (QI P) 0 0) 0 0 24 [some (va_rf r0), none, none, some (.int i3), some (.int i4), some (.int i5), some (.int i6), none, none, none] [] M
  | 0, _, _, _, _, _, _, h => h.no
  | k + 1, r0, i3, i4, i5, i6, M, h => sb_X3_offered_24  (s_X3_offered_24  k) r0 i3 i4 i5 i6 M h
theorem s_X3_offered {d : Nat} {P : Int32 → Mem → Prop} {r0 : Option Nat} {r1 : Option Nat} {r2 : Option Nat} {M : Mem} (h : FQ (f_X3_offered r0 r1 r2 M) P) : Con Y_X3_offered (d + 4) 0 0 [va_rf r0, va_rf r1, va_rf r2] M (QI P) := by
  refine Con.of [some (va_rf r0), some (va_rf r1), some (va_rf r2), none, none, none, none, none, none, none] (by decide +kernel) dk_X3_offered (by simp [Y_X3_offered, cat_rf, cat_i, cat_l]) (by simp [loE, Y_X3_offered, cat_rf, cat_i, cat_l, List.replicate]) ?_
  unfold f_X3_offered at h
  refine r_aload_n rfl rfl ?_
  refine r_aload_n rfl rfl ?_
  refine r_aload_n rfl rfl ?_
  refine r_cv_i (vs := [va_rf r1, va_rf r2]) rfl ml_3_42 rfl (rOk.of rfl) ⟨Nat.zero_le _, Nat.zero_le _⟩ rfl rfl rfl h s_X3_allowed (fun v1 M1 h => ?_)
  refine r_istore_n (lo' := [some (va_rf r0), some (va_rf r1), some (va_rf r2), some (.int v1), none, none, none, none, none, none]) rfl rfl (by simp [stOk, cat_rf]) rfl ?_
  refine r_aload_n rfl rfl ?_
  refine r_aload_n rfl rfl ?_
  refine r_aload_n rfl rfl ?_
  refine r_bipush (v := 13) rfl (by decide) ?_
  refine r_cv_v (vs := [va_rf r1, va_rf r2, .int (13 : Int32)]) rfl ml_3_45 rfl (rOk.of rfl) ⟨Nat.zero_le _, Nat.zero_le _⟩ rfl rfl rfl h s_X3_weigh (fun _ M2 h => ?_)
  refine r_iconst (v := 0) rfl (by decide) ?_
  refine r_istore (lo' := [some (va_rf r0), some (va_rf r1), some (va_rf r2), some (.int v1), some (.int (0 : Int32)), none, none, none, none, none]) rfl rfl rfl rfl ?_
  refine r_iconst (v := 0) rfl (by decide) ?_
  refine r_istore (lo' := [some (va_rf r0), some (va_rf r1), some (va_rf r2), some (.int v1), some (.int (0 : Int32)), some (.int (0 : Int32)), none, none, none, none]) rfl rfl rfl rfl ?_
  refine r_iconst (v := 0) rfl (by decide) ?_
  refine r_istore (lo' := [some (va_rf r0), some (va_rf r1), some (va_rf r2), some (.int v1), some (.int (0 : Int32)), some (.int (0 : Int32)), some (.int (0 : Int32)), none, none, none]) rfl rfl rfl rfl ?_
  refine r_msk [true, false, false, true, true, true, true, true, true, true] rfl ?_
  exact s_X3_offered_24 FU _ _ _ _ _ _ h
set_option maxRecDepth 20000 in
theorem dk_X3_decide : ∀ pc i, L_X3_decide[pc]? = some (some i) → decode prog_5_method_2_code pc = .ok i := dk_of (by decide +kernel)
theorem s_X3_decide {d : Nat} {P : Unit → Mem → Prop} {r0 : Option Nat} {r1 : Option Nat} {r2 : Option Nat} {r3 : Option Nat} {M : Mem} (h : FQ (f_X3_decide r0 r1 r2 r3 M) P) : Con Y_X3_decide (d + 5) 0 0 [va_rf r0, va_rf r1, va_rf r2, va_rf r3] M (QV P) := by
  refine Con.of [some (va_rf r0), some (va_rf r1), some (va_rf r2), some (va_rf r3), none] (by decide +kernel) dk_X3_decide (by simp [Y_X3_decide, cat_rf, cat_i, cat_l]) (by simp [loE, Y_X3_decide, cat_rf, cat_i, cat_l, List.replicate]) ?_
  unfold f_X3_decide at h
  refine r_aload_n rfl rfl ?_
  refine r_aload_n rfl rfl ?_
  refine r_aload_n rfl rfl ?_
  refine r_cv_i (vs := [va_rf r1, va_rf r2]) rfl ml_3_34 rfl (rOk.of rfl) ⟨Nat.zero_le _, Nat.zero_le _⟩ rfl rfl rfl h s_X3_offered (fun v1 M1 h => ?_)
  refine r_istore (lo' := [some (va_rf r0), some (va_rf r1), some (va_rf r2), some (va_rf r3), some (.int v1)]) rfl rfl (by simp [stOk, cat_rf]) rfl ?_
  refine r_aload_n rfl rfl ?_
  refine r_aload_n rfl rfl ?_
  refine r_aload_n rfl rfl ?_
  refine r_aload_n rfl rfl ?_
  refine r_bipush (v := 14) rfl (by decide) ?_
  refine r_iload rfl rfl ?_
  refine r_cv_i (vs := [va_rf r1, va_rf r3, .int (14 : Int32), .int v1]) rfl ml_3_38 rfl (rOk.of rfl) ⟨Nat.zero_le _, Nat.zero_le _⟩ rfl rfl rfl h s_X3_greatest (fun v2 M2 h => ?_)
  refine r_putI rfl fl_3_27 (fun z => by cases z) rfl h (fun M3 h => ?_)
  refine r_aload_n rfl rfl ?_
  refine r_aload_n rfl rfl ?_
  refine r_aload_n rfl rfl ?_
  refine r_aload_n rfl rfl ?_
  refine r_bipush (v := 15) rfl (by decide) ?_
  refine r_iload rfl rfl ?_
  refine r_iconst (v := 1) rfl (by decide) ?_
  refine r_aload_n rfl rfl ?_
  refine r_getI rfl fl_3_27 rfl h (fun v3 h => ?_)
  refine r_ishl rfl ?_
  refine r_iconst (v := -1) rfl (by decide) ?_
  refine r_ixor rfl ?_
  refine r_iand rfl ?_
  refine r_cv_i (vs := [va_rf r1, va_rf r2, .int (15 : Int32), .int (v1 &&& (((1 : Int32) <<< (v3 &&& 31)) ^^^ (-1 : Int32)))]) rfl ml_3_38 rfl (rOk.of rfl) ⟨Nat.zero_le _, Nat.zero_le _⟩ rfl rfl rfl h s_X3_greatest (fun v4 M4 h => ?_)
  refine r_putI rfl fl_3_31 (fun z => by cases z) rfl h (fun M5 h => ?_)
  exact r_vret rfl rfl ⟨Nat.le_of_ble_eq_true rfl, Nat.le_of_ble_eq_true rfl⟩ h
set_option maxRecDepth 20000 in
theorem dk_X11_byWays : ∀ pc i, L_X11_byWays[pc]? = some (some i) → decode prog_1_method_43_code pc = .ok i := dk_of (by decide +kernel)
theorem sb_X11_byWays_2 {d : Nat} {P : Int32 → Mem → Prop} {q2 : Option Nat → Option Nat → Int32 → Int32 → Mem → Option (Int32 × Mem)} (hq2 : ∀ (r0 : Option Nat) (r1 : Option Nat) (i2 : Int32) (i3 : Int32) (M : Mem), FQ (q2 r0 r1 i2 i3 M) P → wp Y_X11_byWays (rmD (d + 6) 0 0) (FM (QI P) 0 0) 0 0 2 [some (va_rf r0), some (va_rf r1), some (.int i2), some (.int i3), none, none, none] [] M) (r0 : Option Nat) (r1 : Option Nat) (i2 : Int32) (i3 : Int32) (M : Mem) (h : FQ (b_X11_byWays_2 q2 r0 r1 i2 i3 M) P) : wp Y_X11_byWays (rmD (d + 6) 0 0) (FM (QI P) 0 0) 0 0 2 [some (va_rf r0), some (va_rf r1), some (.int i2), some (.int i3), none, none, none] [] M := by
  unfold b_X11_byWays_2 at h
  refine r_iload_n rfl rfl ?_
  refine r_iload_n rfl rfl ?_
  refine r_ic_ge 108 rfl (by decide) h (fun h => ?_) (fun h => ?_)
  · refine r_iload_n rfl rfl ?_
    exact r_iret rfl rfl ⟨Nat.le_of_ble_eq_true rfl, Nat.le_of_ble_eq_true rfl⟩ h
  · refine r_aload_n rfl rfl ?_
    refine r_aload_n rfl rfl ?_
    refine r_cv_i (vs := [va_rf r1]) rfl ml_11_246 rfl (rOk.of rfl) ⟨Nat.zero_le _, Nat.zero_le _⟩ rfl rfl rfl h s_X11_isOver (fun v1 M1 h => ?_)
    refine r_if_eq 17 rfl (by decide) h (fun h => ?_) (fun h => ?_)
    · refine r_aload_n rfl rfl ?_
      refine r_getI rfl fl_11_131 rfl h (fun v2 h => ?_)
      refine r_istore (lo' := [some (va_rf r0), some (va_rf r1), some (.int i2), some (.int i3), some (.int v2), none, none]) rfl rfl rfl rfl ?_
      refine r_aload_n rfl rfl ?_
      refine r_aload_n rfl rfl ?_
      refine r_getR rfl fl_11_10 rfl h (fun v3 h => ?_)
      refine r_getR rfl fl_11_159 rfl h (fun v4 h => ?_)
      refine r_iload rfl rfl ?_
      refine r_iald rfl h (fun v5 h => ?_)
      refine r_cv_r (vs := [.int v5]) rfl ml_11_162 rfl (rOk.of rfl) ⟨Nat.zero_le _, Nat.zero_le _⟩ rfl rfl rfl h s_X11_rules (fun v6 M2 h => ?_)
      refine r_astore (lo' := [some (va_rf r0), some (va_rf r1), some (.int i2), some (.int i3), some (.int v2), some (va_rf v6), none]) rfl rfl rfl rfl ?_
      refine r_aload_n rfl rfl ?_
      refine r_aload_n rfl rfl ?_
      refine r_getR rfl fl_11_10 rfl h (fun v7 h => ?_)
      refine r_getR rfl fl_11_159 rfl h (fun v8 h => ?_)
      refine r_iconst (v := 1) rfl (by decide) ?_
      refine r_iload rfl rfl ?_
      refine r_isub rfl ?_
      refine r_iald rfl h (fun v9 h => ?_)
      refine r_cv_r (vs := [.int v9]) rfl ml_11_162 rfl (rOk.of rfl) ⟨Nat.zero_le _, Nat.zero_le _⟩ rfl rfl rfl h s_X11_rules (fun v10 M3 h => ?_)
      refine r_astore (lo' := [some (va_rf r0), some (va_rf r1), some (.int i2), some (.int i3), some (.int v2), some (va_rf v6), some (va_rf v10)]) rfl rfl (by simp [stOk, cat_rf]) rfl ?_
      refine r_aload_n rfl rfl ?_
      refine r_getR rfl fl_11_92 rfl h (fun v11 h => ?_)
      refine r_aload_n rfl rfl ?_
      refine r_aload rfl rfl ?_
      refine r_aload rfl rfl ?_
      refine r_cv_v (vs := [va_rf r1, va_rf v6, va_rf v10]) rfl ml_11_314 rfl (rOk.of rfl) ⟨Nat.zero_le _, Nat.zero_le _⟩ rfl rfl rfl h s_X3_decide (fun _ M4 h => ?_)
      refine r_aload_n rfl rfl ?_
      refine r_getR rfl fl_11_83 rfl h (fun v12 h => ?_)
      refine r_aload_n rfl rfl ?_
      refine r_aload_n rfl rfl ?_
      refine r_aload_n rfl rfl ?_
      refine r_getR rfl fl_11_10 rfl h (fun v13 h => ?_)
      refine r_getI rfl fl_11_156 rfl h (fun v14 h => ?_)
      refine r_cv_r (vs := [.int v14]) rfl ml_11_162 rfl (rOk.of rfl) ⟨Nat.zero_le _, Nat.zero_le _⟩ rfl rfl rfl h s_X11_rules (fun v15 M5 h => ?_)
      refine r_aload_n rfl rfl ?_
      refine r_getR rfl fl_11_92 rfl h (fun v16 h => ?_)
      refine r_getI rfl fl_11_318 rfl h (fun v17 h => ?_)
      refine r_aload_n rfl rfl ?_
      refine r_getR rfl fl_11_92 rfl h (fun v18 h => ?_)
      refine r_getI rfl fl_11_321 rfl h (fun v19 h => ?_)
      refine r_cv_v (vs := [va_rf r1, va_rf v15, .int v17, .int v19]) rfl ml_11_303 rfl (rOk.of rfl) ⟨Nat.zero_le _, Nat.zero_le _⟩ rfl rfl rfl h s_X2_advance (fun _ M6 h => ?_)
      refine r_iinc (v := 1) (lo' := [some (va_rf r0), some (va_rf r1), some (.int i2), some (.int (i3 + (1 : Int32))), some (.int v2), some (va_rf v6), some (va_rf v10)]) rfl rfl rfl (by decide) rfl rfl ?_
      refine r_goto 2 rfl (by decide) ?_
      refine r_msk [true, true, true, true, false, false, false] rfl ?_
      exact hq2 _ _ _ _ _ h
    · refine r_iload_n rfl rfl ?_
      exact r_iret rfl rfl ⟨Nat.le_of_ble_eq_true rfl, Nat.le_of_ble_eq_true rfl⟩ h
theorem s_X11_byWays_2 {d : Nat} {P : Int32 → Mem → Prop}   : ∀ (k : Nat) (r0 : Option Nat) (r1 : Option Nat) (i2 : Int32) (i3 : Int32) (M : Mem), FQ (f_X11_byWays_2  k r0 r1 i2 i3 M) P → wp Y_X11_byWays (rmD (d + 6) 0 0) (FM (QI P) 0 0) 0 0 2 [some (va_rf r0), some (va_rf r1), some (.int i2), some (.int i3), none, none, none] [] M
  | 0, _, _, _, _, _, h => h.no
  | k + 1, r0, r1, i2, i3, M, h => sb_X11_byWays_2  (s_X11_byWays_2  k) r0 r1 i2 i3 M h
theorem s_X11_byWays {d : Nat} {P : Int32 → Mem → Prop} {r0 : Option Nat} {r1 : Option Nat} {i2 : Int32} {M : Mem} (h : FQ (f_X11_byWays r0 r1 i2 M) P) : Con Y_X11_byWays (d + 6) 0 0 [va_rf r0, va_rf r1, .int i2] M (QI P) := by
  refine Con.of [some (va_rf r0), some (va_rf r1), some (.int i2), none, none, none, none] (by decide +kernel) dk_X11_byWays (by simp [Y_X11_byWays, cat_rf, cat_i, cat_l]) (by simp [loE, Y_X11_byWays, cat_rf, cat_i, cat_l, List.replicate]) ?_
  unfold f_X11_byWays at h
  refine r_iconst (v := 0) rfl (by decide) ?_
  refine r_istore_n (lo' := [some (va_rf r0), some (va_rf r1), some (.int i2), some (.int (0 : Int32)), none, none, none]) rfl rfl rfl rfl ?_
  exact s_X11_byWays_2 FU _ _ _ _ _ h
set_option maxRecDepth 20000 in
theorem dk_X11_match : ∀ pc i, L_X11_match[pc]? = some (some i) → decode prog_1_method_19_code pc = .ok i := dk_of (by decide +kernel)
theorem s_X11_match {d : Nat} {P : Int32 → Mem → Prop} {r0 : Option Nat} {i1 : Int32} {i2 : Int32} {M : Mem} (h : FQ (f_X11_match r0 i1 i2 M) P) : Con Y_X11_match (d + 7) 0 0 [va_rf r0, .int i1, .int i2] M (QI P) := by
  refine Con.of [some (va_rf r0), some (.int i1), some (.int i2), none] (by decide +kernel) dk_X11_match (by simp [Y_X11_match, cat_rf, cat_i, cat_l]) (by simp [loE, Y_X11_match, cat_rf, cat_i, cat_l, List.replicate]) ?_
  unfold f_X11_match at h
  refine r_iload_n rfl rfl ?_
  refine r_iconst (v := 1) rfl (by decide) ?_
  refine r_ic_lt 20 rfl (by decide) h (fun h => ?_) (fun h => ?_)
  · refine r_bipush (v := -2) rfl (by decide) ?_
    exact r_iret rfl rfl ⟨Nat.le_of_ble_eq_true rfl, Nat.le_of_ble_eq_true rfl⟩ h
  · refine r_iload_n rfl rfl ?_
    refine r_bipush (v := 99) rfl (by decide) ?_
    refine r_ic_gt 20 rfl (by decide) h (fun h => ?_) (fun h => ?_)
    · refine r_bipush (v := -2) rfl (by decide) ?_
      exact r_iret rfl rfl ⟨Nat.le_of_ble_eq_true rfl, Nat.le_of_ble_eq_true rfl⟩ h
    · refine r_iload_n rfl rfl ?_
      refine r_if_lt 20 rfl (by decide) h (fun h => ?_) (fun h => ?_)
      · refine r_bipush (v := -2) rfl (by decide) ?_
        exact r_iret rfl rfl ⟨Nat.le_of_ble_eq_true rfl, Nat.le_of_ble_eq_true rfl⟩ h
      · refine r_iload_n rfl rfl ?_
        refine r_iconst (v := 1) rfl (by decide) ?_
        refine r_ic_le 23 rfl (by decide) h (fun h => ?_) (fun h => ?_)
        · refine r_aload_n rfl rfl ?_
          refine r_getR rfl fl_11_47 rfl h (fun v1 h => ?_)
          refine r_aload_n rfl rfl ?_
          refine r_getR rfl fl_11_10 rfl h (fun v2 h => ?_)
          refine r_getR rfl fl_11_114 rfl h (fun v3 h => ?_)
          refine r_cv_v (vs := [va_rf v3]) rfl ml_11_211 rfl (rOk.of rfl) ⟨Nat.zero_le _, Nat.zero_le _⟩ rfl rfl rfl h s_X4_take (fun _ M1 h => ?_)
          refine r_aload_n rfl rfl ?_
          refine r_aload_n rfl rfl ?_
          refine r_getR rfl fl_11_47 rfl h (fun v4 h => ?_)
          refine r_iload_n rfl rfl ?_
          refine r_cv_i (vs := [va_rf v4, .int i1]) rfl ml_11_197 rfl (rOk.of rfl) ⟨Nat.zero_le _, Nat.zero_le _⟩ rfl rfl rfl h s_X11_byWays (fun v5 M2 h => ?_)
          refine r_istore_n (lo' := [some (va_rf r0), some (.int i1), some (.int i2), some (.int v5)]) rfl rfl rfl rfl ?_
          refine r_iload_n rfl rfl ?_
          refine r_iconst (v := 1) rfl (by decide) ?_
          refine r_ic_ne 56 rfl (by decide) h (fun h => ?_) (fun h => ?_)
          · refine r_iload_n rfl rfl ?_
            refine r_goto 64 rfl (by decide) ?_
            exact r_iret rfl rfl ⟨Nat.le_of_ble_eq_true rfl, Nat.le_of_ble_eq_true rfl⟩ h
          · refine r_aload_n rfl rfl ?_
            refine r_aload_n rfl rfl ?_
            refine r_getR rfl fl_11_47 rfl h (fun v6 h => ?_)
            refine r_cv_i (vs := [va_rf v6]) rfl ml_11_201 rfl (rOk.of rfl) ⟨Nat.zero_le _, Nat.zero_le _⟩ rfl rfl rfl h s_X11_winner (fun v7 M3 h => ?_)
            exact r_iret rfl rfl ⟨Nat.le_of_ble_eq_true rfl, Nat.le_of_ble_eq_true rfl⟩ h
        · refine r_bipush (v := -2) rfl (by decide) ?_
          exact r_iret rfl rfl ⟨Nat.le_of_ble_eq_true rfl, Nat.le_of_ble_eq_true rfl⟩ h
