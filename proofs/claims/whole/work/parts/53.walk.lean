/-! walked by program (wip/gen): X12_keepsText X12_text X12_turn X12_way X12_won -/
def L_X12_keepsText : List (Option (Instr × Nat)) := [some (.aload_n 0, 1), some (.getfield 27, 3), none, none, some (.iload_n 1, 1), some (.aload_n 0, 1), some (.getfield 303, 3), none, none, some (.iastore, 1), some (.iconst 0, 1), some (.istore_n 2, 1), some (.iload_n 2, 1), some (.aload_n 0, 1), some (.getfield 303, 3), none, none, some (.if_icmp .ge 135, 3), none, none, some (.bipush 20, 2), none, some (.iload_n 1, 1), some (.imul, 1), some (.iload_n 2, 1), some (.iadd, 1), some (.istore_n 3, 1), some (.aload_n 0, 1), some (.getfield 30, 3), none, none, some (.iload_n 3, 1), some (.aload_n 0, 1), some (.getfield 66, 3), none, none, some (.iload_n 2, 1), some (.iaload, 1), some (.iastore, 1), some (.aload_n 0, 1), some (.getfield 33, 3), none, none, some (.iload_n 3, 1), some (.aload_n 0, 1), some (.getfield 69, 3), none, none, some (.iload_n 2, 1), some (.iaload, 1), some (.iconst (-1), 1), some (.if_icmp .ne 7, 3), none, none, some (.iconst (-1), 1), some (.goto 15, 3), none, none, some (.sipush 400, 3), none, none, some (.iload_n 1, 1), some (.imul, 1), some (.aload_n 0, 1), some (.getfield 69, 3), none, none, some (.iload_n 2, 1), some (.iaload, 1), some (.iadd, 1), some (.iastore, 1), some (.aload_n 0, 1), some (.getfield 36, 3), none, none, some (.iload_n 3, 1), some (.aload_n 0, 1), some (.getfield 66, 3), none, none, some (.iload_n 2, 1), some (.iaload, 1), some (.ifCond .ne 14, 3), none, none, some (.aload_n 0, 1), some (.getfield 72, 3), none, none, some (.iconst 4, 1), some (.iload_n 2, 1), some (.imul, 1), some (.iaload, 1), some (.goto 4, 3), none, none, some (.iconst (-1), 1), some (.iastore, 1), some (.aload_n 0, 1), some (.getfield 39, 3), none, none, some (.iload_n 3, 1), some (.aload_n 0, 1), some (.getfield 72, 3), none, none, some (.iconst 4, 1), some (.iload_n 2, 1), some (.imul, 1), some (.iconst 1, 1), some (.iadd, 1), some (.iaload, 1), some (.iastore, 1), some (.aload_n 0, 1), some (.getfield 42, 3), none, none, some (.iload_n 3, 1), some (.aload_n 0, 1), some (.getfield 72, 3), none, none, some (.iconst 4, 1), some (.iload_n 2, 1), some (.imul, 1), some (.iconst 2, 1), some (.iadd, 1), some (.iaload, 1), some (.iastore, 1), some (.aload_n 0, 1), some (.getfield 45, 3), none, none, some (.iload_n 3, 1), some (.aload_n 0, 1), some (.getfield 72, 3), none, none, some (.iconst 4, 1), some (.iload_n 2, 1), some (.imul, 1), some (.iconst 3, 1), some (.iadd, 1), some (.iaload, 1), some (.iastore, 1), some (.iinc 2 1, 3), none, none, some (.goto (-137), 3), none, none, some (.iconst 0, 1), some (.istore_n 2, 1), some (.iload_n 2, 1), some (.aload_n 0, 1), some (.getfield 240, 3), none, none, some (.if_icmp .ge 45, 3), none, none, some (.aload_n 0, 1), some (.getfield 48, 3), none, none, some (.sipush 400, 3), none, none, some (.iload_n 1, 1), some (.imul, 1), some (.iload_n 2, 1), some (.iadd, 1), some (.aload_n 0, 1), some (.getfield 75, 3), none, none, some (.iload_n 2, 1), some (.iaload, 1), some (.iastore, 1), some (.aload_n 0, 1), some (.getfield 51, 3), none, none, some (.sipush 400, 3), none, none, some (.iload_n 1, 1), some (.imul, 1), some (.iload_n 2, 1), some (.iadd, 1), some (.aload_n 0, 1), some (.getfield 78, 3), none, none, some (.iload_n 2, 1), some (.iaload, 1), some (.iastore, 1), some (.iinc 2 1, 3), none, none, some (.goto (-47), 3), none, none, some (.return_, 1)]
def Y_X12_keepsText : YM := (⟨RX12, "keepsText", "(I)V"⟩, prog_14_method_39_code, L_X12_keepsText, 4, none)
def b_X12_keepsText_154 (q154 : Option Nat → Int32 → Int32 → Mem → Option (Unit × Mem)) (r0 : Option Nat) (i1 : Int32) (i2 : Int32) (M : Mem) : Option (Unit × Mem) :=
gI M r0 12 38 fun v1 =>
(if v1 ≤ i2 then
some ((), M)
else
gR M r0 12 16 fun v2 =>
gR M r0 12 39 fun v3 =>
aI M v3 2 i2 fun v4 =>
wI M v2 2 (((400 : Int32) * i1) + i2) v4 fun M1 =>
gR M1 r0 12 17 fun v5 =>
gR M1 r0 12 40 fun v6 =>
aI M1 v6 2 i2 fun v7 =>
wI M1 v5 2 (((400 : Int32) * i1) + i2) v7 fun M2 =>
q154 r0 i1 (i2 + (1 : Int32)) M2)
def f_X12_keepsText_154 (n : Nat) : Option Nat → Int32 → Int32 → Mem → Option (Unit × Mem) := lpN (fun _ _ _ _ => none) (b_X12_keepsText_154 ) n
def f_X12_keepsText_97 (q12 : Option Nat → Int32 → Int32 → Mem → Option (Unit × Mem)) (r0 : Option Nat) (i1 : Int32) (i2 : Int32) (i3 : Int32) (sr0 : Option Nat) (si1 : Int32) (si2 : Int32) (M : Mem) : Option (Unit × Mem) :=
wI M sr0 2 si1 si2 fun M1 =>
gR M1 r0 12 13 fun v1 =>
gR M1 r0 12 37 fun v2 =>
aI M1 v2 2 (((4 : Int32) * i2) + (1 : Int32)) fun v3 =>
wI M1 v1 2 i3 v3 fun M2 =>
gR M2 r0 12 14 fun v4 =>
gR M2 r0 12 37 fun v5 =>
aI M2 v5 2 (((4 : Int32) * i2) + (2 : Int32)) fun v6 =>
wI M2 v4 2 i3 v6 fun M3 =>
gR M3 r0 12 15 fun v7 =>
gR M3 r0 12 37 fun v8 =>
aI M3 v8 2 (((4 : Int32) * i2) + (3 : Int32)) fun v9 =>
wI M3 v7 2 i3 v9 fun M4 =>
q12 r0 i1 (i2 + (1 : Int32)) M4
def f_X12_keepsText_70 (q12 : Option Nat → Int32 → Int32 → Mem → Option (Unit × Mem)) (r0 : Option Nat) (i1 : Int32) (i2 : Int32) (i3 : Int32) (sr0 : Option Nat) (si1 : Int32) (si2 : Int32) (M : Mem) : Option (Unit × Mem) :=
wI M sr0 2 si1 si2 fun M1 =>
gR M1 r0 12 12 fun v1 =>
gR M1 r0 12 35 fun v2 =>
aI M1 v2 2 i2 fun v3 =>
(if v3 = 0 then
gR M1 r0 12 37 fun v4 =>
aI M1 v4 2 ((4 : Int32) * i2) fun v5 =>
f_X12_keepsText_97 q12 r0 i1 i2 i3 v1 i3 v5 M1
else
f_X12_keepsText_97 q12 r0 i1 i2 i3 v1 i3 (-1 : Int32) M1)
def b_X12_keepsText_12 (q12 : Option Nat → Int32 → Int32 → Mem → Option (Unit × Mem)) (r0 : Option Nat) (i1 : Int32) (i2 : Int32) (M : Mem) : Option (Unit × Mem) :=
gI M r0 12 33 fun v1 =>
(if v1 ≤ i2 then
f_X12_keepsText_154 FU r0 i1 (0 : Int32) M
else
gR M r0 12 10 fun v2 =>
gR M r0 12 35 fun v3 =>
aI M v3 2 i2 fun v4 =>
wI M v2 2 (((20 : Int32) * i1) + i2) v4 fun M1 =>
gR M1 r0 12 11 fun v5 =>
gR M1 r0 12 36 fun v6 =>
aI M1 v6 2 i2 fun v7 =>
(if v7 = (-1 : Int32) then
f_X12_keepsText_70 q12 r0 i1 i2 (((20 : Int32) * i1) + i2) v5 (((20 : Int32) * i1) + i2) (-1 : Int32) M1
else
gR M1 r0 12 36 fun v8 =>
aI M1 v8 2 i2 fun v9 =>
f_X12_keepsText_70 q12 r0 i1 i2 (((20 : Int32) * i1) + i2) v5 (((20 : Int32) * i1) + i2) (((400 : Int32) * i1) + v9) M1))
def f_X12_keepsText_12 (n : Nat) : Option Nat → Int32 → Int32 → Mem → Option (Unit × Mem) := lpN (fun _ _ _ _ => none) (b_X12_keepsText_12 ) n
def f_X12_keepsText (r0 : Option Nat) (i1 : Int32) (M : Mem) : Option (Unit × Mem) :=
gR M r0 12 9 fun v1 =>
gI M r0 12 33 fun v2 =>
wI M v1 2 i1 v2 fun M1 =>
f_X12_keepsText_12 FU r0 i1 (0 : Int32) M1
def L_X12_text : List (Option (Instr × Nat)) := [some (.aload_n 0, 1), some (.getfield 7, 3), none, none, some (.iconst 1, 1), some (.iaload, 1), some (.bipush 6, 2), none, some (.if_icmp .ne 5, 3), none, none, some (.iconst (-1), 1), some (.ireturn, 1), some (.aload_n 0, 1), some (.aload_n 0, 1), some (.getfield 162, 3), none, none, some (.putfield 212, 3), none, none, some (.aload_n 0, 1), some (.iconst 0, 1), some (.putfield 162, 3), none, none, some (.aload_n 0, 1), some (.iconst 0, 1), some (.putfield 209, 3), none, none, some (.aload_n 0, 1), some (.iconst 0, 1), some (.putfield 234, 3), none, none, some (.aload_n 0, 1), some (.iconst (-1), 1), some (.putfield 237, 3), none, none, some (.aload_n 0, 1), some (.iconst 0, 1), some (.putfield 246, 3), none, none, some (.aload_n 0, 1), some (.iconst 0, 1), some (.putfield 243, 3), none, none, some (.aload_n 0, 1), some (.iconst 0, 1), some (.putfield 258, 3), none, none, some (.aload_n 0, 1), some (.iconst 4, 1), some (.putfield 278, 3), none, none, some (.aload_n 0, 1), some (.iconst 0, 1), some (.putfield 303, 3), none, none, some (.aload_n 0, 1), some (.iconst 0, 1), some (.putfield 240, 3), none, none, some (.aload_n 0, 1), some (.invokevirtual 255, 3), none, none, some (.aload_n 0, 1), some (.getfield 234, 3), none, none, some (.ifCond .ne 88, 3), none, none, some (.aload_n 0, 1), some (.getfield 278, 3), none, none, some (.iconst 4, 1), some (.if_icmp .ne 10, 3), none, none, some (.aload_n 0, 1), some (.getfield 218, 3), none, none, some (.ifCond .eq 73, 3), none, none, some (.aload_n 0, 1), some (.getfield 278, 3), none, none, some (.tableswitch 59 0 3 #[31, 38, 45, 52], 31), none, none, none, none, none, none, none, none, none, none, none, none, none, none, none, none, none, none, none, none, none, none, none, none, none, none, none, none, none, none, some (.aload_n 0, 1), some (.invokevirtual 322, 3), none, none, some (.goto (-61), 3), none, none, some (.aload_n 0, 1), some (.invokevirtual 325, 3), none, none, some (.goto (-68), 3), none, none, some (.aload_n 0, 1), some (.invokevirtual 328, 3), none, none, some (.goto (-75), 3), none, none, some (.aload_n 0, 1), some (.invokevirtual 331, 3), none, none, some (.goto (-82), 3), none, none, some (.aload_n 0, 1), some (.invokevirtual 334, 3), none, none, some (.goto (-89), 3), none, none, some (.aload_n 0, 1), some (.aload_n 0, 1), some (.getfield 234, 3), none, none, some (.putfield 20, 3), none, none, some (.aload_n 0, 1), some (.aload_n 0, 1), some (.getfield 237, 3), none, none, some (.putfield 24, 3), none, none, some (.aload_n 0, 1), some (.getfield 234, 3), none, none, some (.ifCond .le 5, 3), none, none, some (.iconst (-1), 1), some (.ireturn, 1), some (.aload_n 0, 1), some (.aload_n 0, 1), some (.getfield 7, 3), none, none, some (.iconst 1, 1), some (.iaload, 1), some (.invokevirtual 337, 3), none, none, some (.aload_n 0, 1), some (.getfield 7, 3), none, none, some (.iconst 1, 1), some (.dup2, 1), some (.iaload, 1), some (.iconst 1, 1), some (.iadd, 1), some (.iastore, 1), some (.aload_n 0, 1), some (.getfield 7, 3), none, none, some (.iconst 1, 1), some (.iaload, 1), some (.iconst 1, 1), some (.isub, 1), some (.ireturn, 1)]
def Y_X12_text : YM := (⟨RX12, "text", "()I"⟩, prog_14_method_38_code, L_X12_text, 1, some .int)
def f_X12_text_167  (r0 : Option Nat) (M : Mem) : Option (Int32 × Mem) :=
gI M r0 12 23 fun v1 =>
pI M r0 12 7 v1 fun M1 =>
gI M1 r0 12 24 fun v2 =>
pI M1 r0 12 8 v2 fun M2 =>
gI M2 r0 12 23 fun v3 =>
(if v3 ≤ 0 then
gR M2 r0 12 3 fun v4 =>
aI M2 v4 2 (1 : Int32) fun v5 =>
cR M2 r0 (1, 12) (cA (f_X12_keepsText r0 v5 M2) fun _ M3 =>
gR M3 r0 12 3 fun v6 =>
aI M3 v6 2 (1 : Int32) fun v7 =>
wI M3 v6 2 (1 : Int32) (v7 + (1 : Int32)) fun M4 =>
gR M4 r0 12 3 fun v8 =>
aI M4 v8 2 (1 : Int32) fun v9 =>
some ((v9 - (1 : Int32)), M4))
else
some ((-1 : Int32), M2))
def f_X12_text_97 (q75 : Option Nat → Mem → Option (Int32 × Mem)) (r0 : Option Nat) (M : Mem) : Option (Int32 × Mem) :=
gI M r0 12 32 fun v1 =>
(if v1 = (0 : Int32) then
cR M r0 (1, 12) (cA (f_X12_asks r0 M) fun _ M5 =>
q75 r0 M5)
else
(if v1 = (1 : Int32) then
cR M r0 (1, 12) (cA (f_X12_begins r0 M) fun _ M4 =>
q75 r0 M4)
else
(if v1 = (2 : Int32) then
cR M r0 (1, 12) (cA (f_X12_goesOn r0 M) fun _ M3 =>
q75 r0 M3)
else
(if v1 = (3 : Int32) then
cR M r0 (1, 12) (cA (f_X12_asksOn r0 M) fun _ M2 =>
q75 r0 M2)
else
cR M r0 (1, 12) (cA (f_X12_clause r0 M) fun _ M1 =>
q75 r0 M1)))))
def b_X12_text_75 (q75 : Option Nat → Mem → Option (Int32 × Mem)) (r0 : Option Nat) (M : Mem) : Option (Int32 × Mem) :=
gI M r0 12 23 fun v1 =>
(if v1 = 0 then
gI M r0 12 32 fun v2 =>
(if v2 = (4 : Int32) then
gI M r0 12 21 fun v3 =>
(if v3 = 0 then
f_X12_text_167 r0 M
else
f_X12_text_97 q75 r0 M)
else
f_X12_text_97 q75 r0 M)
else
f_X12_text_167 r0 M)
def f_X12_text_75 (n : Nat) : Option Nat → Mem → Option (Int32 × Mem) := lpN (fun _ _ => none) (b_X12_text_75 ) n
def f_X12_text (r0 : Option Nat) (M : Mem) : Option (Int32 × Mem) :=
gR M r0 12 3 fun v1 =>
aI M v1 2 (1 : Int32) fun v2 =>
(if v2 = (6 : Int32) then
some ((-1 : Int32), M)
else
gI M r0 12 6 fun v3 =>
pI M r0 12 18 v3 fun M1 =>
pI M1 r0 12 6 (0 : Int32) fun M2 =>
pI M2 r0 12 19 (0 : Int32) fun M3 =>
pI M3 r0 12 23 (0 : Int32) fun M4 =>
pI M4 r0 12 24 (-1 : Int32) fun M5 =>
pI M5 r0 12 25 (0 : Int32) fun M6 =>
pI M6 r0 12 26 (0 : Int32) fun M7 =>
pI M7 r0 12 29 (0 : Int32) fun M8 =>
pI M8 r0 12 32 (4 : Int32) fun M9 =>
pI M9 r0 12 33 (0 : Int32) fun M10 =>
pI M10 r0 12 38 (0 : Int32) fun M11 =>
cR M11 r0 (1, 12) (cA (f_X12_next r0 M11) fun _ M12 =>
f_X12_text_75 FU r0 M12))
def L_X12_turn : List (Option (Instr × Nat)) := [some (.iload_n 1, 1), some (.iconst 0, 1), some (.iconst 1, 1), some (.invokestatic 151, 3), none, none, some (.ifCond .ne 5, 3), none, none, some (.iconst 0, 1), some (.ireturn, 1), some (.aload_n 0, 1), some (.getfield 7, 3), none, none, some (.iconst 0, 1), some (.iload_n 1, 1), some (.iastore, 1), some (.iconst 1, 1), some (.ireturn, 1)]
def Y_X12_turn : YM := (⟨RX12, "turn", "(I)Z"⟩, prog_14_method_8_code, L_X12_turn, 2, some .boolean)
def f_X12_turn (r0 : Option Nat) (i1 : Int32) (M : Mem) : Option (Int32 × Mem) :=
cA (f_X12_in i1 (0 : Int32) (1 : Int32) M) fun v1 M1 =>
(if v1 = 0 then
tv (0 : Int32) (some ((0 : Int32), M1))
else
gR M1 r0 12 3 fun v2 =>
wI M1 v2 2 (0 : Int32) i1 fun M2 =>
tv (1 : Int32) (some ((1 : Int32), M2)))
def L_X12_way : List (Option (Instr × Nat)) := [some (.iload_n 1, 1), some (.iconst 0, 1), some (.iconst 1, 1), some (.invokestatic 151, 3), none, none, some (.ifCond .eq 11, 3), none, none, some (.aload_n 0, 1), some (.iload_n 2, 1), some (.invokevirtual 352, 3), none, none, some (.ifCond .ne 5, 3), none, none, some (.iconst 0, 1), some (.ireturn, 1), some (.aload_n 0, 1), some (.getfield 7, 3), none, none, some (.iconst 3, 1), some (.iload_n 1, 1), some (.iadd, 1), some (.iload_n 2, 1), some (.iastore, 1), some (.iconst 1, 1), some (.ireturn, 1)]
def Y_X12_way : YM := (⟨RX12, "way", "(II)Z"⟩, prog_14_method_46_code, L_X12_way, 3, some .boolean)
def f_X12_way (r0 : Option Nat) (i1 : Int32) (i2 : Int32) (M : Mem) : Option (Int32 × Mem) :=
cA (f_X12_in i1 (0 : Int32) (1 : Int32) M) fun v1 M1 =>
(if v1 = 0 then
tv (0 : Int32) (some ((0 : Int32), M1))
else
cR M1 r0 (1, 12) (cA (f_X12_isText r0 i2 M1) fun v2 M2 =>
(if v2 = 0 then
tv (0 : Int32) (some ((0 : Int32), M2))
else
gR M2 r0 12 3 fun v3 =>
wI M2 v3 2 ((3 : Int32) + i1) i2 fun M3 =>
tv (1 : Int32) (some ((1 : Int32), M3)))))
def L_X12_won : List (Option (Instr × Nat)) := [some (.aload_n 0, 1), some (.invokevirtual 410, 3), none, none, some (.aload_n 0, 1), some (.invokevirtual 422, 3), none, none, some (.aload_n 0, 1), some (.invokevirtual 455, 3), none, none, some (.ifCond .eq 10, 3), none, none, some (.aload_n 0, 1), some (.getfield 355, 3), none, none, some (.goto 4, 3), none, none, some (.iconst (-1), 1), some (.ireturn, 1)]
def Y_X12_won : YM := (⟨RX12, "won", "()I"⟩, prog_14_method_78_code, L_X12_won, 1, some .int)
def f_X12_won (r0 : Option Nat) (M : Mem) : Option (Int32 × Mem) :=
cR M r0 (1, 12) (cA (f_X12_laysNow r0 M) fun _ M1 =>
cR M1 r0 (1, 12) (cA (f_X12_laysMoves r0 M1) fun _ M2 =>
cR M2 r0 (1, 12) (cA (f_X12_isOver r0 M2) fun v1 M3 =>
(if v1 = 0 then
some ((-1 : Int32), M3)
else
gI M3 r0 12 45 fun v2 =>
some (v2, M3)))))
set_option maxRecDepth 30000 in
theorem ok_X12_keepsText : okY Y_X12_keepsText := ⟨(gw_in 1491 rfl rfl), (gw_in 14 (by decide +kernel) (by decide +kernel)), by decide +kernel, by decide +kernel⟩
theorem ml_12_337 : MLv RX12 337 Y_X12_keepsText 1 := ⟨(gw_in 1488 (by decide +kernel) (by decide +kernel)), (gw_in 1490 (by decide +kernel) (by decide +kernel)), (gw_sel (n := 70) 71 (by decide +kernel) (by decide +kernel)), ok_X12_keepsText, by decide +kernel⟩
set_option maxRecDepth 30000 in
theorem ok_X12_clause : okY Y_X12_clause := ⟨(gw_in 1471 rfl rfl), (gw_in 14 (by decide +kernel) (by decide +kernel)), by decide +kernel, by decide +kernel⟩
theorem ml_12_334 : MLv RX12 334 Y_X12_clause 0 := ⟨(gw_in 1468 (by decide +kernel) (by decide +kernel)), (gw_in 1470 (by decide +kernel) (by decide +kernel)), (gw_sel (n := 70) 66 (by decide +kernel) (by decide +kernel)), ok_X12_clause, by decide +kernel⟩
set_option maxRecDepth 30000 in
theorem ok_X12_asksOn : okY Y_X12_asksOn := ⟨(gw_in 1467 rfl rfl), (gw_in 14 (by decide +kernel) (by decide +kernel)), by decide +kernel, by decide +kernel⟩
theorem ml_12_331 : MLv RX12 331 Y_X12_asksOn 0 := ⟨(gw_in 1464 (by decide +kernel) (by decide +kernel)), (gw_in 1466 (by decide +kernel) (by decide +kernel)), (gw_sel (n := 70) 65 (by decide +kernel) (by decide +kernel)), ok_X12_asksOn, by decide +kernel⟩
set_option maxRecDepth 30000 in
theorem ok_X12_goesOn : okY Y_X12_goesOn := ⟨(gw_in 1441 rfl rfl), (gw_in 14 (by decide +kernel) (by decide +kernel)), by decide +kernel, by decide +kernel⟩
theorem ml_12_328 : MLv RX12 328 Y_X12_goesOn 0 := ⟨(gw_in 1438 (by decide +kernel) (by decide +kernel)), (gw_in 1440 (by decide +kernel) (by decide +kernel)), (gw_sel (n := 70) 60 (by decide +kernel) (by decide +kernel)), ok_X12_goesOn, by decide +kernel⟩
set_option maxRecDepth 30000 in
theorem ok_X12_begins : okY Y_X12_begins := ⟨(gw_in 1421 rfl rfl), (gw_in 14 (by decide +kernel) (by decide +kernel)), by decide +kernel, by decide +kernel⟩
theorem ml_12_325 : MLv RX12 325 Y_X12_begins 0 := ⟨(gw_in 1418 (by decide +kernel) (by decide +kernel)), (gw_in 1420 (by decide +kernel) (by decide +kernel)), (gw_sel (n := 70) 55 (by decide +kernel) (by decide +kernel)), ok_X12_begins, by decide +kernel⟩
set_option maxRecDepth 30000 in
theorem ok_X12_asks : okY Y_X12_asks := ⟨(gw_in 1401 rfl rfl), (gw_in 14 (by decide +kernel) (by decide +kernel)), by decide +kernel, by decide +kernel⟩
theorem ml_12_322 : MLv RX12 322 Y_X12_asks 0 := ⟨(gw_in 1398 (by decide +kernel) (by decide +kernel)), (gw_in 1400 (by decide +kernel) (by decide +kernel)), (gw_sel (n := 70) 50 (by decide +kernel) (by decide +kernel)), ok_X12_asks, by decide +kernel⟩
set_option maxRecDepth 20000 in
theorem dk_X12_keepsText : ∀ pc i, L_X12_keepsText[pc]? = some (some i) → decode prog_14_method_39_code pc = .ok i := dk_of (by decide +kernel)
theorem sb_X12_keepsText_154 {d : Nat} {P : Unit → Mem → Prop} {q154 : Option Nat → Int32 → Int32 → Mem → Option (Unit × Mem)} (hq154 : ∀ (r0 : Option Nat) (i1 : Int32) (i2 : Int32) (M : Mem), FQ (q154 r0 i1 i2 M) P → wp Y_X12_keepsText (rmD d 0 0) (FM (QV P) 0 0) 0 0 154 [some (va_rf r0), some (.int i1), some (.int i2), none] [] M) (r0 : Option Nat) (i1 : Int32) (i2 : Int32) (M : Mem) (h : FQ (b_X12_keepsText_154 q154 r0 i1 i2 M) P) : wp Y_X12_keepsText (rmD d 0 0) (FM (QV P) 0 0) 0 0 154 [some (va_rf r0), some (.int i1), some (.int i2), none] [] M := by
  unfold b_X12_keepsText_154 at h
  refine r_iload_n rfl rfl ?_
  refine r_aload_n rfl rfl ?_
  refine r_getI rfl fl_12_240 rfl h (fun v1 h => ?_)
  refine r_ic_ge 204 rfl (by decide) h (fun h => ?_) (fun h => ?_)
  · exact r_vret rfl rfl ⟨Nat.le_of_ble_eq_true rfl, Nat.le_of_ble_eq_true rfl⟩ h
  · refine r_aload_n rfl rfl ?_
    refine r_getR rfl fl_12_48 rfl h (fun v2 h => ?_)
    refine r_sipush (v := 400) rfl (by decide) ?_
    refine r_iload_n rfl rfl ?_
    refine r_imul rfl ?_
    refine r_iload_n rfl rfl ?_
    refine r_iadd rfl ?_
    refine r_aload_n rfl rfl ?_
    refine r_getR rfl fl_12_75 rfl h (fun v3 h => ?_)
    refine r_iload_n rfl rfl ?_
    refine r_iald rfl h (fun v4 h => ?_)
    refine r_iast rfl h (fun M1 h => ?_)
    refine r_aload_n rfl rfl ?_
    refine r_getR rfl fl_12_51 rfl h (fun v5 h => ?_)
    refine r_sipush (v := 400) rfl (by decide) ?_
    refine r_iload_n rfl rfl ?_
    refine r_imul rfl ?_
    refine r_iload_n rfl rfl ?_
    refine r_iadd rfl ?_
    refine r_aload_n rfl rfl ?_
    refine r_getR rfl fl_12_78 rfl h (fun v6 h => ?_)
    refine r_iload_n rfl rfl ?_
    refine r_iald rfl h (fun v7 h => ?_)
    refine r_iast rfl h (fun M2 h => ?_)
    refine r_iinc (v := 1) (lo' := [some (va_rf r0), some (.int i1), some (.int (i2 + (1 : Int32))), none]) rfl rfl rfl (by decide) rfl rfl ?_
    refine r_goto 154 rfl (by decide) ?_
    exact hq154 _ _ _ _ h
theorem s_X12_keepsText_154 {d : Nat} {P : Unit → Mem → Prop}   : ∀ (k : Nat) (r0 : Option Nat) (i1 : Int32) (i2 : Int32) (M : Mem), FQ (f_X12_keepsText_154  k r0 i1 i2 M) P → wp Y_X12_keepsText (rmD d 0 0) (FM (QV P) 0 0) 0 0 154 [some (va_rf r0), some (.int i1), some (.int i2), none] [] M
  | 0, _, _, _, _, h => h.no
  | k + 1, r0, i1, i2, M, h => sb_X12_keepsText_154  (s_X12_keepsText_154  k) r0 i1 i2 M h
theorem s_X12_keepsText_97 {d : Nat} {P : Unit → Mem → Prop} {q12 : Option Nat → Int32 → Int32 → Mem → Option (Unit × Mem)} (hq12 : ∀ (r0 : Option Nat) (i1 : Int32) (i2 : Int32) (M : Mem), FQ (q12 r0 i1 i2 M) P → wp Y_X12_keepsText (rmD d 0 0) (FM (QV P) 0 0) 0 0 12 [some (va_rf r0), some (.int i1), some (.int i2), none] [] M) (r0 : Option Nat) (i1 : Int32) (i2 : Int32) (i3 : Int32) (sr0 : Option Nat) (si1 : Int32) (si2 : Int32) (M : Mem) (h : FQ (f_X12_keepsText_97 q12 r0 i1 i2 i3 sr0 si1 si2 M) P) : wp Y_X12_keepsText (rmD d 0 0) (FM (QV P) 0 0) 0 0 97 [some (va_rf r0), some (.int i1), some (.int i2), some (.int i3)] [.int si2, .int si1, va_rf sr0] M := by
  unfold f_X12_keepsText_97 at h
  refine r_iast rfl h (fun M1 h => ?_)
  refine r_aload_n rfl rfl ?_
  refine r_getR rfl fl_12_39 rfl h (fun v1 h => ?_)
  refine r_iload_n rfl rfl ?_
  refine r_aload_n rfl rfl ?_
  refine r_getR rfl fl_12_72 rfl h (fun v2 h => ?_)
  refine r_iconst (v := 4) rfl (by decide) ?_
  refine r_iload_n rfl rfl ?_
  refine r_imul rfl ?_
  refine r_iconst (v := 1) rfl (by decide) ?_
  refine r_iadd rfl ?_
  refine r_iald rfl h (fun v3 h => ?_)
  refine r_iast rfl h (fun M2 h => ?_)
  refine r_aload_n rfl rfl ?_
  refine r_getR rfl fl_12_42 rfl h (fun v4 h => ?_)
  refine r_iload_n rfl rfl ?_
  refine r_aload_n rfl rfl ?_
  refine r_getR rfl fl_12_72 rfl h (fun v5 h => ?_)
  refine r_iconst (v := 4) rfl (by decide) ?_
  refine r_iload_n rfl rfl ?_
  refine r_imul rfl ?_
  refine r_iconst (v := 2) rfl (by decide) ?_
  refine r_iadd rfl ?_
  refine r_iald rfl h (fun v6 h => ?_)
  refine r_iast rfl h (fun M3 h => ?_)
  refine r_aload_n rfl rfl ?_
  refine r_getR rfl fl_12_45 rfl h (fun v7 h => ?_)
  refine r_iload_n rfl rfl ?_
  refine r_aload_n rfl rfl ?_
  refine r_getR rfl fl_12_72 rfl h (fun v8 h => ?_)
  refine r_iconst (v := 4) rfl (by decide) ?_
  refine r_iload_n rfl rfl ?_
  refine r_imul rfl ?_
  refine r_iconst (v := 3) rfl (by decide) ?_
  refine r_iadd rfl ?_
  refine r_iald rfl h (fun v9 h => ?_)
  refine r_iast rfl h (fun M4 h => ?_)
  refine r_iinc (v := 1) (lo' := [some (va_rf r0), some (.int i1), some (.int (i2 + (1 : Int32))), some (.int i3)]) rfl rfl rfl (by decide) rfl rfl ?_
  refine r_goto 12 rfl (by decide) ?_
  refine r_msk [true, true, true, false] rfl ?_
  exact hq12 _ _ _ _ h
theorem s_X12_keepsText_70 {d : Nat} {P : Unit → Mem → Prop} {q12 : Option Nat → Int32 → Int32 → Mem → Option (Unit × Mem)} (hq12 : ∀ (r0 : Option Nat) (i1 : Int32) (i2 : Int32) (M : Mem), FQ (q12 r0 i1 i2 M) P → wp Y_X12_keepsText (rmD d 0 0) (FM (QV P) 0 0) 0 0 12 [some (va_rf r0), some (.int i1), some (.int i2), none] [] M) (r0 : Option Nat) (i1 : Int32) (i2 : Int32) (i3 : Int32) (sr0 : Option Nat) (si1 : Int32) (si2 : Int32) (M : Mem) (h : FQ (f_X12_keepsText_70 q12 r0 i1 i2 i3 sr0 si1 si2 M) P) : wp Y_X12_keepsText (rmD d 0 0) (FM (QV P) 0 0) 0 0 70 [some (va_rf r0), some (.int i1), some (.int i2), some (.int i3)] [.int si2, .int si1, va_rf sr0] M := by
  unfold f_X12_keepsText_70 at h
  refine r_iast rfl h (fun M1 h => ?_)
  refine r_aload_n rfl rfl ?_
  refine r_getR rfl fl_12_36 rfl h (fun v1 h => ?_)
  refine r_iload_n rfl rfl ?_
  refine r_aload_n rfl rfl ?_
  refine r_getR rfl fl_12_66 rfl h (fun v2 h => ?_)
  refine r_iload_n rfl rfl ?_
  refine r_iald rfl h (fun v3 h => ?_)
  refine r_if_ne 96 rfl (by decide) h (fun h => ?_) (fun h => ?_)
  · refine r_aload_n rfl rfl ?_
    refine r_getR rfl fl_12_72 rfl h (fun v4 h => ?_)
    refine r_iconst (v := 4) rfl (by decide) ?_
    refine r_iload_n rfl rfl ?_
    refine r_imul rfl ?_
    refine r_iald rfl h (fun v5 h => ?_)
    refine r_goto 97 rfl (by decide) ?_
    exact s_X12_keepsText_97 hq12 _ _ _ _ _ _ _ _ h
  · refine r_iconst (v := -1) rfl (by decide) ?_
    exact s_X12_keepsText_97 hq12 _ _ _ _ _ _ _ _ h
theorem sb_X12_keepsText_12 {d : Nat} {P : Unit → Mem → Prop} {q12 : Option Nat → Int32 → Int32 → Mem → Option (Unit × Mem)} (hq12 : ∀ (r0 : Option Nat) (i1 : Int32) (i2 : Int32) (M : Mem), FQ (q12 r0 i1 i2 M) P → wp Y_X12_keepsText (rmD d 0 0) (FM (QV P) 0 0) 0 0 12 [some (va_rf r0), some (.int i1), some (.int i2), none] [] M) (r0 : Option Nat) (i1 : Int32) (i2 : Int32) (M : Mem) (h : FQ (b_X12_keepsText_12 q12 r0 i1 i2 M) P) : wp Y_X12_keepsText (rmD d 0 0) (FM (QV P) 0 0) 0 0 12 [some (va_rf r0), some (.int i1), some (.int i2), none] [] M := by
  unfold b_X12_keepsText_12 at h
  refine r_iload_n rfl rfl ?_
  refine r_aload_n rfl rfl ?_
  refine r_getI rfl fl_12_303 rfl h (fun v1 h => ?_)
  refine r_ic_ge 152 rfl (by decide) h (fun h => ?_) (fun h => ?_)
  · refine r_iconst (v := 0) rfl (by decide) ?_
    refine r_istore_n (lo' := [some (va_rf r0), some (.int i1), some (.int (0 : Int32)), none]) rfl rfl rfl rfl ?_
    exact s_X12_keepsText_154 FU _ _ _ _ h
  · refine r_bipush (v := 20) rfl (by decide) ?_
    refine r_iload_n rfl rfl ?_
    refine r_imul rfl ?_
    refine r_iload_n rfl rfl ?_
    refine r_iadd rfl ?_
    refine r_istore_n (lo' := [some (va_rf r0), some (.int i1), some (.int i2), some (.int (((20 : Int32) * i1) + i2))]) rfl rfl rfl rfl ?_
    refine r_aload_n rfl rfl ?_
    refine r_getR rfl fl_12_30 rfl h (fun v2 h => ?_)
    refine r_iload_n rfl rfl ?_
    refine r_aload_n rfl rfl ?_
    refine r_getR rfl fl_12_66 rfl h (fun v3 h => ?_)
    refine r_iload_n rfl rfl ?_
    refine r_iald rfl h (fun v4 h => ?_)
    refine r_iast rfl h (fun M1 h => ?_)
    refine r_aload_n rfl rfl ?_
    refine r_getR rfl fl_12_33 rfl h (fun v5 h => ?_)
    refine r_iload_n rfl rfl ?_
    refine r_aload_n rfl rfl ?_
    refine r_getR rfl fl_12_69 rfl h (fun v6 h => ?_)
    refine r_iload_n rfl rfl ?_
    refine r_iald rfl h (fun v7 h => ?_)
    refine r_iconst (v := -1) rfl (by decide) ?_
    refine r_ic_ne 58 rfl (by decide) h (fun h => ?_) (fun h => ?_)
    · refine r_iconst (v := -1) rfl (by decide) ?_
      refine r_goto 70 rfl (by decide) ?_
      exact s_X12_keepsText_70 hq12 _ _ _ _ _ _ _ _ h
    · refine r_sipush (v := 400) rfl (by decide) ?_
      refine r_iload_n rfl rfl ?_
      refine r_imul rfl ?_
      refine r_aload_n rfl rfl ?_
      refine r_getR rfl fl_12_69 rfl h (fun v8 h => ?_)
      refine r_iload_n rfl rfl ?_
      refine r_iald rfl h (fun v9 h => ?_)
      refine r_iadd rfl ?_
      exact s_X12_keepsText_70 hq12 _ _ _ _ _ _ _ _ h
theorem s_X12_keepsText_12 {d : Nat} {P : Unit → Mem → Prop}   : ∀ (k : Nat) (r0 : Option Nat) (i1 : Int32) (i2 : Int32) (M : Mem), FQ (f_X12_keepsText_12  k r0 i1 i2 M) P → wp Y_X12_keepsText (rmD d 0 0) (FM (QV P) 0 0) 0 0 12 [some (va_rf r0), some (.int i1), some (.int i2), none] [] M
  | 0, _, _, _, _, h => h.no
  | k + 1, r0, i1, i2, M, h => sb_X12_keepsText_12  (s_X12_keepsText_12  k) r0 i1 i2 M h
theorem s_X12_keepsText {d : Nat} {P : Unit → Mem → Prop} {r0 : Option Nat} {i1 : Int32} {M : Mem} (h : FQ (f_X12_keepsText r0 i1 M) P) : Con Y_X12_keepsText d 0 0 [va_rf r0, .int i1] M (QV P) := by
  refine Con.of [some (va_rf r0), some (.int i1), none, none] (by decide +kernel) dk_X12_keepsText (by simp [Y_X12_keepsText, cat_rf, cat_i, cat_l]) (by simp [loE, Y_X12_keepsText, cat_rf, cat_i, cat_l, List.replicate]) ?_
  unfold f_X12_keepsText at h
  refine r_aload_n rfl rfl ?_
  refine r_getR rfl fl_12_27 rfl h (fun v1 h => ?_)
  refine r_iload_n rfl rfl ?_
  refine r_aload_n rfl rfl ?_
  refine r_getI rfl fl_12_303 rfl h (fun v2 h => ?_)
  refine r_iast rfl h (fun M1 h => ?_)
  refine r_iconst (v := 0) rfl (by decide) ?_
  refine r_istore_n (lo' := [some (va_rf r0), some (.int i1), some (.int (0 : Int32)), none]) rfl rfl rfl rfl ?_
  exact s_X12_keepsText_12 FU _ _ _ _ h
set_option maxRecDepth 20000 in
theorem dk_X12_text : ∀ pc i, L_X12_text[pc]? = some (some i) → decode prog_14_method_38_code pc = .ok i := dk_of (by decide +kernel)
theorem s_X12_text_167 {d : Nat} {P : Int32 → Mem → Prop}   (r0 : Option Nat) (M : Mem) (h : FQ (f_X12_text_167  r0 M) P) : wp Y_X12_text (rmD (d + 6) 0 0) (FM (QI P) 0 0) 0 0 167 [some (va_rf r0)] [] M := by
  unfold f_X12_text_167 at h
  refine r_aload_n rfl rfl ?_
  refine r_aload_n rfl rfl ?_
  refine r_getI rfl fl_12_234 rfl h (fun v1 h => ?_)
  refine r_putI rfl fl_12_20 (fun z => by cases z) rfl h (fun M1 h => ?_)
  refine r_aload_n rfl rfl ?_
  refine r_aload_n rfl rfl ?_
  refine r_getI rfl fl_12_237 rfl h (fun v2 h => ?_)
  refine r_putI rfl fl_12_24 (fun z => by cases z) rfl h (fun M2 h => ?_)
  refine r_aload_n rfl rfl ?_
  refine r_getI rfl fl_12_234 rfl h (fun v3 h => ?_)
  refine r_if_le 192 rfl (by decide) h (fun h => ?_) (fun h => ?_)
  · refine r_aload_n rfl rfl ?_
    refine r_aload_n rfl rfl ?_
    refine r_getR rfl fl_12_7 rfl h (fun v4 h => ?_)
    refine r_iconst (v := 1) rfl (by decide) ?_
    refine r_iald rfl h (fun v5 h => ?_)
    refine r_cv_v (vs := [.int v5]) rfl ml_12_337 rfl (rOk.of rfl) ⟨Nat.zero_le _, Nat.zero_le _⟩ rfl rfl rfl h s_X12_keepsText (fun _ M3 h => ?_)
    refine r_aload_n rfl rfl ?_
    refine r_getR rfl fl_12_7 rfl h (fun v6 h => ?_)
    refine r_iconst (v := 1) rfl (by decide) ?_
    refine r_dup2 rfl rfl (cat_rf _) ?_
    refine r_iald rfl h (fun v7 h => ?_)
    refine r_iconst (v := 1) rfl (by decide) ?_
    refine r_iadd rfl ?_
    refine r_iast rfl h (fun M4 h => ?_)
    refine r_aload_n rfl rfl ?_
    refine r_getR rfl fl_12_7 rfl h (fun v8 h => ?_)
    refine r_iconst (v := 1) rfl (by decide) ?_
    refine r_iald rfl h (fun v9 h => ?_)
    refine r_iconst (v := 1) rfl (by decide) ?_
    refine r_isub rfl ?_
    exact r_iret rfl rfl ⟨Nat.le_of_ble_eq_true rfl, Nat.le_of_ble_eq_true rfl⟩ h
  · refine r_iconst (v := -1) rfl (by decide) ?_
    exact r_iret rfl rfl ⟨Nat.le_of_ble_eq_true rfl, Nat.le_of_ble_eq_true rfl⟩ h
theorem s_X12_text_97 {d : Nat} {P : Int32 → Mem → Prop} {q75 : Option Nat → Mem → Option (Int32 × Mem)} (hq75 : ∀ (r0 : Option Nat) (M : Mem), FQ (q75 r0 M) P → wp Y_X12_text (rmD (d + 6) 0 0) (FM (QI P) 0 0) 0 0 75 [some (va_rf r0)] [] M) (r0 : Option Nat) (M : Mem) (h : FQ (f_X12_text_97 q75 r0 M) P) : wp Y_X12_text (rmD (d + 6) 0 0) (FM (QI P) 0 0) 0 0 97 [some (va_rf r0)] [] M := by
  unfold f_X12_text_97 at h
  refine r_aload_n rfl rfl ?_
  refine r_getI rfl fl_12_278 rfl h (fun v1 h => ?_)
  refine r_table (ks := [(0, 132), (1, 139), (2, 146), (3, 153)]) (dt := 160) rfl (by decide) (by decide) ?_
  refine r_swc h (fun h => ?_) (fun h => ?_)
  · refine r_aload_n rfl rfl ?_
    refine r_cv_v (vs := []) rfl ml_12_322 rfl (rOk.of rfl) ⟨Nat.zero_le _, Nat.zero_le _⟩ rfl rfl rfl h s_X12_asks (fun _ M5 h => ?_)
    refine r_goto 75 rfl (by decide) ?_
    exact hq75 _ _ h
  · refine r_swc h (fun h => ?_) (fun h => ?_)
    · refine r_aload_n rfl rfl ?_
      refine r_cv_v (vs := []) rfl ml_12_325 rfl (rOk.of rfl) ⟨Nat.zero_le _, Nat.zero_le _⟩ rfl rfl rfl h s_X12_begins (fun _ M4 h => ?_)
      refine r_goto 75 rfl (by decide) ?_
      exact hq75 _ _ h
    · refine r_swc h (fun h => ?_) (fun h => ?_)
      · refine r_aload_n rfl rfl ?_
        refine r_cv_v (vs := []) rfl ml_12_328 rfl (rOk.of rfl) ⟨Nat.zero_le _, Nat.zero_le _⟩ rfl rfl rfl h s_X12_goesOn (fun _ M3 h => ?_)
        refine r_goto 75 rfl (by decide) ?_
        exact hq75 _ _ h
      · refine r_swc h (fun h => ?_) (fun h => ?_)
        · refine r_aload_n rfl rfl ?_
          refine r_cv_v (vs := []) rfl ml_12_331 rfl (rOk.of rfl) ⟨Nat.zero_le _, Nat.zero_le _⟩ rfl rfl rfl h s_X12_asksOn (fun _ M2 h => ?_)
          refine r_goto 75 rfl (by decide) ?_
          exact hq75 _ _ h
        · refine r_swd ?_
          refine r_aload_n rfl rfl ?_
          refine r_cv_v (vs := []) rfl ml_12_334 rfl (rOk.of rfl) ⟨Nat.zero_le _, Nat.zero_le _⟩ rfl rfl rfl h s_X12_clause (fun _ M1 h => ?_)
          refine r_goto 75 rfl (by decide) ?_
          exact hq75 _ _ h
theorem sb_X12_text_75 {d : Nat} {P : Int32 → Mem → Prop} {q75 : Option Nat → Mem → Option (Int32 × Mem)} (hq75 : ∀ (r0 : Option Nat) (M : Mem), FQ (q75 r0 M) P → wp Y_X12_text (rmD (d + 6) 0 0) (FM (QI P) 0 0) 0 0 75 [some (va_rf r0)] [] M) (r0 : Option Nat) (M : Mem) (h : FQ (b_X12_text_75 q75 r0 M) P) : wp Y_X12_text (rmD (d + 6) 0 0) (FM (QI P) 0 0) 0 0 75 [some (va_rf r0)] [] M := by
  unfold b_X12_text_75 at h
  refine r_aload_n rfl rfl ?_
  refine r_getI rfl fl_12_234 rfl h (fun v1 h => ?_)
  refine r_if_ne 167 rfl (by decide) h (fun h => ?_) (fun h => ?_)
  · refine r_aload_n rfl rfl ?_
    refine r_getI rfl fl_12_278 rfl h (fun v2 h => ?_)
    refine r_iconst (v := 4) rfl (by decide) ?_
    refine r_ic_ne 97 rfl (by decide) h (fun h => ?_) (fun h => ?_)
    · refine r_aload_n rfl rfl ?_
      refine r_getI rfl fl_12_218 rfl h (fun v3 h => ?_)
      refine r_if_eq 167 rfl (by decide) h (fun h => ?_) (fun h => ?_)
      · exact s_X12_text_167 _ _ h
      · exact s_X12_text_97 hq75 _ _ h
    · exact s_X12_text_97 hq75 _ _ h
  · exact s_X12_text_167 _ _ h
theorem s_X12_text_75 {d : Nat} {P : Int32 → Mem → Prop}   : ∀ (k : Nat) (r0 : Option Nat) (M : Mem), FQ (f_X12_text_75  k r0 M) P → wp Y_X12_text (rmD (d + 6) 0 0) (FM (QI P) 0 0) 0 0 75 [some (va_rf r0)] [] M
  | 0, _, _, h => h.no
  | k + 1, r0, M, h => sb_X12_text_75  (s_X12_text_75  k) r0 M h
theorem s_X12_text {d : Nat} {P : Int32 → Mem → Prop} {r0 : Option Nat} {M : Mem} (h : FQ (f_X12_text r0 M) P) : Con Y_X12_text (d + 6) 0 0 [va_rf r0] M (QI P) := by
  refine Con.of [some (va_rf r0)] (by decide +kernel) dk_X12_text (by simp [Y_X12_text, cat_rf, cat_i, cat_l]) (by simp [loE, Y_X12_text, cat_rf, cat_i, cat_l, List.replicate]) ?_
  unfold f_X12_text at h
  refine r_aload_n rfl rfl ?_
  refine r_getR rfl fl_12_7 rfl h (fun v1 h => ?_)
  refine r_iconst (v := 1) rfl (by decide) ?_
  refine r_iald rfl h (fun v2 h => ?_)
  refine r_bipush (v := 6) rfl (by decide) ?_
  refine r_ic_ne 13 rfl (by decide) h (fun h => ?_) (fun h => ?_)
  · refine r_iconst (v := -1) rfl (by decide) ?_
    exact r_iret rfl rfl ⟨Nat.le_of_ble_eq_true rfl, Nat.le_of_ble_eq_true rfl⟩ h
  · refine r_aload_n rfl rfl ?_
    refine r_aload_n rfl rfl ?_
    refine r_getI rfl fl_12_162 rfl h (fun v3 h => ?_)
    refine r_putI rfl fl_12_212 (fun z => by cases z) rfl h (fun M1 h => ?_)
    refine r_aload_n rfl rfl ?_
    refine r_iconst (v := 0) rfl (by decide) ?_
    refine r_putI rfl fl_12_162 (fun z => by cases z) rfl h (fun M2 h => ?_)
    refine r_aload_n rfl rfl ?_
    refine r_iconst (v := 0) rfl (by decide) ?_
    refine r_putI rfl fl_12_209 (fun z => by cases z) rfl h (fun M3 h => ?_)
    refine r_aload_n rfl rfl ?_
    refine r_iconst (v := 0) rfl (by decide) ?_
    refine r_putI rfl fl_12_234 (fun z => by cases z) rfl h (fun M4 h => ?_)
    refine r_aload_n rfl rfl ?_
    refine r_iconst (v := -1) rfl (by decide) ?_
    refine r_putI rfl fl_12_237 (fun z => by cases z) rfl h (fun M5 h => ?_)
    refine r_aload_n rfl rfl ?_
    refine r_iconst (v := 0) rfl (by decide) ?_
    refine r_putI rfl fl_12_246 (fun z => by cases z) rfl h (fun M6 h => ?_)
    refine r_aload_n rfl rfl ?_
    refine r_iconst (v := 0) rfl (by decide) ?_
    refine r_putI rfl fl_12_243 (fun z => by cases z) rfl h (fun M7 h => ?_)
    refine r_aload_n rfl rfl ?_
    refine r_iconst (v := 0) rfl (by decide) ?_
    refine r_putI rfl fl_12_258 (fun z => by cases z) rfl h (fun M8 h => ?_)
    refine r_aload_n rfl rfl ?_
    refine r_iconst (v := 4) rfl (by decide) ?_
    refine r_putI rfl fl_12_278 (fun z => by cases z) rfl h (fun M9 h => ?_)
    refine r_aload_n rfl rfl ?_
    refine r_iconst (v := 0) rfl (by decide) ?_
    refine r_putI rfl fl_12_303 (fun z => by cases z) rfl h (fun M10 h => ?_)
    refine r_aload_n rfl rfl ?_
    refine r_iconst (v := 0) rfl (by decide) ?_
    refine r_putI rfl fl_12_240 (fun z => by cases z) rfl h (fun M11 h => ?_)
    refine r_aload_n rfl rfl ?_
    refine r_cv_v (vs := []) rfl ml_12_255 rfl (rOk.of rfl) ⟨Nat.zero_le _, Nat.zero_le _⟩ rfl rfl rfl h s_X12_next (fun _ M12 h => ?_)
    exact s_X12_text_75 FU _ _ h
set_option maxRecDepth 20000 in
theorem dk_X12_turn : ∀ pc i, L_X12_turn[pc]? = some (some i) → decode prog_14_method_8_code pc = .ok i := dk_of (by decide +kernel)
theorem s_X12_turn {d : Nat} {P : Int32 → Mem → Prop} {r0 : Option Nat} {i1 : Int32} {M : Mem} (h : FQ (f_X12_turn r0 i1 M) P) : Con Y_X12_turn (d + 1) 0 0 [va_rf r0, .int i1] M (QI P) := by
  refine Con.of [some (va_rf r0), some (.int i1)] (by decide +kernel) dk_X12_turn (by simp [Y_X12_turn, cat_rf, cat_i, cat_l]) (by simp [loE, Y_X12_turn, cat_rf, cat_i, cat_l, List.replicate]) ?_
  unfold f_X12_turn at h
  refine r_iload_n rfl rfl ?_
  refine r_iconst (v := 0) rfl (by decide) ?_
  refine r_iconst (v := 1) rfl (by decide) ?_
  refine r_cs_i (vs := [.int i1, .int (0 : Int32), .int (1 : Int32)]) rfl ml_12_151 (rOk.of rfl) ⟨Nat.zero_le _, Nat.zero_le _⟩ rfl rfl rfl h s_X12_in (fun v1 M1 h => ?_)
  refine r_if_ne 11 rfl (by decide) h (fun h => ?_) (fun h => ?_)
  · refine r_iconst (v := 0) rfl (by decide) ?_
    exact r_zret rfl rfl ⟨Nat.le_of_ble_eq_true rfl, Nat.le_of_ble_eq_true rfl⟩ h
  · refine r_aload_n rfl rfl ?_
    refine r_getR rfl fl_12_7 rfl h (fun v2 h => ?_)
    refine r_iconst (v := 0) rfl (by decide) ?_
    refine r_iload_n rfl rfl ?_
    refine r_iast rfl h (fun M2 h => ?_)
    refine r_iconst (v := 1) rfl (by decide) ?_
    exact r_zret rfl rfl ⟨Nat.le_of_ble_eq_true rfl, Nat.le_of_ble_eq_true rfl⟩ h
set_option maxRecDepth 20000 in
theorem dk_X12_way : ∀ pc i, L_X12_way[pc]? = some (some i) → decode prog_14_method_46_code pc = .ok i := dk_of (by decide +kernel)
theorem s_X12_way {d : Nat} {P : Int32 → Mem → Prop} {r0 : Option Nat} {i1 : Int32} {i2 : Int32} {M : Mem} (h : FQ (f_X12_way r0 i1 i2 M) P) : Con Y_X12_way (d + 2) 0 0 [va_rf r0, .int i1, .int i2] M (QI P) := by
  refine Con.of [some (va_rf r0), some (.int i1), some (.int i2)] (by decide +kernel) dk_X12_way (by simp [Y_X12_way, cat_rf, cat_i, cat_l]) (by simp [loE, Y_X12_way, cat_rf, cat_i, cat_l, List.replicate]) ?_
  unfold f_X12_way at h
  refine r_iload_n rfl rfl ?_
  refine r_iconst (v := 0) rfl (by decide) ?_
  refine r_iconst (v := 1) rfl (by decide) ?_
  refine r_cs_i (vs := [.int i1, .int (0 : Int32), .int (1 : Int32)]) rfl ml_12_151 (rOk.of rfl) ⟨Nat.zero_le _, Nat.zero_le _⟩ rfl rfl rfl h s_X12_in (fun v1 M1 h => ?_)
  refine r_if_eq 17 rfl (by decide) h (fun h => ?_) (fun h => ?_)
  · refine r_iconst (v := 0) rfl (by decide) ?_
    exact r_zret rfl rfl ⟨Nat.le_of_ble_eq_true rfl, Nat.le_of_ble_eq_true rfl⟩ h
  · refine r_aload_n rfl rfl ?_
    refine r_iload_n rfl rfl ?_
    refine r_cv_i (vs := [.int i2]) rfl ml_12_352 rfl (rOk.of rfl) ⟨Nat.zero_le _, Nat.zero_le _⟩ rfl rfl rfl h s_X12_isText (fun v2 M2 h => ?_)
    refine r_if_ne 19 rfl (by decide) h (fun h => ?_) (fun h => ?_)
    · refine r_iconst (v := 0) rfl (by decide) ?_
      exact r_zret rfl rfl ⟨Nat.le_of_ble_eq_true rfl, Nat.le_of_ble_eq_true rfl⟩ h
    · refine r_aload_n rfl rfl ?_
      refine r_getR rfl fl_12_7 rfl h (fun v3 h => ?_)
      refine r_iconst (v := 3) rfl (by decide) ?_
      refine r_iload_n rfl rfl ?_
      refine r_iadd rfl ?_
      refine r_iload_n rfl rfl ?_
      refine r_iast rfl h (fun M3 h => ?_)
      refine r_iconst (v := 1) rfl (by decide) ?_
      exact r_zret rfl rfl ⟨Nat.le_of_ble_eq_true rfl, Nat.le_of_ble_eq_true rfl⟩ h
set_option maxRecDepth 20000 in
theorem dk_X12_won : ∀ pc i, L_X12_won[pc]? = some (some i) → decode prog_14_method_78_code pc = .ok i := dk_of (by decide +kernel)
theorem s_X12_won {d : Nat} {P : Int32 → Mem → Prop} {r0 : Option Nat} {M : Mem} (h : FQ (f_X12_won r0 M) P) : Con Y_X12_won (d + 7) 0 0 [va_rf r0] M (QI P) := by
  refine Con.of [some (va_rf r0)] (by decide +kernel) dk_X12_won (by simp [Y_X12_won, cat_rf, cat_i, cat_l]) (by simp [loE, Y_X12_won, cat_rf, cat_i, cat_l, List.replicate]) ?_
  unfold f_X12_won at h
  refine r_aload_n rfl rfl ?_
  refine r_cv_v (vs := []) rfl ml_12_410 rfl (rOk.of rfl) ⟨Nat.zero_le _, Nat.zero_le _⟩ rfl rfl rfl h s_X12_laysNow (fun _ M1 h => ?_)
  refine r_aload_n rfl rfl ?_
  refine r_cv_v (vs := []) rfl ml_12_422 rfl (rOk.of rfl) ⟨Nat.zero_le _, Nat.zero_le _⟩ rfl rfl rfl h s_X12_laysMoves (fun _ M2 h => ?_)
  refine r_aload_n rfl rfl ?_
  refine r_cv_i (vs := []) rfl ml_12_455 rfl (rOk.of rfl) ⟨Nat.zero_le _, Nat.zero_le _⟩ rfl rfl rfl h s_X12_isOver (fun v1 M3 h => ?_)
  refine r_if_eq 22 rfl (by decide) h (fun h => ?_) (fun h => ?_)
  · refine r_iconst (v := -1) rfl (by decide) ?_
    exact r_iret rfl rfl ⟨Nat.le_of_ble_eq_true rfl, Nat.le_of_ble_eq_true rfl⟩ h
  · refine r_aload_n rfl rfl ?_
    refine r_getI rfl fl_12_355 rfl h (fun v2 h => ?_)
    refine r_goto 23 rfl (by decide) ?_
    exact r_iret rfl rfl ⟨Nat.le_of_ble_eq_true rfl, Nat.le_of_ble_eq_true rfl⟩ h
