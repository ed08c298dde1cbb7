/-! walked by program (wip/gen): X11_back X0_hasGoodNo X0_losingNoes X0_settle X0_decide X0_touchEntries -/
def L_X11_back : List (Option (Instr × Nat)) := [some (.aload_n 0, 1), some (.getfield 10, 3), none, none, some (.aload_n 0, 1), some (.getfield 16, 3), none, none, some (.invokevirtual 259, 3), none, none, some (.aload_n 0, 1), some (.getfield 101, 3), none, none, some (.invokevirtual 265, 3), none, none, some (.aload_n 0, 1), some (.invokevirtual 262, 3), none, none, some (.ireturn, 1)]
def Y_X11_back : YM := (⟨RX11, "back", "()I"⟩, prog_1_method_29_code, L_X11_back, 1, some .int)
def f_X11_back (r0 : Option Nat) (M : Mem) : Option (Int32 × Mem) :=
gR M r0 11 2 fun v1 =>
gR M r0 11 3 fun v2 =>
cR M v1 (1, 7) (cA (f_X7_take v1 v2 M) fun _ M1 =>
gR M1 r0 11 10 fun v3 =>
cR M1 v3 (1, 8) (cA (f_X8_forget v3 M1) fun _ M2 =>
cR M2 r0 (1, 11) (cA (f_X11_piecesNow r0 M2) fun v4 M3 =>
some (v4, M3))))
def L_X0_hasGoodNo : List (Option (Instr × Nat)) := [some (.iconst 0, 1), some (.istore_n 3, 1), some (.iload_n 3, 1), some (.bipush 8, 2), none, some (.if_icmp .ge 45, 3), none, none, some (.iload_n 2, 1), some (.iconst 1, 1), some (.iload_n 3, 1), some (.ishl, 1), some (.iconst (-1), 1), some (.ixor, 1), some (.iand, 1), some (.istore 4, 2), none, some (.iload 4, 2), none, some (.iload_n 2, 1), some (.if_icmp .eq 24, 3), none, none, some (.aload_n 0, 1), some (.getfield 20, 3), none, none, some (.iload_n 1, 1), some (.bipush 8, 2), none, some (.imul, 1), some (.iload_n 3, 1), some (.iadd, 1), some (.iaload, 1), some (.iload 4, 2), none, some (.iand, 1), some (.iload 4, 2), none, some (.if_icmp .ne 5, 3), none, none, some (.iconst 1, 1), some (.ireturn, 1), some (.iinc 3 1, 3), none, none, some (.goto (-45), 3), none, none, some (.iconst 0, 1), some (.ireturn, 1)]
def Y_X0_hasGoodNo : YM := (⟨RX0, "hasGoodNo", "(II)Z"⟩, prog_2_method_9_code, L_X0_hasGoodNo, 5, some .boolean)
def b_X0_hasGoodNo_2 (q2 : Option Nat → Int32 → Int32 → Int32 → Mem → Option (Int32 × Mem)) (r0 : Option Nat) (i1 : Int32) (i2 : Int32) (i3 : Int32) (M : Mem) : Option (Int32 × Mem) :=
(if (8 : Int32) ≤ i3 then
tv (0 : Int32) (some ((0 : Int32), M))
else
(if (i2 &&& (((1 : Int32) <<< (i3 &&& 31)) ^^^ (-1 : Int32))) = i2 then
q2 r0 i1 i2 (i3 + (1 : Int32)) M
else
gR M r0 0 4 fun v1 =>
aI M v1 2 ((i1 * (8 : Int32)) + i3) fun v2 =>
(if (v2 &&& (i2 &&& (((1 : Int32) <<< (i3 &&& 31)) ^^^ (-1 : Int32)))) = (i2 &&& (((1 : Int32) <<< (i3 &&& 31)) ^^^ (-1 : Int32))) then
tv (1 : Int32) (some ((1 : Int32), M))
else
q2 r0 i1 i2 (i3 + (1 : Int32)) M)))
def f_X0_hasGoodNo_2 (n : Nat) : Option Nat → Int32 → Int32 → Int32 → Mem → Option (Int32 × Mem) := lpN (fun _ _ _ _ _ => none) (b_X0_hasGoodNo_2 ) n
def f_X0_hasGoodNo (r0 : Option Nat) (i1 : Int32) (i2 : Int32) (M : Mem) : Option (Int32 × Mem) :=
f_X0_hasGoodNo_2 FU r0 i1 i2 (0 : Int32) M
def L_X0_losingNoes : List (Option (Instr × Nat)) := [some (.iconst 0, 1), some (.istore_n 3, 1), some (.iconst 0, 1), some (.istore 4, 2), none, some (.iload 4, 2), none, some (.bipush 8, 2), none, some (.if_icmp .ge 42, 3), none, none, some (.iload_n 2, 1), some (.iconst 1, 1), some (.iload 4, 2), none, some (.ishl, 1), some (.iand, 1), some (.ifCond .eq 27, 3), none, none, some (.aload_n 0, 1), some (.getfield 23, 3), none, none, some (.iload_n 1, 1), some (.bipush 8, 2), none, some (.imul, 1), some (.iload 4, 2), none, some (.iadd, 1), some (.iaload, 1), some (.iload_n 2, 1), some (.iand, 1), some (.ifCond .eq 10, 3), none, none, some (.iload_n 3, 1), some (.iconst 1, 1), some (.iload 4, 2), none, some (.ishl, 1), some (.ior, 1), some (.istore_n 3, 1), some (.iinc 4 1, 3), none, none, some (.goto (-43), 3), none, none, some (.iload_n 3, 1), some (.ireturn, 1)]
def Y_X0_losingNoes : YM := (⟨RX0, "losingNoes", "(II)I"⟩, prog_2_method_8_code, L_X0_losingNoes, 5, some .int)
def b_X0_losingNoes_5 (q5 : Option Nat → Int32 → Int32 → Int32 → Int32 → Mem → Option (Int32 × Mem)) (r0 : Option Nat) (i1 : Int32) (i2 : Int32) (i3 : Int32) (i4 : Int32) (M : Mem) : Option (Int32 × Mem) :=
(if (8 : Int32) ≤ i4 then
some (i3, M)
else
(if (i2 &&& ((1 : Int32) <<< (i4 &&& 31))) = 0 then
q5 r0 i1 i2 i3 (i4 + (1 : Int32)) M
else
gR M r0 0 5 fun v1 =>
aI M v1 2 ((i1 * (8 : Int32)) + i4) fun v2 =>
(if (v2 &&& i2) = 0 then
q5 r0 i1 i2 i3 (i4 + (1 : Int32)) M
else
q5 r0 i1 i2 (i3 ||| ((1 : Int32) <<< (i4 &&& 31))) (i4 + (1 : Int32)) M)))
def f_X0_losingNoes_5 (n : Nat) : Option Nat → Int32 → Int32 → Int32 → Int32 → Mem → Option (Int32 × Mem) := lpN (fun _ _ _ _ _ _ => none) (b_X0_losingNoes_5 ) n
def f_X0_losingNoes (r0 : Option Nat) (i1 : Int32) (i2 : Int32) (M : Mem) : Option (Int32 × Mem) :=
f_X0_losingNoes_5 FU r0 i1 i2 (0 : Int32) (0 : Int32) M
def L_X0_settle : List (Option (Instr × Nat)) := [some (.aload_n 0, 1), some (.getfield 11, 3), none, none, some (.iload_n 1, 1), some (.iload_n 2, 1), some (.iastore, 1), some (.aload_n 0, 1), some (.getfield 17, 3), none, none, some (.iload_n 1, 1), some (.iload_n 3, 1), some (.iastore, 1), some (.aload_n 0, 1), some (.getfield 50, 3), none, none, some (.aload_n 0, 1), some (.getfield 33, 3), none, none, some (.arraylength, 1), some (.if_icmp .ge 23, 3), none, none, some (.aload_n 0, 1), some (.getfield 33, 3), none, none, some (.aload_n 0, 1), some (.getfield 50, 3), none, none, some (.iload_n 1, 1), some (.iastore, 1), some (.aload_n 0, 1), some (.dup, 1), some (.getfield 50, 3), none, none, some (.iconst 1, 1), some (.iadd, 1), some (.putfield 50, 3), none, none, some (.return_, 1)]
def Y_X0_settle : YM := (⟨RX0, "settle", "(III)V"⟩, prog_2_method_4_code, L_X0_settle, 4, none)
def f_X0_settle (r0 : Option Nat) (i1 : Int32) (i2 : Int32) (i3 : Int32) (M : Mem) : Option (Unit × Mem) :=
gR M r0 0 0 fun v1 =>
wI M v1 2 i1 i2 fun M1 =>
gR M1 r0 0 1 fun v2 =>
wI M1 v2 2 i1 i3 fun M2 =>
gI M2 r0 0 11 fun v3 =>
gR M2 r0 0 8 fun v4 =>
aN M2 v4 fun v5 =>
(if v5 ≤ v3 then
some ((), M2)
else
gR M2 r0 0 8 fun v6 =>
gI M2 r0 0 11 fun v7 =>
wI M2 v6 2 v7 i1 fun M3 =>
gI M3 r0 0 11 fun v8 =>
pI M3 r0 0 11 (v8 + (1 : Int32)) fun M4 =>
some ((), M4))
def L_X0_decide : List (Option (Instr × Nat)) := [some (.iconst 1, 1), some (.istore_n 3, 1), some (.iconst 0, 1), some (.istore 4, 2), none, some (.iload 4, 2), none, some (.bipush 56, 2), none, some (.if_icmp .ge 81, 3), none, none, some (.aload_n 0, 1), some (.getfield 46, 3), none, none, some (.getfield 83, 3), none, none, some (.iload 4, 2), none, some (.iaload, 1), some (.istore 5, 2), none, some (.iload 5, 2), none, some (.aload_n 0, 1), some (.getfield 42, 3), none, none, some (.getfield 60, 3), none, none, some (.iload_n 1, 1), some (.iaload, 1), some (.iand, 1), some (.iload 5, 2), none, some (.if_icmp .eq 6, 3), none, none, some (.goto 43, 3), none, none, some (.aload_n 0, 1), some (.iload_n 1, 1), some (.iload 5, 2), none, some (.invokevirtual 86, 3), none, none, some (.iload 5, 2), none, some (.if_icmp .ne 11, 3), none, none, some (.aload_n 0, 1), some (.iload_n 1, 1), some (.iconst 1, 1), some (.iload_n 2, 1), some (.invokevirtual 63, 3), none, none, some (.return_, 1), some (.iload_n 3, 1), some (.ifCond .eq 17, 3), none, none, some (.aload_n 0, 1), some (.iload_n 1, 1), some (.iload 5, 2), none, some (.invokevirtual 90, 3), none, none, some (.ifCond .eq 7, 3), none, none, some (.iconst 1, 1), some (.goto 4, 3), none, none, some (.iconst 0, 1), some (.istore_n 3, 1), some (.iinc 4 1, 3), none, none, some (.goto (-82), 3), none, none, some (.iload_n 3, 1), some (.ifCond .eq 10, 3), none, none, some (.aload_n 0, 1), some (.iload_n 1, 1), some (.iconst 2, 1), some (.iload_n 2, 1), some (.invokevirtual 63, 3), none, none, some (.return_, 1)]
def Y_X0_decide : YM := (⟨RX0, "decide", "(II)V"⟩, prog_2_method_7_code, L_X0_decide, 6, none)
def b_X0_decide_5 (q5 : Option Nat → Int32 → Int32 → Int32 → Int32 → Mem → Option (Unit × Mem)) (r0 : Option Nat) (i1 : Int32) (i2 : Int32) (i3 : Int32) (i4 : Int32) (M : Mem) : Option (Unit × Mem) :=
(if (56 : Int32) ≤ i4 then
(if i3 = 0 then
some ((), M)
else
cR M r0 (1, 0) (cA (f_X0_settle r0 i1 (2 : Int32) i2 M) fun _ M1 =>
some ((), M1)))
else
gR M r0 0 3 fun v1 =>
gR M v1 10 0 fun v2 =>
aI M v2 2 i4 fun v3 =>
gR M r0 0 2 fun v4 =>
gR M v4 8 0 fun v5 =>
aI M v5 2 i1 fun v6 =>
(if (v3 &&& v6) = v3 then
cR M r0 (1, 0) (cA (f_X0_losingNoes r0 i1 v3 M) fun v7 M2 =>
(if v7 = v3 then
cR M2 r0 (1, 0) (cA (f_X0_settle r0 i1 (1 : Int32) i2 M2) fun _ M3 =>
some ((), M3))
else
(if i3 = 0 then
q5 r0 i1 i2 (0 : Int32) (i4 + (1 : Int32)) M2
else
cR M2 r0 (1, 0) (cA (f_X0_hasGoodNo r0 i1 v3 M2) fun v8 M4 =>
(if v8 = 0 then
q5 r0 i1 i2 (0 : Int32) (i4 + (1 : Int32)) M4
else
q5 r0 i1 i2 (1 : Int32) (i4 + (1 : Int32)) M4)))))
else
q5 r0 i1 i2 i3 (i4 + (1 : Int32)) M))
def f_X0_decide_5 (n : Nat) : Option Nat → Int32 → Int32 → Int32 → Int32 → Mem → Option (Unit × Mem) := lpN (fun _ _ _ _ _ _ => none) (b_X0_decide_5 ) n
def f_X0_decide (r0 : Option Nat) (i1 : Int32) (i2 : Int32) (M : Mem) : Option (Unit × Mem) :=
f_X0_decide_5 FU r0 i1 i2 (1 : Int32) (0 : Int32) M
def L_X0_touchEntries : List (Option (Instr × Nat)) := [some (.aload_n 0, 1), some (.getfield 11, 3), none, none, some (.iload_n 1, 1), some (.iaload, 1), some (.iconst 1, 1), some (.if_icmp .ne 10, 3), none, none, some (.aload_n 0, 1), some (.getfield 20, 3), none, none, some (.goto 7, 3), none, none, some (.aload_n 0, 1), some (.getfield 23, 3), none, none, some (.astore_n 3, 1), some (.aload_n 0, 1), some (.getfield 26, 3), none, none, some (.iload_n 1, 1), some (.iaload, 1), some (.istore 4, 2), none, some (.iconst 0, 1), some (.istore 5, 2), none, some (.iload 5, 2), none, some (.aload_n 0, 1), some (.getfield 30, 3), none, none, some (.arraylength, 1), some (.if_icmp .ge 123, 3), none, none, some (.iload 4, 2), none, some (.iconst (-1), 1), some (.if_icmp .eq 117, 3), none, none, some (.iload 4, 2), none, some (.bipush 64, 2), none, some (.idiv, 1), some (.istore 6, 2), none, some (.iload 4, 2), none, some (.bipush 8, 2), none, some (.idiv, 1), some (.bipush 8, 2), none, some (.irem, 1), some (.istore 7, 2), none, some (.aload_n 3, 1), some (.iload 6, 2), none, some (.bipush 8, 2), none, some (.imul, 1), some (.iload 7, 2), none, some (.iadd, 1), some (.dup2, 1), some (.iaload, 1), some (.iconst 1, 1), some (.iload 4, 2), none, some (.bipush 8, 2), none, some (.irem, 1), some (.ishl, 1), some (.ior, 1), some (.iastore, 1), some (.aload_n 0, 1), some (.getfield 11, 3), none, none, some (.iload 6, 2), none, some (.iaload, 1), some (.ifCond .ne 55, 3), none, none, some (.aload_n 0, 1), some (.getfield 39, 3), none, none, some (.iload 6, 2), none, some (.iaload, 1), some (.iload_n 2, 1), some (.if_icmp .eq 44, 3), none, none, some (.aload_n 0, 1), some (.getfield 54, 3), none, none, some (.aload_n 0, 1), some (.getfield 36, 3), none, none, some (.arraylength, 1), some (.if_icmp .ge 32, 3), none, none, some (.aload_n 0, 1), some (.getfield 39, 3), none, none, some (.iload 6, 2), none, some (.iload_n 2, 1), some (.iastore, 1), some (.aload_n 0, 1), some (.getfield 36, 3), none, none, some (.aload_n 0, 1), some (.getfield 54, 3), none, none, some (.iload 6, 2), none, some (.iastore, 1), some (.aload_n 0, 1), some (.dup, 1), some (.getfield 54, 3), none, none, some (.iconst 1, 1), some (.iadd, 1), some (.putfield 54, 3), none, none, some (.aload_n 0, 1), some (.getfield 30, 3), none, none, some (.iload 4, 2), none, some (.iaload, 1), some (.istore 4, 2), none, some (.iinc 5 1, 3), none, none, some (.goto (-127), 3), none, none, some (.return_, 1)]
def Y_X0_touchEntries : YM := (⟨RX0, "touchEntries", "(II)V"⟩, prog_2_method_6_code, L_X0_touchEntries, 8, none)
def b_X0_touchEntries_33 (q33 : Option Nat → Int32 → Option Nat → Int32 → Int32 → Mem → Option (Unit × Mem)) (r0 : Option Nat) (i2 : Int32) (r3 : Option Nat) (i4 : Int32) (i5 : Int32) (M : Mem) : Option (Unit × Mem) :=
gR M r0 0 7 fun v1 =>
aN M v1 fun v2 =>
(if v2 ≤ i5 then
some ((), M)
else
(if i4 = (-1 : Int32) then
some ((), M)
else
nzI (64 : Int32) (
nzI (8 : Int32) (
nzI (8 : Int32) (
aI M r3 2 (((i4 / (64 : Int32)) * (8 : Int32)) + ((i4 / (8 : Int32)) - (i4 / (8 : Int32)) / (8 : Int32) * (8 : Int32))) fun v3 =>
nzI (8 : Int32) (
wI M r3 2 (((i4 / (64 : Int32)) * (8 : Int32)) + ((i4 / (8 : Int32)) - (i4 / (8 : Int32)) / (8 : Int32) * (8 : Int32))) (v3 ||| ((1 : Int32) <<< ((i4 - i4 / (8 : Int32) * (8 : Int32)) &&& 31))) fun M1 =>
gR M1 r0 0 0 fun v4 =>
aI M1 v4 2 (i4 / (64 : Int32)) fun v5 =>
(if v5 = 0 then
gR M1 r0 0 10 fun v6 =>
aI M1 v6 2 (i4 / (64 : Int32)) fun v7 =>
(if v7 = i2 then
gR M1 r0 0 7 fun v8 =>
aI M1 v8 2 i4 fun v9 =>
q33 r0 i2 r3 v9 (i5 + (1 : Int32)) M1
else
gI M1 r0 0 12 fun v10 =>
gR M1 r0 0 9 fun v11 =>
aN M1 v11 fun v12 =>
(if v12 ≤ v10 then
gR M1 r0 0 7 fun v13 =>
aI M1 v13 2 i4 fun v14 =>
q33 r0 i2 r3 v14 (i5 + (1 : Int32)) M1
else
gR M1 r0 0 10 fun v15 =>
wI M1 v15 2 (i4 / (64 : Int32)) i2 fun M2 =>
gR M2 r0 0 9 fun v16 =>
gI M2 r0 0 12 fun v17 =>
wI M2 v16 2 v17 (i4 / (64 : Int32)) fun M3 =>
gI M3 r0 0 12 fun v18 =>
pI M3 r0 0 12 (v18 + (1 : Int32)) fun M4 =>
gR M4 r0 0 7 fun v19 =>
aI M4 v19 2 i4 fun v20 =>
q33 r0 i2 r3 v20 (i5 + (1 : Int32)) M4))
else
gR M1 r0 0 7 fun v21 =>
aI M1 v21 2 i4 fun v22 =>
q33 r0 i2 r3 v22 (i5 + (1 : Int32)) M1)))))))
def f_X0_touchEntries_33 (n : Nat) : Option Nat → Int32 → Option Nat → Int32 → Int32 → Mem → Option (Unit × Mem) := lpN (fun _ _ _ _ _ _ => none) (b_X0_touchEntries_33 ) n
def f_X0_touchEntries (r0 : Option Nat) (i1 : Int32) (i2 : Int32) (M : Mem) : Option (Unit × Mem) :=
gR M r0 0 0 fun v1 =>
aI M v1 2 i1 fun v2 =>
(if v2 = (1 : Int32) then
gR M r0 0 4 fun v3 =>
gR M r0 0 6 fun v4 =>
aI M v4 2 i1 fun v5 =>
f_X0_touchEntries_33 FU r0 i2 v3 v5 (0 : Int32) M
else
gR M r0 0 5 fun v6 =>
gR M r0 0 6 fun v7 =>
aI M v7 2 i1 fun v8 =>
f_X0_touchEntries_33 FU r0 i2 v6 v8 (0 : Int32) M)
theorem fl_11_16 : FLk RX11 16 11 3 true := ⟨_, rfl, by decide, (gw_in 404 (by decide +kernel) (by decide +kernel)), rfl⟩
set_option maxRecDepth 30000 in
theorem ok_X7_take : okY Y_X7_take := ⟨(gw_in 1078 rfl rfl), (gw_in 2 (by decide +kernel) (by decide +kernel)), by decide +kernel, by decide +kernel⟩
theorem ml_11_259 : MLv RX11 259 Y_X7_take 1 := ⟨(gw_in 1075 (by decide +kernel) (by decide +kernel)), (gw_in 1076 (by decide +kernel) (by decide +kernel)), (gw_in 1077 (by decide +kernel) (by decide +kernel)), ok_X7_take, by decide +kernel⟩
theorem fl_11_101 : FLk RX11 101 11 10 true := ⟨_, rfl, by decide, (gw_in 411 (by decide +kernel) (by decide +kernel)), rfl⟩
set_option maxRecDepth 30000 in
theorem ok_X8_forget : okY Y_X8_forget := ⟨(gw_in 1095 rfl rfl), (gw_in 12 (by decide +kernel) (by decide +kernel)), by decide +kernel, by decide +kernel⟩
theorem ml_11_265 : MLv RX11 265 Y_X8_forget 0 := ⟨(gw_in 1092 (by decide +kernel) (by decide +kernel)), (gw_in 1093 (by decide +kernel) (by decide +kernel)), (gw_in 1094 (by decide +kernel) (by decide +kernel)), ok_X8_forget, by decide +kernel⟩
set_option maxRecDepth 30000 in
theorem ok_X11_piecesNow : okY Y_X11_piecesNow := ⟨(gw_in 1086 rfl rfl), (gw_in 1 (by decide +kernel) (by decide +kernel)), by decide +kernel, by decide +kernel⟩
theorem ml_11_262 : MLv RX11 262 Y_X11_piecesNow 0 := ⟨(gw_in 1083 (by decide +kernel) (by decide +kernel)), (gw_in 1085 (by decide +kernel) (by decide +kernel)), (gw_sel (n := 16) 45 (by decide +kernel) (by decide +kernel)), ok_X11_piecesNow, by decide +kernel⟩
theorem fl_0_20 : FLk RX0 20 0 4 true := ⟨_, rfl, by decide, (gw_in 365 (by decide +kernel) (by decide +kernel)), rfl⟩
theorem fl_0_23 : FLk RX0 23 0 5 true := ⟨_, rfl, by decide, (gw_in 366 (by decide +kernel) (by decide +kernel)), rfl⟩
theorem fl_0_11 : FLk RX0 11 0 0 true := ⟨_, rfl, by decide, (gw_in 359 (by decide +kernel) (by decide +kernel)), rfl⟩
theorem fl_0_17 : FLk RX0 17 0 1 true := ⟨_, rfl, by decide, (gw_in 361 (by decide +kernel) (by decide +kernel)), rfl⟩
theorem fl_0_50 : FLk RX0 50 0 11 false := ⟨_, rfl, by decide, (gw_in 372 (by decide +kernel) (by decide +kernel)), rfl⟩
theorem fl_0_33 : FLk RX0 33 0 8 true := ⟨_, rfl, by decide, (gw_in 369 (by decide +kernel) (by decide +kernel)), rfl⟩
set_option maxRecDepth 30000 in
theorem ok_X0_settle : okY Y_X0_settle := ⟨(gw_in 983 rfl rfl), (gw_in 13 (by decide +kernel) (by decide +kernel)), by decide +kernel, by decide +kernel⟩
theorem ml_0_63 : MLv RX0 63 Y_X0_settle 3 := ⟨(gw_in 980 (by decide +kernel) (by decide +kernel)), (gw_in 982 (by decide +kernel) (by decide +kernel)), (gw_sel (n := 13) 35 (by decide +kernel) (by decide +kernel)), ok_X0_settle, by decide +kernel⟩
theorem fl_0_46 : FLk RX0 46 0 3 true := ⟨_, rfl, by decide, (gw_in 364 (by decide +kernel) (by decide +kernel)), rfl⟩
theorem fl_0_83 : FLk RX0 83 10 0 true := ⟨_, rfl, by decide, (gw_in 209 (by decide +kernel) (by decide +kernel)), rfl⟩
theorem fl_0_42 : FLk RX0 42 0 2 true := ⟨_, rfl, by decide, (gw_in 363 (by decide +kernel) (by decide +kernel)), rfl⟩
theorem fl_0_60 : FLk RX0 60 8 0 true := ⟨_, rfl, by decide, (gw_in 311 (by decide +kernel) (by decide +kernel)), rfl⟩
set_option maxRecDepth 30000 in
theorem ok_X0_losingNoes : okY Y_X0_losingNoes := ⟨(gw_in 1003 rfl rfl), (gw_in 13 (by decide +kernel) (by decide +kernel)), by decide +kernel, by decide +kernel⟩
theorem ml_0_86 : MLv RX0 86 Y_X0_losingNoes 2 := ⟨(gw_in 1000 (by decide +kernel) (by decide +kernel)), (gw_in 1001 (by decide +kernel) (by decide +kernel)), (gw_in 1002 (by decide +kernel) (by decide +kernel)), ok_X0_losingNoes, by decide +kernel⟩
set_option maxRecDepth 30000 in
theorem ok_X0_hasGoodNo : okY Y_X0_hasGoodNo := ⟨(gw_in 1007 rfl rfl), (gw_in 13 (by decide +kernel) (by decide +kernel)), by decide +kernel, by decide +kernel⟩
theorem ml_0_90 : MLv RX0 90 Y_X0_hasGoodNo 2 := ⟨(gw_in 1004 (by decide +kernel) (by decide +kernel)), (gw_in 1006 (by decide +kernel) (by decide +kernel)), (gw_sel (n := 13) 39 (by decide +kernel) (by decide +kernel)), ok_X0_hasGoodNo, by decide +kernel⟩
theorem fl_0_30 : FLk RX0 30 0 7 true := ⟨_, rfl, by decide, (gw_in 368 (by decide +kernel) (by decide +kernel)), rfl⟩
theorem fl_0_39 : FLk RX0 39 0 10 true := ⟨_, rfl, by decide, (gw_in 371 (by decide +kernel) (by decide +kernel)), rfl⟩
theorem fl_0_54 : FLk RX0 54 0 12 false := ⟨_, rfl, by decide, (gw_in 373 (by decide +kernel) (by decide +kernel)), rfl⟩
theorem fl_0_36 : FLk RX0 36 0 9 true := ⟨_, rfl, by decide, (gw_in 370 (by decide +kernel) (by decide +kernel)), rfl⟩
theorem fl_0_26 : FLk RX0 26 0 6 true := ⟨_, rfl, by decide, (gw_in 367 (by decide +kernel) (by decide +kernel)), rfl⟩
set_option maxRecDepth 20000 in
theorem dk_X11_back : ∀ pc i, L_X11_back[pc]? = some (some i) → decode prog_1_method_29_code pc = .ok i := dk_of (by decide +kernel)
theorem s_X11_back {d : Nat} {P : Int32 → Mem → Prop} {r0 : Option Nat} {M : Mem} (h : FQ (f_X11_back r0 M) P) : Con Y_X11_back (d + 3) 0 0 [va_rf r0] M (QI P) := by
  refine Con.of [some (va_rf r0)] (by decide +kernel) dk_X11_back (by simp [Y_X11_back, cat_rf, cat_i, cat_l]) (by simp [loE, Y_X11_back, cat_rf, cat_i, cat_l, List.replicate]) ?_
  unfold f_X11_back at h
  refine r_aload_n rfl rfl ?_
  refine r_getR rfl fl_11_10 rfl h (fun v1 h => ?_)
  refine r_aload_n rfl rfl ?_
  refine r_getR rfl fl_11_16 rfl h (fun v2 h => ?_)
  refine r_cv_v (vs := [va_rf v2]) rfl ml_11_259 rfl (rOk.of rfl) ⟨Nat.zero_le _, Nat.zero_le _⟩ rfl rfl rfl h s_X7_take (fun _ M1 h => ?_)
  refine r_aload_n rfl rfl ?_
  refine r_getR rfl fl_11_101 rfl h (fun v3 h => ?_)
  refine r_cv_v (vs := []) rfl ml_11_265 rfl (rOk.of rfl) ⟨Nat.zero_le _, Nat.zero_le _⟩ rfl rfl rfl h s_X8_forget (fun _ M2 h => ?_)
  refine r_aload_n rfl rfl ?_
  refine r_cv_i (vs := []) rfl ml_11_262 rfl (rOk.of rfl) ⟨Nat.zero_le _, Nat.zero_le _⟩ rfl rfl rfl h s_X11_piecesNow (fun v4 M3 h => ?_)
  exact r_iret rfl rfl ⟨Nat.le_of_ble_eq_true rfl, Nat.le_of_ble_eq_true rfl⟩ h
set_option maxRecDepth 20000 in
theorem dk_X0_hasGoodNo : ∀ pc i, L_X0_hasGoodNo[pc]? = some (some i) → decode prog_2_method_9_code pc = .ok i := dk_of (by decide +kernel)
theorem sb_X0_hasGoodNo_2 {d : Nat} {P : Int32 → Mem → Prop} {q2 : Option Nat → Int32 → Int32 → Int32 → Mem → Option (Int32 × Mem)} (hq2 : ∀ (r0 : Option Nat) (i1 : Int32) (i2 : Int32) (i3 : Int32) (M : Mem), FQ (q2 r0 i1 i2 i3 M) P → wp Y_X0_hasGoodNo (rmD d 0 0) (FM (QI P) 0 0) 0 0 2 [some (va_rf r0), some (.int i1), some (.int i2), some (.int i3), none] [] M) (r0 : Option Nat) (i1 : Int32) (i2 : Int32) (i3 : Int32) (M : Mem) (h : FQ (b_X0_hasGoodNo_2 q2 r0 i1 i2 i3 M) P) : wp Y_X0_hasGoodNo (rmD d 0 0) (FM (QI P) 0 0) 0 0 2 [some (va_rf r0), some (.int i1), some (.int i2), some (.int i3), none] [] M := by
  unfold b_X0_hasGoodNo_2 at h
  refine r_iload_n rfl rfl ?_
  refine r_bipush (v := 8) rfl (by decide) ?_
  refine r_ic_ge 50 rfl (by decide) h (fun h => ?_) (fun h => ?_)
  · refine r_iconst (v := 0) rfl (by decide) ?_
    exact r_zret rfl rfl ⟨Nat.le_of_ble_eq_true rfl, Nat.le_of_ble_eq_true rfl⟩ h
  · refine r_iload_n rfl rfl ?_
    refine r_iconst (v := 1) rfl (by decide) ?_
    refine r_iload_n rfl rfl ?_
    refine r_ishl rfl ?_
    refine r_iconst (v := -1) rfl (by decide) ?_
    refine r_ixor rfl ?_
    refine r_iand rfl ?_
    refine r_istore (lo' := [some (va_rf r0), some (.int i1), some (.int i2), some (.int i3), some (.int (i2 &&& (((1 : Int32) <<< (i3 &&& 31)) ^^^ (-1 : Int32))))]) rfl rfl rfl rfl ?_
    refine r_iload rfl rfl ?_
    refine r_iload_n rfl rfl ?_
    refine r_ic_eq 44 rfl (by decide) h (fun h => ?_) (fun h => ?_)
    · refine r_iinc (v := 1) (lo' := [some (va_rf r0), some (.int i1), some (.int i2), some (.int (i3 + (1 : Int32))), some (.int (i2 &&& (((1 : Int32) <<< (i3 &&& 31)) ^^^ (-1 : Int32))))]) rfl rfl rfl (by decide) rfl rfl ?_
      refine r_goto 2 rfl (by decide) ?_
      refine r_msk [true, true, true, true, false] rfl ?_
      exact hq2 _ _ _ _ _ h
    · refine r_aload_n rfl rfl ?_
      refine r_getR rfl fl_0_20 rfl h (fun v1 h => ?_)
      refine r_iload_n rfl rfl ?_
      refine r_bipush (v := 8) rfl (by decide) ?_
      refine r_imul rfl ?_
      refine r_iload_n rfl rfl ?_
      refine r_iadd rfl ?_
      refine r_iald rfl h (fun v2 h => ?_)
      refine r_iload rfl rfl ?_
      refine r_iand rfl ?_
      refine r_iload rfl rfl ?_
      refine r_ic_ne 44 rfl (by decide) h (fun h => ?_) (fun h => ?_)
      · refine r_iconst (v := 1) rfl (by decide) ?_
        exact r_zret rfl rfl ⟨Nat.le_of_ble_eq_true rfl, Nat.le_of_ble_eq_true rfl⟩ h
      · refine r_iinc (v := 1) (lo' := [some (va_rf r0), some (.int i1), some (.int i2), some (.int (i3 + (1 : Int32))), some (.int (i2 &&& (((1 : Int32) <<< (i3 &&& 31)) ^^^ (-1 : Int32))))]) rfl rfl rfl (by decide) rfl rfl ?_
        refine r_goto 2 rfl (by decide) ?_
        refine r_msk [true, true, true, true, false] rfl ?_
        exact hq2 _ _ _ _ _ h
theorem s_X0_hasGoodNo_2 {d : Nat} {P : Int32 → Mem → Prop}   : ∀ (k : Nat) (r0 : Option Nat) (i1 : Int32) (i2 : Int32) (i3 : Int32) (M : Mem), FQ (f_X0_hasGoodNo_2  k r0 i1 i2 i3 M) P → wp Y_X0_hasGoodNo (rmD d 0 0) (FM (QI P) 0 0) 0 0 2 [some (va_rf r0), some (.int i1), some (.int i2), some (.int i3), none] [] M
  | 0, _, _, _, _, _, h => h.no
  | k + 1, r0, i1, i2, i3, M, h => sb_X0_hasGoodNo_2  (s_X0_hasGoodNo_2  k) r0 i1 i2 i3 M h
theorem s_X0_hasGoodNo {d : Nat} {P : Int32 → Mem → Prop} {r0 : Option Nat} {i1 : Int32} {i2 : Int32} {M : Mem} (h : FQ (f_X0_hasGoodNo r0 i1 i2 M) P) : Con Y_X0_hasGoodNo d 0 0 [va_rf r0, .int i1, .int i2] M (QI P) := by
  refine Con.of [some (va_rf r0), some (.int i1), some (.int i2), none, none] (by decide +kernel) dk_X0_hasGoodNo (by simp [Y_X0_hasGoodNo, cat_rf, cat_i, cat_l]) (by simp [loE, Y_X0_hasGoodNo, cat_rf, cat_i, cat_l, List.replicate]) ?_
  unfold f_X0_hasGoodNo at h
  refine r_iconst (v := 0) rfl (by decide) ?_
  refine r_istore_n (lo' := [some (va_rf r0), some (.int i1), some (.int i2), some (.int (0 : Int32)), none]) rfl rfl rfl rfl ?_
  exact s_X0_hasGoodNo_2 FU _ _ _ _ _ h
set_option maxRecDepth 20000 in
theorem dk_X0_losingNoes : ∀ pc i, L_X0_losingNoes[pc]? = some (some i) → decode prog_2_method_8_code pc = .ok i := dk_of (by decide +kernel)
theorem sb_X0_losingNoes_5 {d : Nat} {P : Int32 → Mem → Prop} {q5 : Option Nat → Int32 → Int32 → Int32 → Int32 → Mem → Option (Int32 × Mem)} (hq5 : ∀ (r0 : Option Nat) (i1 : Int32) (i2 : Int32) (i3 : Int32) (i4 : Int32) (M : Mem), FQ (q5 r0 i1 i2 i3 i4 M) P → wp Y_X0_losingNoes (rmD d 0 0) (FM (QI P) 0 0) 0 0 5 [some (va_rf r0), some (.int i1), some (.int i2), some (.int i3), some (.int i4)] [] M) (r0 : Option Nat) (i1 : Int32) (i2 : Int32) (i3 : Int32) (i4 : Int32) (M : Mem) (h : FQ (b_X0_losingNoes_5 q5 r0 i1 i2 i3 i4 M) P) : wp Y_X0_losingNoes (rmD d 0 0) (FM (QI P) 0 0) 0 0 5 [some (va_rf r0), some (.int i1), some (.int i2), some (.int i3), some (.int i4)] [] M := by
  unfold b_X0_losingNoes_5 at h
  refine r_iload rfl rfl ?_
  refine r_bipush (v := 8) rfl (by decide) ?_
  refine r_ic_ge 51 rfl (by decide) h (fun h => ?_) (fun h => ?_)
  · refine r_iload_n rfl rfl ?_
    exact r_iret rfl rfl ⟨Nat.le_of_ble_eq_true rfl, Nat.le_of_ble_eq_true rfl⟩ h
  · refine r_iload_n rfl rfl ?_
    refine r_iconst (v := 1) rfl (by decide) ?_
    refine r_iload rfl rfl ?_
    refine r_ishl rfl ?_
    refine r_iand rfl ?_
    refine r_if_eq 45 rfl (by decide) h (fun h => ?_) (fun h => ?_)
    · refine r_iinc (v := 1) (lo' := [some (va_rf r0), some (.int i1), some (.int i2), some (.int i3), some (.int (i4 + (1 : Int32)))]) rfl rfl rfl (by decide) rfl rfl ?_
      refine r_goto 5 rfl (by decide) ?_
      exact hq5 _ _ _ _ _ _ h
    · refine r_aload_n rfl rfl ?_
      refine r_getR rfl fl_0_23 rfl h (fun v1 h => ?_)
      refine r_iload_n rfl rfl ?_
      refine r_bipush (v := 8) rfl (by decide) ?_
      refine r_imul rfl ?_
      refine r_iload rfl rfl ?_
      refine r_iadd rfl ?_
      refine r_iald rfl h (fun v2 h => ?_)
      refine r_iload_n rfl rfl ?_
      refine r_iand rfl ?_
      refine r_if_eq 45 rfl (by decide) h (fun h => ?_) (fun h => ?_)
      · refine r_iinc (v := 1) (lo' := [some (va_rf r0), some (.int i1), some (.int i2), some (.int i3), some (.int (i4 + (1 : Int32)))]) rfl rfl rfl (by decide) rfl rfl ?_
        refine r_goto 5 rfl (by decide) ?_
        exact hq5 _ _ _ _ _ _ h
      · refine r_iload_n rfl rfl ?_
        refine r_iconst (v := 1) rfl (by decide) ?_
        refine r_iload rfl rfl ?_
        refine r_ishl rfl ?_
        refine r_ior rfl ?_
        refine r_istore_n (lo' := [some (va_rf r0), some (.int i1), some (.int i2), some (.int (i3 ||| ((1 : Int32) <<< (i4 &&& 31)))), some (.int i4)]) rfl rfl rfl rfl ?_
        refine r_iinc (v := 1) (lo' := [some (va_rf r0), some (.int i1), some (.int i2), some (.int (i3 ||| ((1 : Int32) <<< (i4 &&& 31)))), some (.int (i4 + (1 : Int32)))]) rfl rfl rfl (by decide) rfl rfl ?_
        refine r_goto 5 rfl (by decide) ?_
        exact hq5 _ _ _ _ _ _ h
theorem s_X0_losingNoes_5 {d : Nat} {P : Int32 → Mem → Prop}   : ∀ (k : Nat) (r0 : Option Nat) (i1 : Int32) (i2 : Int32) (i3 : Int32) (i4 : Int32) (M : Mem), FQ (f_X0_losingNoes_5  k r0 i1 i2 i3 i4 M) P → wp Y_X0_losingNoes (rmD d 0 0) (FM (QI P) 0 0) 0 0 5 [some (va_rf r0), some (.int i1), some (.int i2), some (.int i3), some (.int i4)] [] M
  | 0, _, _, _, _, _, _, h => h.no
  | k + 1, r0, i1, i2, i3, i4, M, h => sb_X0_losingNoes_5  (s_X0_losingNoes_5  k) r0 i1 i2 i3 i4 M h
theorem s_X0_losingNoes {d : Nat} {P : Int32 → Mem → Prop} {r0 : Option Nat} {i1 : Int32} {i2 : Int32} {M : Mem} (h : FQ (f_X0_losingNoes r0 i1 i2 M) P) : Con Y_X0_losingNoes d 0 0 [va_rf r0, .int i1, .int i2] M (QI P) := by
  refine Con.of [some (va_rf r0), some (.int i1), some (.int i2), none, none] (by decide +kernel) dk_X0_losingNoes (by simp [Y_X0_losingNoes, cat_rf, cat_i, cat_l]) (by simp [loE, Y_X0_losingNoes, cat_rf, cat_i, cat_l, List.replicate]) ?_
  unfold f_X0_losingNoes at h
  refine r_iconst (v := 0) rfl (by decide) ?_
  refine r_istore_n (lo' := [some (va_rf r0), some (.int i1), some (.int i2), some (.int (0 : Int32)), none]) rfl rfl rfl rfl ?_
  refine r_iconst (v := 0) rfl (by decide) ?_
  refine r_istore (lo' := [some (va_rf r0), some (.int i1), some (.int i2), some (.int (0 : Int32)), some (.int (0 : Int32))]) rfl rfl rfl rfl ?_
  exact s_X0_losingNoes_5 FU _ _ _ _ _ _ h
set_option maxRecDepth 20000 in
theorem dk_X0_settle : ∀ pc i, L_X0_settle[pc]? = some (some i) → decode prog_2_method_4_code pc = .ok i := dk_of (by decide +kernel)
theorem s_X0_settle {d : Nat} {P : Unit → Mem → Prop} {r0 : Option Nat} {i1 : Int32} {i2 : Int32} {i3 : Int32} {M : Mem} (h : FQ (f_X0_settle r0 i1 i2 i3 M) P) : Con Y_X0_settle d 0 0 [va_rf r0, .int i1, .int i2, .int i3] M (QV P) := by
  refine Con.of [some (va_rf r0), some (.int i1), some (.int i2), some (.int i3)] (by decide +kernel) dk_X0_settle (by simp [Y_X0_settle, cat_rf, cat_i, cat_l]) (by simp [loE, Y_X0_settle, cat_rf, cat_i, cat_l, List.replicate]) ?_
  unfold f_X0_settle at h
  refine r_aload_n rfl rfl ?_
  refine r_getR rfl fl_0_11 rfl h (fun v1 h => ?_)
  refine r_iload_n rfl rfl ?_
  refine r_iload_n rfl rfl ?_
  refine r_iast rfl h (fun M1 h => ?_)
  refine r_aload_n rfl rfl ?_
  refine r_getR rfl fl_0_17 rfl h (fun v2 h => ?_)
  refine r_iload_n rfl rfl ?_
  refine r_iload_n rfl rfl ?_
  refine r_iast rfl h (fun M2 h => ?_)
  refine r_aload_n rfl rfl ?_
  refine r_getI rfl fl_0_50 rfl h (fun v3 h => ?_)
  refine r_aload_n rfl rfl ?_
  refine r_getR rfl fl_0_33 rfl h (fun v4 h => ?_)
  refine r_alen rfl h (fun v5 h => ?_)
  refine r_ic_ge 46 rfl (by decide) h (fun h => ?_) (fun h => ?_)
  · exact r_vret rfl rfl ⟨Nat.le_of_ble_eq_true rfl, Nat.le_of_ble_eq_true rfl⟩ h
  · refine r_aload_n rfl rfl ?_
    refine r_getR rfl fl_0_33 rfl h (fun v6 h => ?_)
    refine r_aload_n rfl rfl ?_
    refine r_getI rfl fl_0_50 rfl h (fun v7 h => ?_)
    refine r_iload_n rfl rfl ?_
    refine r_iast rfl h (fun M3 h => ?_)
    refine r_aload_n rfl rfl ?_
    refine r_dup rfl (cat_rf _) ?_
    refine r_getI rfl fl_0_50 rfl h (fun v8 h => ?_)
    refine r_iconst (v := 1) rfl (by decide) ?_
    refine r_iadd rfl ?_
    refine r_putI rfl fl_0_50 (fun z => by cases z) rfl h (fun M4 h => ?_)
    exact r_vret rfl rfl ⟨Nat.le_of_ble_eq_true rfl, Nat.le_of_ble_eq_true rfl⟩ h
set_option maxRecDepth 20000 in
theorem dk_X0_decide : ∀ pc i, L_X0_decide[pc]? = some (some i) → decode prog_2_method_7_code pc = .ok i := dk_of (by decide +kernel)
theorem sb_X0_decide_5 {d : Nat} {P : Unit → Mem → Prop} {q5 : Option Nat → Int32 → Int32 → Int32 → Int32 → Mem → Option (Unit × Mem)} (hq5 : ∀ (r0 : Option Nat) (i1 : Int32) (i2 : Int32) (i3 : Int32) (i4 : Int32) (M : Mem), FQ (q5 r0 i1 i2 i3 i4 M) P → wp Y_X0_decide (rmD (d + 1) 0 0) (FM (QV P) 0 0) 0 0 5 [some (va_rf r0), some (.int i1), some (.int i2), some (.int i3), some (.int i4), none] [] M) (r0 : Option Nat) (i1 : Int32) (i2 : Int32) (i3 : Int32) (i4 : Int32) (M : Mem) (h : FQ (b_X0_decide_5 q5 r0 i1 i2 i3 i4 M) P) : wp Y_X0_decide (rmD (d + 1) 0 0) (FM (QV P) 0 0) 0 0 5 [some (va_rf r0), some (.int i1), some (.int i2), some (.int i3), some (.int i4), none] [] M := by
  unfold b_X0_decide_5 at h
  refine r_iload rfl rfl ?_
  refine r_bipush (v := 56) rfl (by decide) ?_
  refine r_ic_ge 90 rfl (by decide) h (fun h => ?_) (fun h => ?_)
  · refine r_iload_n rfl rfl ?_
    refine r_if_eq 101 rfl (by decide) h (fun h => ?_) (fun h => ?_)
    · exact r_vret rfl rfl ⟨Nat.le_of_ble_eq_true rfl, Nat.le_of_ble_eq_true rfl⟩ h
    · refine r_aload_n rfl rfl ?_
      refine r_iload_n rfl rfl ?_
      refine r_iconst (v := 2) rfl (by decide) ?_
      refine r_iload_n rfl rfl ?_
      refine r_cv_v (vs := [.int i1, .int (2 : Int32), .int i2]) rfl ml_0_63 rfl (rOk.of rfl) ⟨Nat.zero_le _, Nat.zero_le _⟩ rfl rfl rfl h s_X0_settle (fun _ M1 h => ?_)
      exact r_vret rfl rfl ⟨Nat.le_of_ble_eq_true rfl, Nat.le_of_ble_eq_true rfl⟩ h
  · refine r_aload_n rfl rfl ?_
    refine r_getR rfl fl_0_46 rfl h (fun v1 h => ?_)
    refine r_getR rfl fl_0_83 rfl h (fun v2 h => ?_)
    refine r_iload rfl rfl ?_
    refine r_iald rfl h (fun v3 h => ?_)
    refine r_istore (lo' := [some (va_rf r0), some (.int i1), some (.int i2), some (.int i3), some (.int i4), some (.int v3)]) rfl rfl rfl rfl ?_
    refine r_iload rfl rfl ?_
    refine r_aload_n rfl rfl ?_
    refine r_getR rfl fl_0_42 rfl h (fun v4 h => ?_)
    refine r_getR rfl fl_0_60 rfl h (fun v5 h => ?_)
    refine r_iload_n rfl rfl ?_
    refine r_iald rfl h (fun v6 h => ?_)
    refine r_iand rfl ?_
    refine r_iload rfl rfl ?_
    refine r_ic_eq 44 rfl (by decide) h (fun h => ?_) (fun h => ?_)
    · refine r_aload_n rfl rfl ?_
      refine r_iload_n rfl rfl ?_
      refine r_iload rfl rfl ?_
      refine r_cv_i (vs := [.int i1, .int v3]) rfl ml_0_86 rfl (rOk.of rfl) ⟨Nat.zero_le _, Nat.zero_le _⟩ rfl rfl rfl h s_X0_losingNoes (fun v7 M2 h => ?_)
      refine r_iload rfl rfl ?_
      refine r_ic_ne 64 rfl (by decide) h (fun h => ?_) (fun h => ?_)
      · refine r_aload_n rfl rfl ?_
        refine r_iload_n rfl rfl ?_
        refine r_iconst (v := 1) rfl (by decide) ?_
        refine r_iload_n rfl rfl ?_
        refine r_cv_v (vs := [.int i1, .int (1 : Int32), .int i2]) rfl ml_0_63 rfl (rOk.of rfl) ⟨Nat.zero_le _, Nat.zero_le _⟩ rfl rfl rfl h s_X0_settle (fun _ M3 h => ?_)
        exact r_vret rfl rfl ⟨Nat.le_of_ble_eq_true rfl, Nat.le_of_ble_eq_true rfl⟩ h
      · refine r_iload_n rfl rfl ?_
        refine r_if_eq 82 rfl (by decide) h (fun h => ?_) (fun h => ?_)
        · refine r_iconst (v := 0) rfl (by decide) ?_
          refine r_istore_n (lo' := [some (va_rf r0), some (.int i1), some (.int i2), some (.int (0 : Int32)), some (.int i4), some (.int v3)]) rfl rfl rfl rfl ?_
          refine r_iinc (v := 1) (lo' := [some (va_rf r0), some (.int i1), some (.int i2), some (.int (0 : Int32)), some (.int (i4 + (1 : Int32))), some (.int v3)]) rfl rfl rfl (by decide) rfl rfl ?_
          refine r_goto 5 rfl (by decide) ?_
          refine r_msk [true, true, true, true, true, false] rfl ?_
          exact hq5 _ _ _ _ _ _ h
        · refine r_aload_n rfl rfl ?_
          refine r_iload_n rfl rfl ?_
          refine r_iload rfl rfl ?_
          refine r_cv_i (vs := [.int i1, .int v3]) rfl ml_0_90 rfl (rOk.of rfl) ⟨Nat.zero_le _, Nat.zero_le _⟩ rfl rfl rfl h s_X0_hasGoodNo (fun v8 M4 h => ?_)
          refine r_if_eq 82 rfl (by decide) h (fun h => ?_) (fun h => ?_)
          · refine r_iconst (v := 0) rfl (by decide) ?_
            refine r_istore_n (lo' := [some (va_rf r0), some (.int i1), some (.int i2), some (.int (0 : Int32)), some (.int i4), some (.int v3)]) rfl rfl rfl rfl ?_
            refine r_iinc (v := 1) (lo' := [some (va_rf r0), some (.int i1), some (.int i2), some (.int (0 : Int32)), some (.int (i4 + (1 : Int32))), some (.int v3)]) rfl rfl rfl (by decide) rfl rfl ?_
            refine r_goto 5 rfl (by decide) ?_
            refine r_msk [true, true, true, true, true, false] rfl ?_
            exact hq5 _ _ _ _ _ _ h
          · refine r_iconst (v := 1) rfl (by decide) ?_
            refine r_goto 83 rfl (by decide) ?_
            refine r_istore_n (lo' := [some (va_rf r0), some (.int i1), some (.int i2), some (.int (1 : Int32)), some (.int i4), some (.int v3)]) rfl rfl rfl rfl ?_
            refine r_iinc (v := 1) (lo' := [some (va_rf r0), some (.int i1), some (.int i2), some (.int (1 : Int32)), some (.int (i4 + (1 : Int32))), some (.int v3)]) rfl rfl rfl (by decide) rfl rfl ?_
            refine r_goto 5 rfl (by decide) ?_
            refine r_msk [true, true, true, true, true, false] rfl ?_
            exact hq5 _ _ _ _ _ _ h
    · refine r_goto 84 rfl (by decide) ?_
      refine r_iinc (v := 1) (lo' := [some (va_rf r0), some (.int i1), some (.int i2), some (.int i3), some (.int (i4 + (1 : Int32))), some (.int v3)]) rfl rfl rfl (by decide) rfl rfl ?_
      refine r_goto 5 rfl (by decide) ?_
      refine r_msk [true, true, true, true, true, false] rfl ?_
      exact hq5 _ _ _ _ _ _ h
theorem s_X0_decide_5 {d : Nat} {P : Unit → Mem → Prop}   : ∀ (k : Nat) (r0 : Option Nat) (i1 : Int32) (i2 : Int32) (i3 : Int32) (i4 : Int32) (M : Mem), FQ (f_X0_decide_5  k r0 i1 i2 i3 i4 M) P → wp Y_X0_decide (rmD (d + 1) 0 0) (FM (QV P) 0 0) 0 0 5 [some (va_rf r0), some (.int i1), some (.int i2), some (.int i3), some (.int i4), none] [] M
  | 0, _, _, _, _, _, _, h => h.no
  | k + 1, r0, i1, i2, i3, i4, M, h => sb_X0_decide_5  (s_X0_decide_5  k) r0 i1 i2 i3 i4 M h
theorem s_X0_decide {d : Nat} {P : Unit → Mem → Prop} {r0 : Option Nat} {i1 : Int32} {i2 : Int32} {M : Mem} (h : FQ (f_X0_decide r0 i1 i2 M) P) : Con Y_X0_decide (d + 1) 0 0 [va_rf r0, .int i1, .int i2] M (QV P) := by
  refine Con.of [some (va_rf r0), some (.int i1), some (.int i2), none, none, none] (by decide +kernel) dk_X0_decide (by simp [Y_X0_decide, cat_rf, cat_i, cat_l]) (by simp [loE, Y_X0_decide, cat_rf, cat_i, cat_l, List.replicate]) ?_
  unfold f_X0_decide at h
  refine r_iconst (v := 1) rfl (by decide) ?_
  refine r_istore_n (lo' := [some (va_rf r0), some (.int i1), some (.int i2), some (.int (1 : Int32)), none, none]) rfl rfl rfl rfl ?_
  refine r_iconst (v := 0) rfl (by decide) ?_
  refine r_istore (lo' := [some (va_rf r0), some (.int i1), some (.int i2), some (.int (1 : Int32)), some (.int (0 : Int32)), none]) rfl rfl rfl rfl ?_
  exact s_X0_decide_5 FU _ _ _ _ _ _ h
set_option maxRecDepth 20000 in
theorem dk_X0_touchEntries : ∀ pc i, L_X0_touchEntries[pc]? = some (some i) → decode prog_2_method_6_code pc = .ok i := dk_of (by decide +kernel)
theorem sb_X0_touchEntries_33 {d : Nat} {P : Unit → Mem → Prop} {q33 : Option Nat → Int32 → Option Nat → Int32 → Int32 → Mem → Option (Unit × Mem)} (hq33 : ∀ (r0 : Option Nat) (i2 : Int32) (r3 : Option Nat) (i4 : Int32) (i5 : Int32) (M : Mem), FQ (q33 r0 i2 r3 i4 i5 M) P → wp Y_X0_touchEntries (rmD d 0 0) (FM (QV P) 0 0) 0 0 33 [some (va_rf r0), none, some (.int i2), some (va_rf r3), some (.int i4), some (.int i5), none, none] [] M) (r0 : Option Nat) (i2 : Int32) (r3 : Option Nat) (i4 : Int32) (i5 : Int32) (M : Mem) (h : FQ (b_X0_touchEntries_33 q33 r0 i2 r3 i4 i5 M) P) : wp Y_X0_touchEntries (rmD d 0 0) (FM (QV P) 0 0) 0 0 33 [some (va_rf r0), none, some (.int i2), some (va_rf r3), some (.int i4), some (.int i5), none, none] [] M := by
  unfold b_X0_touchEntries_33 at h
  refine r_iload rfl rfl ?_
  refine r_aload_n rfl rfl ?_
  refine r_getR rfl fl_0_30 rfl h (fun v1 h => ?_)
  refine r_alen rfl h (fun v2 h => ?_)
  refine r_ic_ge 163 rfl (by decide) h (fun h => ?_) (fun h => ?_)
  · exact r_vret rfl rfl ⟨Nat.le_of_ble_eq_true rfl, Nat.le_of_ble_eq_true rfl⟩ h
  · refine r_iload rfl rfl ?_
    refine r_iconst (v := -1) rfl (by decide) ?_
    refine r_ic_eq 163 rfl (by decide) h (fun h => ?_) (fun h => ?_)
    · exact r_vret rfl rfl ⟨Nat.le_of_ble_eq_true rfl, Nat.le_of_ble_eq_true rfl⟩ h
    · refine r_iload rfl rfl ?_
      refine r_bipush (v := 64) rfl (by decide) ?_
      refine r_idiv rfl h (fun h => ?_)
      refine r_istore (lo' := [some (va_rf r0), none, some (.int i2), some (va_rf r3), some (.int i4), some (.int i5), some (.int (i4 / (64 : Int32))), none]) rfl rfl rfl rfl ?_
      refine r_iload rfl rfl ?_
      refine r_bipush (v := 8) rfl (by decide) ?_
      refine r_idiv rfl h (fun h => ?_)
      refine r_bipush (v := 8) rfl (by decide) ?_
      refine r_irem rfl h (fun h => ?_)
      refine r_istore (lo' := [some (va_rf r0), none, some (.int i2), some (va_rf r3), some (.int i4), some (.int i5), some (.int (i4 / (64 : Int32))), some (.int ((i4 / (8 : Int32)) - (i4 / (8 : Int32)) / (8 : Int32) * (8 : Int32)))]) rfl rfl rfl rfl ?_
      refine r_aload_n rfl rfl ?_
      refine r_iload rfl rfl ?_
      refine r_bipush (v := 8) rfl (by decide) ?_
      refine r_imul rfl ?_
      refine r_iload rfl rfl ?_
      refine r_iadd rfl ?_
      refine r_dup2 rfl rfl (cat_rf _) ?_
      refine r_iald rfl h (fun v3 h => ?_)
      refine r_iconst (v := 1) rfl (by decide) ?_
      refine r_iload rfl rfl ?_
      refine r_bipush (v := 8) rfl (by decide) ?_
      refine r_irem rfl h (fun h => ?_)
      refine r_ishl rfl ?_
      refine r_ior rfl ?_
      refine r_iast rfl h (fun M1 h => ?_)
      refine r_aload_n rfl rfl ?_
      refine r_getR rfl fl_0_11 rfl h (fun v4 h => ?_)
      refine r_iload rfl rfl ?_
      refine r_iald rfl h (fun v5 h => ?_)
      refine r_if_ne 148 rfl (by decide) h (fun h => ?_) (fun h => ?_)
      · refine r_aload_n rfl rfl ?_
        refine r_getR rfl fl_0_39 rfl h (fun v6 h => ?_)
        refine r_iload rfl rfl ?_
        refine r_iald rfl h (fun v7 h => ?_)
        refine r_iload_n rfl rfl ?_
        refine r_ic_eq 148 rfl (by decide) h (fun h => ?_) (fun h => ?_)
        · refine r_aload_n rfl rfl ?_
          refine r_getR rfl fl_0_30 rfl h (fun v8 h => ?_)
          refine r_iload rfl rfl ?_
          refine r_iald rfl h (fun v9 h => ?_)
          refine r_istore (lo' := [some (va_rf r0), none, some (.int i2), some (va_rf r3), some (.int v9), some (.int i5), some (.int (i4 / (64 : Int32))), some (.int ((i4 / (8 : Int32)) - (i4 / (8 : Int32)) / (8 : Int32) * (8 : Int32)))]) rfl rfl (by simp [stOk, cat_rf]) rfl ?_
          refine r_iinc (v := 1) (lo' := [some (va_rf r0), none, some (.int i2), some (va_rf r3), some (.int v9), some (.int (i5 + (1 : Int32))), some (.int (i4 / (64 : Int32))), some (.int ((i4 / (8 : Int32)) - (i4 / (8 : Int32)) / (8 : Int32) * (8 : Int32)))]) rfl rfl rfl (by decide) rfl rfl ?_
          refine r_goto 33 rfl (by decide) ?_
          refine r_msk [true, true, true, true, true, true, false, false] rfl ?_
          exact hq33 _ _ _ _ _ _ h
        · refine r_aload_n rfl rfl ?_
          refine r_getI rfl fl_0_54 rfl h (fun v10 h => ?_)
          refine r_aload_n rfl rfl ?_
          refine r_getR rfl fl_0_36 rfl h (fun v11 h => ?_)
          refine r_alen rfl h (fun v12 h => ?_)
          refine r_ic_ge 148 rfl (by decide) h (fun h => ?_) (fun h => ?_)
          · refine r_aload_n rfl rfl ?_
            refine r_getR rfl fl_0_30 rfl h (fun v13 h => ?_)
            refine r_iload rfl rfl ?_
            refine r_iald rfl h (fun v14 h => ?_)
            refine r_istore (lo' := [some (va_rf r0), none, some (.int i2), some (va_rf r3), some (.int v14), some (.int i5), some (.int (i4 / (64 : Int32))), some (.int ((i4 / (8 : Int32)) - (i4 / (8 : Int32)) / (8 : Int32) * (8 : Int32)))]) rfl rfl (by simp [stOk, cat_rf]) rfl ?_
            refine r_iinc (v := 1) (lo' := [some (va_rf r0), none, some (.int i2), some (va_rf r3), some (.int v14), some (.int (i5 + (1 : Int32))), some (.int (i4 / (64 : Int32))), some (.int ((i4 / (8 : Int32)) - (i4 / (8 : Int32)) / (8 : Int32) * (8 : Int32)))]) rfl rfl rfl (by decide) rfl rfl ?_
            refine r_goto 33 rfl (by decide) ?_
            refine r_msk [true, true, true, true, true, true, false, false] rfl ?_
            exact hq33 _ _ _ _ _ _ h
          · refine r_aload_n rfl rfl ?_
            refine r_getR rfl fl_0_39 rfl h (fun v15 h => ?_)
            refine r_iload rfl rfl ?_
            refine r_iload_n rfl rfl ?_
            refine r_iast rfl h (fun M2 h => ?_)
            refine r_aload_n rfl rfl ?_
            refine r_getR rfl fl_0_36 rfl h (fun v16 h => ?_)
            refine r_aload_n rfl rfl ?_
            refine r_getI rfl fl_0_54 rfl h (fun v17 h => ?_)
            refine r_iload rfl rfl ?_
            refine r_iast rfl h (fun M3 h => ?_)
            refine r_aload_n rfl rfl ?_
            refine r_dup rfl (cat_rf _) ?_
            refine r_getI rfl fl_0_54 rfl h (fun v18 h => ?_)
            refine r_iconst (v := 1) rfl (by decide) ?_
            refine r_iadd rfl ?_
            refine r_putI rfl fl_0_54 (fun z => by cases z) rfl h (fun M4 h => ?_)
            refine r_aload_n rfl rfl ?_
            refine r_getR rfl fl_0_30 rfl h (fun v19 h => ?_)
            refine r_iload rfl rfl ?_
            refine r_iald rfl h (fun v20 h => ?_)
            refine r_istore (lo' := [some (va_rf r0), none, some (.int i2), some (va_rf r3), some (.int v20), some (.int i5), some (.int (i4 / (64 : Int32))), some (.int ((i4 / (8 : Int32)) - (i4 / (8 : Int32)) / (8 : Int32) * (8 : Int32)))]) rfl rfl (by simp [stOk, cat_rf]) rfl ?_
            refine r_iinc (v := 1) (lo' := [some (va_rf r0), none, some (.int i2), some (va_rf r3), some (.int v20), some (.int (i5 + (1 : Int32))), some (.int (i4 / (64 : Int32))), some (.int ((i4 / (8 : Int32)) - (i4 / (8 : Int32)) / (8 : Int32) * (8 : Int32)))]) rfl rfl rfl (by decide) rfl rfl ?_
            refine r_goto 33 rfl (by decide) ?_
            refine r_msk [true, true, true, true, true, true, false, false] rfl ?_
            exact hq33 _ _ _ _ _ _ h
      · refine r_aload_n rfl rfl ?_
        refine r_getR rfl fl_0_30 rfl h (fun v21 h => ?_)
        refine r_iload rfl rfl ?_
        refine r_iald rfl h (fun v22 h => ?_)
        refine r_istore (lo' := [some (va_rf r0), none, some (.int i2), some (va_rf r3), some (.int v22), some (.int i5), some (.int (i4 / (64 : Int32))), some (.int ((i4 / (8 : Int32)) - (i4 / (8 : Int32)) / (8 : Int32) * (8 : Int32)))]) rfl rfl (by simp [stOk, cat_rf]) rfl ?_
        refine r_iinc (v := 1) (lo' := [some (va_rf r0), none, some (.int i2), some (va_rf r3), some (.int v22), some (.int (i5 + (1 : Int32))), some (.int (i4 / (64 : Int32))), some (.int ((i4 / (8 : Int32)) - (i4 / (8 : Int32)) / (8 : Int32) * (8 : Int32)))]) rfl rfl rfl (by decide) rfl rfl ?_
        refine r_goto 33 rfl (by decide) ?_
        refine r_msk [true, true, true, true, true, true, false, false] rfl ?_
        exact hq33 _ _ _ _ _ _ h
theorem s_X0_touchEntries_33 {d : Nat} {P : Unit → Mem → Prop}   : ∀ (k : Nat) (r0 : Option Nat) (i2 : Int32) (r3 : Option Nat) (i4 : Int32) (i5 : Int32) (M : Mem), FQ (f_X0_touchEntries_33  k r0 i2 r3 i4 i5 M) P → wp Y_X0_touchEntries (rmD d 0 0) (FM (QV P) 0 0) 0 0 33 [some (va_rf r0), none, some (.int i2), some (va_rf r3), some (.int i4), some (.int i5), none, none] [] M
  | 0, _, _, _, _, _, _, h => h.no
  | k + 1, r0, i2, r3, i4, i5, M, h => sb_X0_touchEntries_33  (s_X0_touchEntries_33  k) r0 i2 r3 i4 i5 M h
theorem s_X0_touchEntries {d : Nat} {P : Unit → Mem → Prop} {r0 : Option Nat} {i1 : Int32} {i2 : Int32} {M : Mem} (h : FQ (f_X0_touchEntries r0 i1 i2 M) P) : Con Y_X0_touchEntries d 0 0 [va_rf r0, .int i1, .int i2] M (QV P) := by
  refine Con.of [some (va_rf r0), some (.int i1), some (.int i2), none, none, none, none, none] (by decide +kernel) dk_X0_touchEntries (by simp [Y_X0_touchEntries, cat_rf, cat_i, cat_l]) (by simp [loE, Y_X0_touchEntries, cat_rf, cat_i, cat_l, List.replicate]) ?_
  unfold f_X0_touchEntries at h
  refine r_aload_n rfl rfl ?_
  refine r_getR rfl fl_0_11 rfl h (fun v1 h => ?_)
  refine r_iload_n rfl rfl ?_
  refine r_iald rfl h (fun v2 h => ?_)
  refine r_iconst (v := 1) rfl (by decide) ?_
  refine r_ic_ne 17 rfl (by decide) h (fun h => ?_) (fun h => ?_)
  · refine r_aload_n rfl rfl ?_
    refine r_getR rfl fl_0_20 rfl h (fun v3 h => ?_)
    refine r_goto 21 rfl (by decide) ?_
    refine r_astore_n (lo' := [some (va_rf r0), some (.int i1), some (.int i2), some (va_rf v3), none, none, none, none]) rfl rfl rfl rfl ?_
    refine r_aload_n rfl rfl ?_
    refine r_getR rfl fl_0_26 rfl h (fun v4 h => ?_)
    refine r_iload_n rfl rfl ?_
    refine r_iald rfl h (fun v5 h => ?_)
    refine r_istore (lo' := [some (va_rf r0), some (.int i1), some (.int i2), some (va_rf v3), some (.int v5), none, none, none]) rfl rfl (by simp [stOk, cat_rf]) rfl ?_
    refine r_iconst (v := 0) rfl (by decide) ?_
    refine r_istore (lo' := [some (va_rf r0), some (.int i1), some (.int i2), some (va_rf v3), some (.int v5), some (.int (0 : Int32)), none, none]) rfl rfl rfl rfl ?_
    refine r_msk [true, false, true, true, true, true, true, true] rfl ?_
    exact s_X0_touchEntries_33 FU _ _ _ _ _ _ h
  · refine r_aload_n rfl rfl ?_
    refine r_getR rfl fl_0_23 rfl h (fun v6 h => ?_)
    refine r_astore_n (lo' := [some (va_rf r0), some (.int i1), some (.int i2), some (va_rf v6), none, none, none, none]) rfl rfl rfl rfl ?_
    refine r_aload_n rfl rfl ?_
    refine r_getR rfl fl_0_26 rfl h (fun v7 h => ?_)
    refine r_iload_n rfl rfl ?_
    refine r_iald rfl h (fun v8 h => ?_)
    refine r_istore (lo' := [some (va_rf r0), some (.int i1), some (.int i2), some (va_rf v6), some (.int v8), none, none, none]) rfl rfl (by simp [stOk, cat_rf]) rfl ?_
    refine r_iconst (v := 0) rfl (by decide) ?_
    refine r_istore (lo' := [some (va_rf r0), some (.int i1), some (.int i2), some (va_rf v6), some (.int v8), some (.int (0 : Int32)), none, none]) rfl rfl rfl rfl ?_
    refine r_msk [true, false, true, true, true, true, true, true] rfl ?_
    exact s_X0_touchEntries_33 FU _ _ _ _ _ _ h
