/-! walked by program (wip/gen): X8_expand X8_explore X8_isFrom X11_solved X4_setCount X11_balanced X11_best X11_isTextOrNone X11_book -/
def L_X8_expand : List (Option (Instr × Nat)) := [some (.aload_n 0, 1), some (.getfield 36, 3), none, none, some (.aload_n 0, 1), some (.getfield 19, 3), none, none, some (.iload_n 1, 1), some (.laload, 1), some (.invokevirtual 83, 3), none, none, some (.aload_n 0, 1), some (.getfield 36, 3), none, none, some (.aload_n 0, 1), some (.getfield 23, 3), none, none, some (.iload_n 1, 1), some (.iaload, 1), some (.putfield 62, 3), none, none, some (.aload_n 0, 1), some (.getfield 42, 3), none, none, some (.aload_n 0, 1), some (.getfield 36, 3), none, none, some (.aload_n 0, 1), some (.getfield 54, 3), none, none, some (.aload_n 0, 1), some (.getfield 36, 3), none, none, some (.invokevirtual 87, 3), none, none, some (.invokevirtual 91, 3), none, none, some (.aload_n 0, 1), some (.getfield 11, 3), none, none, some (.iload_n 1, 1), some (.aload_n 0, 1), some (.getfield 42, 3), none, none, some (.invokevirtual 97, 3), none, none, some (.ifCond .eq 7, 3), none, none, some (.iconst 0, 1), some (.goto 10, 3), none, none, some (.aload_n 0, 1), some (.getfield 42, 3), none, none, some (.getfield 101, 3), none, none, some (.iastore, 1), some (.iconst 0, 1), some (.istore_n 2, 1), some (.iload_n 2, 1), some (.bipush 8, 2), none, some (.if_icmp .ge 140, 3), none, none, some (.aload_n 0, 1), some (.getfield 11, 3), none, none, some (.iload_n 1, 1), some (.iaload, 1), some (.iconst 1, 1), some (.iload_n 2, 1), some (.ishl, 1), some (.iand, 1), some (.ifCond .ne 6, 3), none, none, some (.goto 118, 3), none, none, some (.aload_n 0, 1), some (.getfield 39, 3), none, none, some (.aload_n 0, 1), some (.getfield 36, 3), none, none, some (.invokevirtual 65, 3), none, none, some (.aload_n 0, 1), some (.getfield 42, 3), none, none, some (.aload_n 0, 1), some (.getfield 39, 3), none, none, some (.aload_n 0, 1), some (.getfield 54, 3), none, none, some (.iload_n 2, 1), some (.invokevirtual 104, 3), none, none, some (.aload_n 0, 1), some (.getfield 39, 3), none, none, some (.iconst 1, 1), some (.aload_n 0, 1), some (.getfield 36, 3), none, none, some (.getfield 107, 3), none, none, some (.isub, 1), some (.putfield 107, 3), none, none, some (.iconst 0, 1), some (.istore_n 3, 1), some (.iload_n 3, 1), some (.bipush 8, 2), none, some (.if_icmp .ge 67, 3), none, none, some (.iload_n 3, 1), some (.iload_n 2, 1), some (.if_icmp .eq 56, 3), none, none, some (.aload_n 0, 1), some (.getfield 11, 3), none, none, some (.iload_n 1, 1), some (.iaload, 1), some (.iconst 1, 1), some (.iload_n 3, 1), some (.ishl, 1), some (.iand, 1), some (.ifCond .eq 43, 3), none, none, some (.aload_n 0, 1), some (.aload_n 0, 1), some (.getfield 39, 3), none, none, some (.invokevirtual 58, 3), none, none, some (.aload_n 0, 1), some (.getfield 36, 3), none, none, some (.iload_n 3, 1), some (.iload_n 2, 1), some (.invokevirtual 110, 3), none, none, some (.invokevirtual 75, 3), none, none, some (.istore 4, 2), none, some (.aload_n 0, 1), some (.getfield 16, 3), none, none, some (.iload_n 1, 1), some (.bipush 64, 2), none, some (.imul, 1), some (.iload_n 3, 1), some (.bipush 8, 2), none, some (.imul, 1), some (.iadd, 1), some (.iload_n 2, 1), some (.iadd, 1), some (.iload 4, 2), none, some (.iastore, 1), some (.iinc 3 1, 3), none, none, some (.goto (-67), 3), none, none, some (.iinc 2 1, 3), none, none, some (.goto (-140), 3), none, none, some (.return_, 1)]
def Y_X8_expand : YM := (⟨RX8, "expand", "(I)V"⟩, prog_10_method_5_code, L_X8_expand, 5, none)
def b_X8_expand_144 (q77 : Option Nat → Int32 → Int32 → Mem → Option (Unit × Mem)) (q144 : Option Nat → Int32 → Int32 → Int32 → Mem → Option (Unit × Mem)) (r0 : Option Nat) (i1 : Int32) (i2 : Int32) (i3 : Int32) (M : Mem) : Option (Unit × Mem) :=
(if (8 : Int32) ≤ i3 then
q77 r0 i1 (i2 + (1 : Int32)) M
else
(if i3 = i2 then
q144 r0 i1 i2 (i3 + (1 : Int32)) M
else
gR M r0 8 0 fun v1 =>
aI M v1 2 i1 fun v2 =>
(if (v2 &&& ((1 : Int32) <<< (i3 &&& 31))) = 0 then
q144 r0 i1 i2 (i3 + (1 : Int32)) M
else
gR M r0 8 10 fun v3 =>
cR M v3 (1, 4) (cA (f_X4_boardAndTurn v3 M) fun v4 M1 =>
gR M1 r0 8 9 fun v5 =>
cR M1 v5 (1, 4) (cA (f_X4_heapBehind v5 i3 i2 M1) fun v6 M2 =>
cR M2 r0 (1, 8) (cA (f_X8_numberOf r0 v4 v6 M2) fun v7 M3 =>
gR M3 r0 8 1 fun v8 =>
wI M3 v8 2 (((i1 * (64 : Int32)) + (i3 * (8 : Int32))) + i2) v7 fun M4 =>
q144 r0 i1 i2 (i3 + (1 : Int32)) M4))))))
def f_X8_expand_144 (q77 : Option Nat → Int32 → Int32 → Mem → Option (Unit × Mem)) (n : Nat) : Option Nat → Int32 → Int32 → Int32 → Mem → Option (Unit × Mem) := lpN (fun _ _ _ _ _ => none) (b_X8_expand_144 q77) n
def b_X8_expand_77 (q77 : Option Nat → Int32 → Int32 → Mem → Option (Unit × Mem)) (r0 : Option Nat) (i1 : Int32) (i2 : Int32) (M : Mem) : Option (Unit × Mem) :=
(if (8 : Int32) ≤ i2 then
some ((), M)
else
gR M r0 8 0 fun v1 =>
aI M v1 2 i1 fun v2 =>
(if (v2 &&& ((1 : Int32) <<< (i2 &&& 31))) = 0 then
q77 r0 i1 (i2 + (1 : Int32)) M
else
gR M r0 8 10 fun v3 =>
gR M r0 8 9 fun v4 =>
cR M v3 (1, 4) (cA (f_X4_take v3 v4 M) fun _ M1 =>
gR M1 r0 8 7 fun v5 =>
gR M1 r0 8 10 fun v6 =>
gR M1 r0 8 11 fun v7 =>
cR M1 v5 (1, 2) (cA (f_X2_perform v5 v6 v7 i2 M1) fun _ M2 =>
gR M2 r0 8 10 fun v8 =>
gR M2 r0 8 9 fun v9 =>
gI M2 v9 4 2 fun v10 =>
pI M2 v8 4 2 ((1 : Int32) - v10) fun M3 =>
f_X8_expand_144 q77 FU r0 i1 i2 (0 : Int32) M3))))
def f_X8_expand_77 (n : Nat) : Option Nat → Int32 → Int32 → Mem → Option (Unit × Mem) := lpN (fun _ _ _ _ => none) (b_X8_expand_77 ) n
def f_X8_expand (r0 : Option Nat) (i1 : Int32) (M : Mem) : Option (Unit × Mem) :=
gR M r0 8 9 fun v1 =>
gR M r0 8 4 fun v2 =>
aL M v2 i1 fun v3 =>
cR M v1 (1, 4) (cA (f_X4_setBoardAndTurn v1 v3 M) fun _ M1 =>
gR M1 r0 8 9 fun v4 =>
gR M1 r0 8 5 fun v5 =>
aI M1 v5 2 i1 fun v6 =>
pI M1 v4 4 1 v6 fun M2 =>
gR M2 r0 8 7 fun v7 =>
gR M2 r0 8 9 fun v8 =>
gR M2 r0 8 11 fun v9 =>
gR M2 r0 8 9 fun v10 =>
cR M2 v10 (1, 4) (cA (f_X4_stock v10 M2) fun v11 M3 =>
cR M3 v7 (1, 2) (cA (f_X2_look v7 v8 v9 v11 M3) fun _ M4 =>
gR M4 r0 8 0 fun v12 =>
gR M4 r0 8 7 fun v13 =>
cR M4 v13 (1, 2) (cA (f_X2_tooFew v13 M4) fun v14 M5 =>
(if v14 = 0 then
gR M5 r0 8 7 fun v15 =>
gI M5 v15 2 3 fun v16 =>
wI M5 v12 2 i1 v16 fun M6 =>
f_X8_expand_77 FU r0 i1 (0 : Int32) M6
else
wI M5 v12 2 i1 (0 : Int32) fun M7 =>
f_X8_expand_77 FU r0 i1 (0 : Int32) M7)))))
def L_X8_explore : List (Option (Instr × Nat)) := [some (.aload_n 0, 1), some (.getfield 32, 3), none, none, some (.aload_n 1, 1), some (.invokevirtual 65, 3), none, none, some (.aload_n 0, 1), some (.aload_n 2, 1), some (.putfield 54, 3), none, none, some (.aload_n 0, 1), some (.iconst 0, 1), some (.putfield 46, 3), none, none, some (.aload_n 0, 1), some (.iconst 0, 1), some (.putfield 50, 3), none, none, some (.aload_n 0, 1), some (.getfield 26, 3), none, none, some (.iconst 0, 1), some (.invokestatic 69, 3), none, none, some (.aload_n 0, 1), some (.aload_n 1, 1), some (.invokevirtual 58, 3), none, none, some (.aload_n 1, 1), some (.getfield 62, 3), none, none, some (.invokevirtual 75, 3), none, none, some (.pop, 1), some (.iconst 0, 1), some (.istore_n 3, 1), some (.iload_n 3, 1), some (.sipush 2000, 3), none, none, some (.if_icmp .ge 29, 3), none, none, some (.iload_n 3, 1), some (.aload_n 0, 1), some (.getfield 46, 3), none, none, some (.if_icmp .ge 21, 3), none, none, some (.aload_n 0, 1), some (.getfield 50, 3), none, none, some (.ifCond .ne 14, 3), none, none, some (.aload_n 0, 1), some (.iload_n 3, 1), some (.invokevirtual 79, 3), none, none, some (.iinc 3 1, 3), none, none, some (.goto (-30), 3), none, none, some (.return_, 1)]
def Y_X8_explore : YM := (⟨RX8, "explore", "(LGameOfNoes$Position;LGameOfNoes$Rules;)V"⟩, prog_10_method_4_code, L_X8_explore, 4, none)
def b_X8_explore_46 (q46 : Option Nat → Int32 → Mem → Option (Unit × Mem)) (r0 : Option Nat) (i3 : Int32) (M : Mem) : Option (Unit × Mem) :=
(if (2000 : Int32) ≤ i3 then
some ((), M)
else
gI M r0 8 2 fun v1 =>
(if v1 ≤ i3 then
some ((), M)
else
gI M r0 8 3 fun v2 =>
(if v2 = 0 then
cR M r0 (1, 8) (cA (f_X8_expand r0 i3 M) fun _ M1 =>
q46 r0 (i3 + (1 : Int32)) M1)
else
some ((), M))))
def f_X8_explore_46 (n : Nat) : Option Nat → Int32 → Mem → Option (Unit × Mem) := lpN (fun _ _ _ => none) (b_X8_explore_46 ) n
def f_X8_explore (r0 : Option Nat) (r1 : Option Nat) (r2 : Option Nat) (M : Mem) : Option (Unit × Mem) :=
gR M r0 8 8 fun v1 =>
cR M v1 (1, 4) (cA (f_X4_take v1 r1 M) fun _ M1 =>
pR M1 r0 8 11 r2 fun M2 =>
pI M2 r0 8 2 (0 : Int32) fun M3 =>
tv (0 : Int32) (pI M3 r0 8 3 (0 : Int32) fun M4 =>
gR M4 r0 8 6 fun v2 =>
cA (f_J7_fill_53178 v2 (0 : Int32) M4) fun _ M5 =>
cR M5 r1 (1, 4) (cA (f_X4_boardAndTurn r1 M5) fun v3 M6 =>
gI M6 r1 4 1 fun v4 =>
cR M6 r0 (1, 8) (cA (f_X8_numberOf r0 v3 v4 M6) fun v5 M7 =>
f_X8_explore_46 FU r0 (0 : Int32) M7))))
def L_X8_isFrom : List (Option (Instr × Nat)) := [some (.aload_n 0, 1), some (.getfield 54, 3), none, none, some (.aload_n 2, 1), some (.if_acmp .ne 36, 3), none, none, some (.aload_n 0, 1), some (.getfield 32, 3), none, none, some (.invokevirtual 58, 3), none, none, some (.aload_n 1, 1), some (.invokevirtual 58, 3), none, none, some (.lcmp, 1), some (.ifCond .ne 21, 3), none, none, some (.aload_n 0, 1), some (.getfield 32, 3), none, none, some (.getfield 62, 3), none, none, some (.aload_n 1, 1), some (.getfield 62, 3), none, none, some (.if_icmp .ne 7, 3), none, none, some (.iconst 1, 1), some (.goto 4, 3), none, none, some (.iconst 0, 1), some (.ireturn, 1)]
def Y_X8_isFrom : YM := (⟨RX8, "isFrom", "(LGameOfNoes$Position;LGameOfNoes$Rules;)Z"⟩, prog_10_method_3_code, L_X8_isFrom, 3, some .boolean)
def f_X8_isFrom (r0 : Option Nat) (r1 : Option Nat) (r2 : Option Nat) (M : Mem) : Option (Int32 × Mem) :=
gR M r0 8 11 fun v1 =>
ac v1 r2 (
gR M r0 8 8 fun v2 =>
cR M v2 (1, 4) (cA (f_X4_boardAndTurn v2 M) fun v3 M1 =>
cR M1 r1 (1, 4) (cA (f_X4_boardAndTurn r1 M1) fun v4 M2 =>
(if (lg_cmp v3 v4) = 0 then
gR M2 r0 8 8 fun v5 =>
gI M2 v5 4 1 fun v6 =>
gI M2 r1 4 1 fun v7 =>
(if v6 = v7 then
tv (1 : Int32) (some ((1 : Int32), M2))
else
tv (0 : Int32) (some ((0 : Int32), M2)))
else
tv (0 : Int32) (some ((0 : Int32), M2)))))) (
tv (0 : Int32) (some ((0 : Int32), M)))
def L_X11_solved : List (Option (Instr × Nat)) := [some (.aload_n 0, 1), some (.aload_n 0, 1), some (.getfield 10, 3), none, none, some (.getfield 156, 3), none, none, some (.invokevirtual 162, 3), none, none, some (.astore_n 2, 1), some (.aload_n 0, 1), some (.getfield 101, 3), none, none, some (.aload_n 1, 1), some (.aload_n 2, 1), some (.invokevirtual 277, 3), none, none, some (.ifCond .ne 36, 3), none, none, some (.aload_n 0, 1), some (.getfield 101, 3), none, none, some (.aload_n 1, 1), some (.aload_n 2, 1), some (.invokevirtual 281, 3), none, none, some (.aload_n 0, 1), some (.getfield 101, 3), none, none, some (.getfield 285, 3), none, none, some (.ifCond .ne 17, 3), none, none, some (.aload_n 0, 1), some (.getfield 110, 3), none, none, some (.invokevirtual 289, 3), none, none, some (.aload_n 0, 1), some (.getfield 110, 3), none, none, some (.invokevirtual 292, 3), none, none, some (.aload_n 0, 1), some (.getfield 101, 3), none, none, some (.getfield 285, 3), none, none, some (.ifCond .ne 7, 3), none, none, some (.iconst 1, 1), some (.goto 4, 3), none, none, some (.iconst 0, 1), some (.ireturn, 1)]
def Y_X11_solved : YM := (⟨RX11, "solved", "(LGameOfNoes$Position;)Z"⟩, prog_1_method_36_code, L_X11_solved, 3, some .boolean)
def f_X11_solved (r0 : Option Nat) (r1 : Option Nat) (M : Mem) : Option (Int32 × Mem) :=
gR M r0 11 2 fun v1 =>
gI M v1 7 5 fun v2 =>
cR M r0 (1, 11) (cA (f_X11_rules r0 v2 M) fun v3 M1 =>
gR M1 r0 11 10 fun v4 =>
cR M1 v4 (1, 8) (cA (f_X8_isFrom v4 r1 v3 M1) fun v5 M2 =>
(if v5 = 0 then
gR M2 r0 11 10 fun v6 =>
cR M2 v6 (1, 8) (cA (f_X8_explore v6 r1 v3 M2) fun _ M3 =>
gR M3 r0 11 10 fun v7 =>
gI M3 v7 8 3 fun v8 =>
(if v8 = 0 then
gR M3 r0 11 11 fun v9 =>
cR M3 v9 (1, 0) (cA (f_X0_prepare v9 M3) fun _ M4 =>
gR M4 r0 11 11 fun v10 =>
cR M4 v10 (1, 0) (cA (f_X0_decideAll v10 M4) fun _ M5 =>
gR M5 r0 11 10 fun v11 =>
gI M5 v11 8 3 fun v12 =>
(if v12 = 0 then
tv (1 : Int32) (some ((1 : Int32), M5))
else
tv (0 : Int32) (some ((0 : Int32), M5)))))
else
gR M3 r0 11 10 fun v13 =>
gI M3 v13 8 3 fun v14 =>
(if v14 = 0 then
tv (1 : Int32) (some ((1 : Int32), M3))
else
tv (0 : Int32) (some ((0 : Int32), M3)))))
else
gR M2 r0 11 10 fun v15 =>
gI M2 v15 8 3 fun v16 =>
(if v16 = 0 then
tv (1 : Int32) (some ((1 : Int32), M2))
else
tv (0 : Int32) (some ((0 : Int32), M2))))))
def L_X4_setCount : List (Option (Instr × Nat)) := [some (.aload_n 0, 1), some (.aload_n 0, 1), some (.getfield 15, 3), none, none, some (.iconst 3, 1), some (.iconst 2, 1), some (.iload_n 1, 1), some (.imul, 1), some (.ishl, 1), some (.iconst (-1), 1), some (.ixor, 1), some (.iand, 1), some (.iload_n 2, 1), some (.iconst 2, 1), some (.iload_n 1, 1), some (.imul, 1), some (.ishl, 1), some (.ior, 1), some (.putfield 15, 3), none, none, some (.return_, 1)]
def Y_X4_setCount : YM := (⟨RX4, "setCount", "(II)V"⟩, prog_6_method_10_code, L_X4_setCount, 3, none)
def f_X4_setCount (r0 : Option Nat) (i1 : Int32) (i2 : Int32) (M : Mem) : Option (Unit × Mem) :=
gI M r0 4 1 fun v1 =>
pI M r0 4 1 ((v1 &&& (((3 : Int32) <<< (((2 : Int32) * i1) &&& 31)) ^^^ (-1 : Int32))) ||| (i2 <<< (((2 : Int32) * i1) &&& 31))) fun M1 =>
some ((), M1)
def L_X11_balanced : List (Option (Instr × Nat)) := [some (.iload_n 1, 1), some (.invokestatic 125, 3), none, none, some (.ifCond .ne 5, 3), none, none, some (.iconst (-1), 1), some (.ireturn, 1), some (.aload_n 0, 1), some (.getfield 47, 3), none, none, some (.aload_n 0, 1), some (.getfield 10, 3), none, none, some (.getfield 114, 3), none, none, some (.invokevirtual 211, 3), none, none, some (.iconst 0, 1), some (.istore_n 2, 1), some (.iload_n 2, 1), some (.iconst 3, 1), some (.if_icmp .gt 43, 3), none, none, some (.aload_n 0, 1), some (.getfield 47, 3), none, none, some (.iload_n 1, 1), some (.iload_n 2, 1), some (.invokevirtual 128, 3), none, none, some (.aload_n 0, 1), some (.aload_n 0, 1), some (.getfield 47, 3), none, none, some (.invokevirtual 230, 3), none, none, some (.ifCond .eq 17, 3), none, none, some (.aload_n 0, 1), some (.getfield 110, 3), none, none, some (.getfield 237, 3), none, none, some (.iconst 0, 1), some (.iaload, 1), some (.ifCond .ne 5, 3), none, none, some (.iload_n 2, 1), some (.ireturn, 1), some (.iinc 2 1, 3), none, none, some (.goto (-42), 3), none, none, some (.iconst (-1), 1), some (.ireturn, 1)]
def Y_X11_balanced : YM := (⟨RX11, "balanced", "(I)I"⟩, prog_1_method_27_code, L_X11_balanced, 3, some .int)
def b_X11_balanced_25 (q25 : Option Nat → Int32 → Int32 → Mem → Option (Int32 × Mem)) (r0 : Option Nat) (i1 : Int32) (i2 : Int32) (M : Mem) : Option (Int32 × Mem) :=
(if (3 : Int32) < i2 then
some ((-1 : Int32), M)
else
gR M r0 11 12 fun v1 =>
cR M v1 (1, 4) (cA (f_X4_setCount v1 i1 i2 M) fun _ M1 =>
gR M1 r0 11 12 fun v2 =>
cR M1 r0 (1, 11) (cA (f_X11_solved r0 v2 M1) fun v3 M2 =>
(if v3 = 0 then
q25 r0 i1 (i2 + (1 : Int32)) M2
else
gR M2 r0 11 11 fun v4 =>
gR M2 v4 0 0 fun v5 =>
aI M2 v5 2 (0 : Int32) fun v6 =>
(if v6 = 0 then
some (i2, M2)
else
q25 r0 i1 (i2 + (1 : Int32)) M2)))))
def f_X11_balanced_25 (n : Nat) : Option Nat → Int32 → Int32 → Mem → Option (Int32 × Mem) := lpN (fun _ _ _ _ => none) (b_X11_balanced_25 ) n
def f_X11_balanced (r0 : Option Nat) (i1 : Int32) (M : Mem) : Option (Int32 × Mem) :=
cA (f_X11_isMove i1 M) fun v1 M1 =>
(if v1 = 0 then
some ((-1 : Int32), M1)
else
gR M1 r0 11 12 fun v2 =>
gR M1 r0 11 2 fun v3 =>
gR M1 v3 7 0 fun v4 =>
cR M1 v2 (1, 4) (cA (f_X4_take v2 v4 M1) fun _ M2 =>
f_X11_balanced_25 FU r0 i1 (0 : Int32) M2))
def L_X11_best : List (Option (Instr × Nat)) := [some (.iload_n 1, 1), some (.ifCond .lt 8, 3), none, none, some (.iload_n 1, 1), some (.iconst 1, 1), some (.if_icmp .le 6, 3), none, none, some (.bipush (-3), 2), none, some (.ireturn, 1), some (.aload_n 0, 1), some (.aload_n 0, 1), some (.getfield 10, 3), none, none, some (.getfield 114, 3), none, none, some (.invokevirtual 230, 3), none, none, some (.ifCond .ne 6, 3), none, none, some (.bipush (-2), 2), none, some (.ireturn, 1), some (.iload_n 1, 1), some (.ifCond .ne 15, 3), none, none, some (.aload_n 0, 1), some (.getfield 110, 3), none, none, some (.getfield 237, 3), none, none, some (.iconst 0, 1), some (.iaload, 1), some (.goto 12, 3), none, none, some (.aload_n 0, 1), some (.getfield 110, 3), none, none, some (.getfield 240, 3), none, none, some (.iconst 0, 1), some (.iaload, 1), some (.ireturn, 1)]
def Y_X11_best : YM := (⟨RX11, "best", "(I)I"⟩, prog_1_method_22_code, L_X11_best, 2, some .int)
def f_X11_best (r0 : Option Nat) (i1 : Int32) (M : Mem) : Option (Int32 × Mem) :=
(if i1 < 0 then
some ((-3 : Int32), M)
else
(if i1 ≤ (1 : Int32) then
gR M r0 11 2 fun v1 =>
gR M v1 7 0 fun v2 =>
cR M r0 (1, 11) (cA (f_X11_solved r0 v2 M) fun v3 M1 =>
(if v3 = 0 then
some ((-2 : Int32), M1)
else
(if i1 = 0 then
gR M1 r0 11 11 fun v4 =>
gR M1 v4 0 0 fun v5 =>
aI M1 v5 2 (0 : Int32) fun v6 =>
some (v6, M1)
else
gR M1 r0 11 11 fun v7 =>
gR M1 v7 0 1 fun v8 =>
aI M1 v8 2 (0 : Int32) fun v9 =>
some (v9, M1))))
else
some ((-3 : Int32), M)))
def L_X11_isTextOrNone : List (Option (Instr × Nat)) := [some (.iload_n 1, 1), some (.iconst (-1), 1), some (.if_icmp .lt 18, 3), none, none, some (.iload_n 1, 1), some (.aload_n 0, 1), some (.getfield 10, 3), none, none, some (.getfield 141, 3), none, none, some (.if_icmp .ge 7, 3), none, none, some (.iconst 1, 1), some (.goto 4, 3), none, none, some (.iconst 0, 1), some (.ireturn, 1)]
def Y_X11_isTextOrNone : YM := (⟨RX11, "isTextOrNone", "(I)Z"⟩, prog_1_method_33_code, L_X11_isTextOrNone, 2, some .boolean)
def f_X11_isTextOrNone (r0 : Option Nat) (i1 : Int32) (M : Mem) : Option (Int32 × Mem) :=
(if i1 < (-1 : Int32) then
tv (0 : Int32) (some ((0 : Int32), M))
else
gR M r0 11 2 fun v1 =>
gI M v1 7 4 fun v2 =>
(if v2 ≤ i1 then
tv (0 : Int32) (some ((0 : Int32), M))
else
tv (1 : Int32) (some ((1 : Int32), M))))
def L_X11_book : List (Option (Instr × Nat)) := [some (.aload_n 0, 1), some (.iload_n 1, 1), some (.invokevirtual 153, 3), none, none, some (.ifCond .ne 5, 3), none, none, some (.iconst 0, 1), some (.ireturn, 1), some (.aload_n 0, 1), some (.getfield 10, 3), none, none, some (.iload_n 1, 1), some (.putfield 156, 3), none, none, some (.iconst 1, 1), some (.ireturn, 1)]
def Y_X11_book : YM := (⟨RX11, "book", "(I)Z"⟩, prog_1_method_9_code, L_X11_book, 2, some .boolean)
def f_X11_book (r0 : Option Nat) (i1 : Int32) (M : Mem) : Option (Int32 × Mem) :=
cR M r0 (1, 11) (cA (f_X11_isTextOrNone r0 i1 M) fun v1 M1 =>
(if v1 = 0 then
tv (0 : Int32) (some ((0 : Int32), M1))
else
gR M1 r0 11 2 fun v2 =>
pI M1 v2 7 5 i1 fun M2 =>
tv (1 : Int32) (some ((1 : Int32), M2))))
theorem fl_8_11 : FLk RX8 11 8 0 true := ⟨_, rfl, by decide, (gw_in 310 (by decide +kernel) (by decide +kernel)), rfl⟩
theorem fl_8_39 : FLk RX8 39 8 10 true := ⟨_, rfl, by decide, (gw_in 325 (by decide +kernel) (by decide +kernel)), rfl⟩
theorem ml_8_58 : MLv RX8 58 Y_X4_boardAndTurn 0 := ⟨(gw_in 944 (by decide +kernel) (by decide +kernel)), (gw_in 906 (by decide +kernel) (by decide +kernel)), (gw_in 907 (by decide +kernel) (by decide +kernel)), ok_X4_boardAndTurn, by decide +kernel⟩
theorem fl_8_36 : FLk RX8 36 8 9 true := ⟨_, rfl, by decide, (gw_in 324 (by decide +kernel) (by decide +kernel)), rfl⟩
theorem ml_8_110 : MLv RX8 110 Y_X4_heapBehind 2 := ⟨(gw_in 975 (by decide +kernel) (by decide +kernel)), (gw_in 828 (by decide +kernel) (by decide +kernel)), (gw_in 829 (by decide +kernel) (by decide +kernel)), ok_X4_heapBehind, by decide +kernel⟩
set_option maxRecDepth 30000 in
theorem ok_X8_numberOf : okY Y_X8_numberOf := ⟨(gw_in 956 rfl rfl), (gw_in 12 (by decide +kernel) (by decide +kernel)), by decide +kernel, by decide +kernel⟩
theorem ml_8_75 : MLv RX8 75 Y_X8_numberOf 2 := ⟨(gw_in 953 (by decide +kernel) (by decide +kernel)), (gw_in 955 (by decide +kernel) (by decide +kernel)), (gw_sel (n := 12) 32 (by decide +kernel) (by decide +kernel)), ok_X8_numberOf, by decide +kernel⟩
theorem fl_8_16 : FLk RX8 16 8 1 true := ⟨_, rfl, by decide, (gw_in 312 (by decide +kernel) (by decide +kernel)), rfl⟩
theorem ml_8_65 : MLv RX8 65 Y_X4_take 1 := ⟨(gw_in 949 (by decide +kernel) (by decide +kernel)), (gw_in 890 (by decide +kernel) (by decide +kernel)), (gw_in 891 (by decide +kernel) (by decide +kernel)), ok_X4_take, by decide +kernel⟩
theorem fl_8_42 : FLk RX8 42 8 7 true := ⟨_, rfl, by decide, (gw_in 322 (by decide +kernel) (by decide +kernel)), rfl⟩
theorem ml_8_104 : MLv RX8 104 Y_X2_perform 3 := ⟨(gw_in 974 (by decide +kernel) (by decide +kernel)), (gw_in 832 (by decide +kernel) (by decide +kernel)), (gw_in 833 (by decide +kernel) (by decide +kernel)), ok_X2_perform, by decide +kernel⟩
theorem fl_8_107 : FLk RX8 107 4 2 false := ⟨_, rfl, by decide, (gw_in 52 (by decide +kernel) (by decide +kernel)), rfl⟩
set_option maxRecDepth 30000 in
theorem ok_X4_setBoardAndTurn : okY Y_X4_setBoardAndTurn := ⟨(gw_in 969 rfl rfl), (gw_in 3 (by decide +kernel) (by decide +kernel)), by decide +kernel, by decide +kernel⟩
theorem ml_8_83 : MLv RX8 83 Y_X4_setBoardAndTurn 1 := ⟨(gw_in 966 (by decide +kernel) (by decide +kernel)), (gw_in 967 (by decide +kernel) (by decide +kernel)), (gw_in 968 (by decide +kernel) (by decide +kernel)), ok_X4_setBoardAndTurn, by decide +kernel⟩
theorem fl_8_62 : FLk RX8 62 4 1 false := ⟨_, rfl, by decide, (gw_in 45 (by decide +kernel) (by decide +kernel)), rfl⟩
theorem ml_8_87 : MLv RX8 87 Y_X4_stock 0 := ⟨(gw_in 971 (by decide +kernel) (by decide +kernel)), (gw_in 775 (by decide +kernel) (by decide +kernel)), (gw_in 776 (by decide +kernel) (by decide +kernel)), ok_X4_stock, by decide +kernel⟩
theorem ml_8_91 : MLv RX8 91 Y_X2_look 3 := ⟨(gw_in 972 (by decide +kernel) (by decide +kernel)), (gw_in 714 (by decide +kernel) (by decide +kernel)), (gw_in 715 (by decide +kernel) (by decide +kernel)), ok_X2_look, by decide +kernel⟩
theorem ml_8_97 : MLv RX8 97 Y_X2_tooFew 0 := ⟨(gw_in 973 (by decide +kernel) (by decide +kernel)), (gw_in 813 (by decide +kernel) (by decide +kernel)), (gw_in 814 (by decide +kernel) (by decide +kernel)), ok_X2_tooFew, by decide +kernel⟩
theorem fl_8_101 : FLk RX8 101 2 3 false := ⟨_, rfl, by decide, (gw_in 251 (by decide +kernel) (by decide +kernel)), rfl⟩
set_option maxRecDepth 30000 in
theorem ok_X8_expand : okY Y_X8_expand := ⟨(gw_in 965 rfl rfl), (gw_in 12 (by decide +kernel) (by decide +kernel)), by decide +kernel, by decide +kernel⟩
theorem ml_8_79 : MLv RX8 79 Y_X8_expand 1 := ⟨(gw_in 962 (by decide +kernel) (by decide +kernel)), (gw_in 964 (by decide +kernel) (by decide +kernel)), (gw_sel (n := 12) 34 (by decide +kernel) (by decide +kernel)), ok_X8_expand, by decide +kernel⟩
theorem fl_8_32 : FLk RX8 32 8 8 true := ⟨_, rfl, by decide, (gw_in 323 (by decide +kernel) (by decide +kernel)), rfl⟩
set_option maxRecDepth 30000 in
theorem ok_J7_fill_53178 : okY Y_J7_fill_53178 := ⟨(gw_in 952 rfl rfl), (gw_in 21 (by decide +kernel) (by decide +kernel)), by decide +kernel, by decide +kernel⟩
theorem ml_8_69 : MLs RX8 69 Y_J7_fill_53178 2 := ⟨(gw_in 950 (by decide +kernel) (by decide +kernel)), (gw_in 951 (by decide +kernel) (by decide +kernel)), ok_J7_fill_53178, by decide +kernel⟩
set_option maxRecDepth 30000 in
theorem ok_X8_isFrom : okY Y_X8_isFrom := ⟨(gw_in 943 rfl rfl), (gw_in 12 (by decide +kernel) (by decide +kernel)), by decide +kernel, by decide +kernel⟩
theorem ml_11_277 : MLv RX11 277 Y_X8_isFrom 2 := ⟨(gw_in 940 (by decide +kernel) (by decide +kernel)), (gw_in 941 (by decide +kernel) (by decide +kernel)), (gw_in 942 (by decide +kernel) (by decide +kernel)), ok_X8_isFrom, by decide +kernel⟩
set_option maxRecDepth 30000 in
theorem ok_X8_explore : okY Y_X8_explore := ⟨(gw_in 948 rfl rfl), (gw_in 12 (by decide +kernel) (by decide +kernel)), by decide +kernel, by decide +kernel⟩
theorem ml_11_281 : MLv RX11 281 Y_X8_explore 2 := ⟨(gw_in 945 (by decide +kernel) (by decide +kernel)), (gw_in 946 (by decide +kernel) (by decide +kernel)), (gw_in 947 (by decide +kernel) (by decide +kernel)), ok_X8_explore, by decide +kernel⟩
theorem fl_11_285 : FLk RX11 285 8 3 false := ⟨_, rfl, by decide, (gw_in 318 (by decide +kernel) (by decide +kernel)), rfl⟩
theorem fl_11_110 : FLk RX11 110 11 11 true := ⟨_, rfl, by decide, (gw_in 412 (by decide +kernel) (by decide +kernel)), rfl⟩
set_option maxRecDepth 30000 in
theorem ok_X0_prepare : okY Y_X0_prepare := ⟨(gw_in 979 rfl rfl), (gw_in 13 (by decide +kernel) (by decide +kernel)), by decide +kernel, by decide +kernel⟩
theorem ml_11_289 : MLv RX11 289 Y_X0_prepare 0 := ⟨(gw_in 976 (by decide +kernel) (by decide +kernel)), (gw_in 977 (by decide +kernel) (by decide +kernel)), (gw_in 978 (by decide +kernel) (by decide +kernel)), ok_X0_prepare, by decide +kernel⟩
set_option maxRecDepth 30000 in
theorem ok_X0_decideAll : okY Y_X0_decideAll := ⟨(gw_in 991 rfl rfl), (gw_in 13 (by decide +kernel) (by decide +kernel)), by decide +kernel, by decide +kernel⟩
theorem ml_11_292 : MLv RX11 292 Y_X0_decideAll 0 := ⟨(gw_in 988 (by decide +kernel) (by decide +kernel)), (gw_in 989 (by decide +kernel) (by decide +kernel)), (gw_in 990 (by decide +kernel) (by decide +kernel)), ok_X0_decideAll, by decide +kernel⟩
set_option maxRecDepth 30000 in
theorem ok_X4_setCount : okY Y_X4_setCount := ⟨(gw_in 473 rfl rfl), (gw_in 3 (by decide +kernel) (by decide +kernel)), by decide +kernel, by decide +kernel⟩
theorem ml_11_128 : MLv RX11 128 Y_X4_setCount 2 := ⟨(gw_in 470 (by decide +kernel) (by decide +kernel)), (gw_in 471 (by decide +kernel) (by decide +kernel)), (gw_in 472 (by decide +kernel) (by decide +kernel)), ok_X4_setCount, by decide +kernel⟩
set_option maxRecDepth 30000 in
theorem ok_X11_solved : okY Y_X11_solved := ⟨(gw_in 939 rfl rfl), (gw_in 1 (by decide +kernel) (by decide +kernel)), by decide +kernel, by decide +kernel⟩
theorem ml_11_230 : MLv RX11 230 Y_X11_solved 1 := ⟨(gw_in 936 (by decide +kernel) (by decide +kernel)), (gw_in 938 (by decide +kernel) (by decide +kernel)), (gw_sel (n := 16) 31 (by decide +kernel) (by decide +kernel)), ok_X11_solved, by decide +kernel⟩
theorem fl_11_237 : FLk RX11 237 0 0 true := ⟨_, rfl, by decide, (gw_in 360 (by decide +kernel) (by decide +kernel)), rfl⟩
theorem fl_11_240 : FLk RX11 240 0 1 true := ⟨_, rfl, by decide, (gw_in 362 (by decide +kernel) (by decide +kernel)), rfl⟩
set_option maxRecDepth 30000 in
theorem ok_X11_isTextOrNone : okY Y_X11_isTextOrNone := ⟨(gw_in 700 rfl rfl), (gw_in 1 (by decide +kernel) (by decide +kernel)), by decide +kernel, by decide +kernel⟩
theorem ml_11_153 : MLv RX11 153 Y_X11_isTextOrNone 1 := ⟨(gw_in 697 (by decide +kernel) (by decide +kernel)), (gw_in 699 (by decide +kernel) (by decide +kernel)), (gw_sel (n := 16) 12 (by decide +kernel) (by decide +kernel)), ok_X11_isTextOrNone, by decide +kernel⟩
set_option maxRecDepth 20000 in
theorem dk_X8_expand : ∀ pc i, L_X8_expand[pc]? = some (some i) → decode prog_10_method_5_code pc = .ok i := dk_of (by decide +kernel)
theorem sb_X8_expand_144 {d : Nat} {P : Unit → Mem → Prop} {q77 : Option Nat → Int32 → Int32 → Mem → Option (Unit × Mem)} {q144 : Option Nat → Int32 → Int32 → Int32 → Mem → Option (Unit × Mem)} (hq77 : ∀ (r0 : Option Nat) (i1 : Int32) (i2 : Int32) (M : Mem), FQ (q77 r0 i1 i2 M) P → wp Y_X8_expand (rmD (d + 4) 0 0) (FM (QV P) 0 0) 0 0 77 [some (va_rf r0), some (.int i1), some (.int i2), none, none] [] M) (hq144 : ∀ (r0 : Option Nat) (i1 : Int32) (i2 : Int32) (i3 : Int32) (M : Mem), FQ (q144 r0 i1 i2 i3 M) P → wp Y_X8_expand (rmD (d + 4) 0 0) (FM (QV P) 0 0) 0 0 144 [some (va_rf r0), some (.int i1), some (.int i2), some (.int i3), none] [] M) (r0 : Option Nat) (i1 : Int32) (i2 : Int32) (i3 : Int32) (M : Mem) (h : FQ (b_X8_expand_144 q77 q144 r0 i1 i2 i3 M) P) : wp Y_X8_expand (rmD (d + 4) 0 0) (FM (QV P) 0 0) 0 0 144 [some (va_rf r0), some (.int i1), some (.int i2), some (.int i3), none] [] M := by
  unfold b_X8_expand_144 at h
  refine r_iload_n rfl rfl ?_
  refine r_bipush (v := 8) rfl (by decide) ?_
  refine r_ic_ge 214 rfl (by decide) h (fun h => ?_) (fun h => ?_)
  · refine r_iinc (v := 1) (lo' := [some (va_rf r0), some (.int i1), some (.int (i2 + (1 : Int32))), some (.int i3), none]) rfl rfl rfl (by decide) rfl rfl ?_
    refine r_goto 77 rfl (by decide) ?_
    refine r_msk [true, true, true, false, true] rfl ?_
    exact hq77 _ _ _ _ h
  · refine r_iload_n rfl rfl ?_
    refine r_iload_n rfl rfl ?_
    refine r_ic_eq 208 rfl (by decide) h (fun h => ?_) (fun h => ?_)
    · refine r_iinc (v := 1) (lo' := [some (va_rf r0), some (.int i1), some (.int i2), some (.int (i3 + (1 : Int32))), none]) rfl rfl rfl (by decide) rfl rfl ?_
      refine r_goto 144 rfl (by decide) ?_
      exact hq144 _ _ _ _ _ h
    · refine r_aload_n rfl rfl ?_
      refine r_getR rfl fl_8_11 rfl h (fun v1 h => ?_)
      refine r_iload_n rfl rfl ?_
      refine r_iald rfl h (fun v2 h => ?_)
      refine r_iconst (v := 1) rfl (by decide) ?_
      refine r_iload_n rfl rfl ?_
      refine r_ishl rfl ?_
      refine r_iand rfl ?_
      refine r_if_eq 208 rfl (by decide) h (fun h => ?_) (fun h => ?_)
      · refine r_iinc (v := 1) (lo' := [some (va_rf r0), some (.int i1), some (.int i2), some (.int (i3 + (1 : Int32))), none]) rfl rfl rfl (by decide) rfl rfl ?_
        refine r_goto 144 rfl (by decide) ?_
        exact hq144 _ _ _ _ _ h
      · refine r_aload_n rfl rfl ?_
        refine r_aload_n rfl rfl ?_
        refine r_getR rfl fl_8_39 rfl h (fun v3 h => ?_)
        refine r_cv_l (vs := []) rfl ml_8_58 rfl (rOk.of rfl) ⟨Nat.zero_le _, Nat.zero_le _⟩ rfl rfl rfl h s_X4_boardAndTurn (fun v4 M1 h => ?_)
        refine r_aload_n rfl rfl ?_
        refine r_getR rfl fl_8_36 rfl h (fun v5 h => ?_)
        refine r_iload_n rfl rfl ?_
        refine r_iload_n rfl rfl ?_
        refine r_cv_i (vs := [.int i3, .int i2]) rfl ml_8_110 rfl (rOk.of rfl) ⟨Nat.zero_le _, Nat.zero_le _⟩ rfl rfl rfl h s_X4_heapBehind (fun v6 M2 h => ?_)
        refine r_cv_i (vs := [.long v4, .int v6]) rfl ml_8_75 rfl (rOk.of rfl) ⟨Nat.zero_le _, Nat.zero_le _⟩ rfl rfl rfl h s_X8_numberOf (fun v7 M3 h => ?_)
        refine r_istore (lo' := [some (va_rf r0), some (.int i1), some (.int i2), some (.int i3), some (.int v7)]) rfl rfl rfl rfl ?_
        refine r_aload_n rfl rfl ?_
        refine r_getR rfl fl_8_16 rfl h (fun v8 h => ?_)
        refine r_iload_n rfl rfl ?_
        refine r_bipush (v := 64) rfl (by decide) ?_
        refine r_imul rfl ?_
        refine r_iload_n rfl rfl ?_
        refine r_bipush (v := 8) rfl (by decide) ?_
        refine r_imul rfl ?_
        refine r_iadd rfl ?_
        refine r_iload_n rfl rfl ?_
        refine r_iadd rfl ?_
        refine r_iload rfl rfl ?_
        refine r_iast rfl h (fun M4 h => ?_)
        refine r_iinc (v := 1) (lo' := [some (va_rf r0), some (.int i1), some (.int i2), some (.int (i3 + (1 : Int32))), some (.int v7)]) rfl rfl rfl (by decide) rfl rfl ?_
        refine r_goto 144 rfl (by decide) ?_
        refine r_msk [true, true, true, true, false] rfl ?_
        exact hq144 _ _ _ _ _ h
theorem s_X8_expand_144 {d : Nat} {P : Unit → Mem → Prop} {q77 : Option Nat → Int32 → Int32 → Mem → Option (Unit × Mem)} (hq77 : ∀ (r0 : Option Nat) (i1 : Int32) (i2 : Int32) (M : Mem), FQ (q77 r0 i1 i2 M) P → wp Y_X8_expand (rmD (d + 4) 0 0) (FM (QV P) 0 0) 0 0 77 [some (va_rf r0), some (.int i1), some (.int i2), none, none] [] M) : ∀ (k : Nat) (r0 : Option Nat) (i1 : Int32) (i2 : Int32) (i3 : Int32) (M : Mem), FQ (f_X8_expand_144 q77 k r0 i1 i2 i3 M) P → wp Y_X8_expand (rmD (d + 4) 0 0) (FM (QV P) 0 0) 0 0 144 [some (va_rf r0), some (.int i1), some (.int i2), some (.int i3), none] [] M
  | 0, _, _, _, _, _, h => h.no
  | k + 1, r0, i1, i2, i3, M, h => sb_X8_expand_144 hq77 (s_X8_expand_144 hq77 k) r0 i1 i2 i3 M h
theorem sb_X8_expand_77 {d : Nat} {P : Unit → Mem → Prop} {q77 : Option Nat → Int32 → Int32 → Mem → Option (Unit × Mem)} (hq77 : ∀ (r0 : Option Nat) (i1 : Int32) (i2 : Int32) (M : Mem), FQ (q77 r0 i1 i2 M) P → wp Y_X8_expand (rmD (d + 4) 0 0) (FM (QV P) 0 0) 0 0 77 [some (va_rf r0), some (.int i1), some (.int i2), none, none] [] M) (r0 : Option Nat) (i1 : Int32) (i2 : Int32) (M : Mem) (h : FQ (b_X8_expand_77 q77 r0 i1 i2 M) P) : wp Y_X8_expand (rmD (d + 4) 0 0) (FM (QV P) 0 0) 0 0 77 [some (va_rf r0), some (.int i1), some (.int i2), none, none] [] M := by
  unfold b_X8_expand_77 at h
  refine r_iload_n rfl rfl ?_
  refine r_bipush (v := 8) rfl (by decide) ?_
  refine r_ic_ge 220 rfl (by decide) h (fun h => ?_) (fun h => ?_)
  · exact r_vret rfl rfl ⟨Nat.le_of_ble_eq_true rfl, Nat.le_of_ble_eq_true rfl⟩ h
  · refine r_aload_n rfl rfl ?_
    refine r_getR rfl fl_8_11 rfl h (fun v1 h => ?_)
    refine r_iload_n rfl rfl ?_
    refine r_iald rfl h (fun v2 h => ?_)
    refine r_iconst (v := 1) rfl (by decide) ?_
    refine r_iload_n rfl rfl ?_
    refine r_ishl rfl ?_
    refine r_iand rfl ?_
    refine r_if_ne 99 rfl (by decide) h (fun h => ?_) (fun h => ?_)
    · refine r_goto 214 rfl (by decide) ?_
      refine r_iinc (v := 1) (lo' := [some (va_rf r0), some (.int i1), some (.int (i2 + (1 : Int32))), none, none]) rfl rfl rfl (by decide) rfl rfl ?_
      refine r_goto 77 rfl (by decide) ?_
      exact hq77 _ _ _ _ h
    · refine r_aload_n rfl rfl ?_
      refine r_getR rfl fl_8_39 rfl h (fun v3 h => ?_)
      refine r_aload_n rfl rfl ?_
      refine r_getR rfl fl_8_36 rfl h (fun v4 h => ?_)
      refine r_cv_v (vs := [va_rf v4]) rfl ml_8_65 rfl (rOk.of rfl) ⟨Nat.zero_le _, Nat.zero_le _⟩ rfl rfl rfl h s_X4_take (fun _ M1 h => ?_)
      refine r_aload_n rfl rfl ?_
      refine r_getR rfl fl_8_42 rfl h (fun v5 h => ?_)
      refine r_aload_n rfl rfl ?_
      refine r_getR rfl fl_8_39 rfl h (fun v6 h => ?_)
      refine r_aload_n rfl rfl ?_
      refine r_getR rfl fl_8_54 rfl h (fun v7 h => ?_)
      refine r_iload_n rfl rfl ?_
      refine r_cv_v (vs := [va_rf v6, va_rf v7, .int i2]) rfl ml_8_104 rfl (rOk.of rfl) ⟨Nat.zero_le _, Nat.zero_le _⟩ rfl rfl rfl h s_X2_perform (fun _ M2 h => ?_)
      refine r_aload_n rfl rfl ?_
      refine r_getR rfl fl_8_39 rfl h (fun v8 h => ?_)
      refine r_iconst (v := 1) rfl (by decide) ?_
      refine r_aload_n rfl rfl ?_
      refine r_getR rfl fl_8_36 rfl h (fun v9 h => ?_)
      refine r_getI rfl fl_8_107 rfl h (fun v10 h => ?_)
      refine r_isub rfl ?_
      refine r_putI rfl fl_8_107 (fun z => by cases z) rfl h (fun M3 h => ?_)
      refine r_iconst (v := 0) rfl (by decide) ?_
      refine r_istore_n (lo' := [some (va_rf r0), some (.int i1), some (.int i2), some (.int (0 : Int32)), none]) rfl rfl rfl rfl ?_
      exact s_X8_expand_144 hq77 FU _ _ _ _ _ h
theorem s_X8_expand_77 {d : Nat} {P : Unit → Mem → Prop}   : ∀ (k : Nat) (r0 : Option Nat) (i1 : Int32) (i2 : Int32) (M : Mem), FQ (f_X8_expand_77  k r0 i1 i2 M) P → wp Y_X8_expand (rmD (d + 4) 0 0) (FM (QV P) 0 0) 0 0 77 [some (va_rf r0), some (.int i1), some (.int i2), none, none] [] M
  | 0, _, _, _, _, h => h.no
  | k + 1, r0, i1, i2, M, h => sb_X8_expand_77  (s_X8_expand_77  k) r0 i1 i2 M h
theorem s_X8_expand {d : Nat} {P : Unit → Mem → Prop} {r0 : Option Nat} {i1 : Int32} {M : Mem} (h : FQ (f_X8_expand r0 i1 M) P) : Con Y_X8_expand (d + 4) 0 0 [va_rf r0, .int i1] M (QV P) := by
  refine Con.of [some (va_rf r0), some (.int i1), none, none, none] (by decide +kernel) dk_X8_expand (by simp [Y_X8_expand, cat_rf, cat_i, cat_l]) (by simp [loE, Y_X8_expand, cat_rf, cat_i, cat_l, List.replicate]) ?_
  unfold f_X8_expand at h
  refine r_aload_n rfl rfl ?_
  refine r_getR rfl fl_8_36 rfl h (fun v1 h => ?_)
  refine r_aload_n rfl rfl ?_
  refine r_getR rfl fl_8_19 rfl h (fun v2 h => ?_)
  refine r_iload_n rfl rfl ?_
  refine r_lald rfl h (fun v3 h => ?_)
  refine r_cv_v (vs := [.long v3]) rfl ml_8_83 rfl (rOk.of rfl) ⟨Nat.zero_le _, Nat.zero_le _⟩ rfl rfl rfl h s_X4_setBoardAndTurn (fun _ M1 h => ?_)
  refine r_aload_n rfl rfl ?_
  refine r_getR rfl fl_8_36 rfl h (fun v4 h => ?_)
  refine r_aload_n rfl rfl ?_
  refine r_getR rfl fl_8_23 rfl h (fun v5 h => ?_)
  refine r_iload_n rfl rfl ?_
  refine r_iald rfl h (fun v6 h => ?_)
  refine r_putI rfl fl_8_62 (fun z => by cases z) rfl h (fun M2 h => ?_)
  refine r_aload_n rfl rfl ?_
  refine r_getR rfl fl_8_42 rfl h (fun v7 h => ?_)
  refine r_aload_n rfl rfl ?_
  refine r_getR rfl fl_8_36 rfl h (fun v8 h => ?_)
  refine r_aload_n rfl rfl ?_
  refine r_getR rfl fl_8_54 rfl h (fun v9 h => ?_)
  refine r_aload_n rfl rfl ?_
  refine r_getR rfl fl_8_36 rfl h (fun v10 h => ?_)
  refine r_cv_i (vs := []) rfl ml_8_87 rfl (rOk.of rfl) ⟨Nat.zero_le _, Nat.zero_le _⟩ rfl rfl rfl h s_X4_stock (fun v11 M3 h => ?_)
  refine r_cv_v (vs := [va_rf v8, va_rf v9, .int v11]) rfl ml_8_91 rfl (rOk.of rfl) ⟨Nat.zero_le _, Nat.zero_le _⟩ rfl rfl rfl h s_X2_look (fun _ M4 h => ?_)
  refine r_aload_n rfl rfl ?_
  refine r_getR rfl fl_8_11 rfl h (fun v12 h => ?_)
  refine r_iload_n rfl rfl ?_
  refine r_aload_n rfl rfl ?_
  refine r_getR rfl fl_8_42 rfl h (fun v13 h => ?_)
  refine r_cv_i (vs := []) rfl ml_8_97 rfl (rOk.of rfl) ⟨Nat.zero_le _, Nat.zero_le _⟩ rfl rfl rfl h s_X2_tooFew (fun v14 M5 h => ?_)
  refine r_if_eq 67 rfl (by decide) h (fun h => ?_) (fun h => ?_)
  · refine r_aload_n rfl rfl ?_
    refine r_getR rfl fl_8_42 rfl h (fun v15 h => ?_)
    refine r_getI rfl fl_8_101 rfl h (fun v16 h => ?_)
    refine r_iast rfl h (fun M6 h => ?_)
    refine r_iconst (v := 0) rfl (by decide) ?_
    refine r_istore_n (lo' := [some (va_rf r0), some (.int i1), some (.int (0 : Int32)), none, none]) rfl rfl rfl rfl ?_
    exact s_X8_expand_77 FU _ _ _ _ h
  · refine r_iconst (v := 0) rfl (by decide) ?_
    refine r_goto 74 rfl (by decide) ?_
    refine r_iast rfl h (fun M7 h => ?_)
    refine r_iconst (v := 0) rfl (by decide) ?_
    refine r_istore_n (lo' := [some (va_rf r0), some (.int i1), some (.int (0 : Int32)), none, none]) rfl rfl rfl rfl ?_
    exact s_X8_expand_77 FU _ _ _ _ h
set_option maxRecDepth 20000 in
theorem dk_X8_explore : ∀ pc i, L_X8_explore[pc]? = some (some i) → decode prog_10_method_4_code pc = .ok i := dk_of (by decide +kernel)
theorem sb_X8_explore_46 {d : Nat} {P : Unit → Mem → Prop} {q46 : Option Nat → Int32 → Mem → Option (Unit × Mem)} (hq46 : ∀ (r0 : Option Nat) (i3 : Int32) (M : Mem), FQ (q46 r0 i3 M) P → wp Y_X8_explore (rmD (d + 5) 0 0) (FM (QV P) 0 0) 0 0 46 [some (va_rf r0), none, none, some (.int i3)] [] M) (r0 : Option Nat) (i3 : Int32) (M : Mem) (h : FQ (b_X8_explore_46 q46 r0 i3 M) P) : wp Y_X8_explore (rmD (d + 5) 0 0) (FM (QV P) 0 0) 0 0 46 [some (va_rf r0), none, none, some (.int i3)] [] M := by
  unfold b_X8_explore_46 at h
  refine r_iload_n rfl rfl ?_
  refine r_sipush (v := 2000) rfl (by decide) ?_
  refine r_ic_ge 79 rfl (by decide) h (fun h => ?_) (fun h => ?_)
  · exact r_vret rfl rfl ⟨Nat.le_of_ble_eq_true rfl, Nat.le_of_ble_eq_true rfl⟩ h
  · refine r_iload_n rfl rfl ?_
    refine r_aload_n rfl rfl ?_
    refine r_getI rfl fl_8_46 rfl h (fun v1 h => ?_)
    refine r_ic_ge 79 rfl (by decide) h (fun h => ?_) (fun h => ?_)
    · exact r_vret rfl rfl ⟨Nat.le_of_ble_eq_true rfl, Nat.le_of_ble_eq_true rfl⟩ h
    · refine r_aload_n rfl rfl ?_
      refine r_getI rfl fl_8_50 rfl h (fun v2 h => ?_)
      refine r_if_ne 79 rfl (by decide) h (fun h => ?_) (fun h => ?_)
      · refine r_aload_n rfl rfl ?_
        refine r_iload_n rfl rfl ?_
        refine r_cv_v (vs := [.int i3]) rfl ml_8_79 rfl (rOk.of rfl) ⟨Nat.zero_le _, Nat.zero_le _⟩ rfl rfl rfl h s_X8_expand (fun _ M1 h => ?_)
        refine r_iinc (v := 1) (lo' := [some (va_rf r0), none, none, some (.int (i3 + (1 : Int32)))]) rfl rfl rfl (by decide) rfl rfl ?_
        refine r_goto 46 rfl (by decide) ?_
        exact hq46 _ _ _ h
      · exact r_vret rfl rfl ⟨Nat.le_of_ble_eq_true rfl, Nat.le_of_ble_eq_true rfl⟩ h
theorem s_X8_explore_46 {d : Nat} {P : Unit → Mem → Prop}   : ∀ (k : Nat) (r0 : Option Nat) (i3 : Int32) (M : Mem), FQ (f_X8_explore_46  k r0 i3 M) P → wp Y_X8_explore (rmD (d + 5) 0 0) (FM (QV P) 0 0) 0 0 46 [some (va_rf r0), none, none, some (.int i3)] [] M
  | 0, _, _, _, h => h.no
  | k + 1, r0, i3, M, h => sb_X8_explore_46  (s_X8_explore_46  k) r0 i3 M h
theorem s_X8_explore {d : Nat} {P : Unit → Mem → Prop} {r0 : Option Nat} {r1 : Option Nat} {r2 : Option Nat} {M : Mem} (h : FQ (f_X8_explore r0 r1 r2 M) P) : Con Y_X8_explore (d + 5) 0 0 [va_rf r0, va_rf r1, va_rf r2] M (QV P) := by
  refine Con.of [some (va_rf r0), some (va_rf r1), some (va_rf r2), none] (by decide +kernel) dk_X8_explore (by simp [Y_X8_explore, cat_rf, cat_i, cat_l]) (by simp [loE, Y_X8_explore, cat_rf, cat_i, cat_l, List.replicate]) ?_
  unfold f_X8_explore at h
  refine r_aload_n rfl rfl ?_
  refine r_getR rfl fl_8_32 rfl h (fun v1 h => ?_)
  refine r_aload_n rfl rfl ?_
  refine r_cv_v (vs := [va_rf r1]) rfl ml_8_65 rfl (rOk.of rfl) ⟨Nat.zero_le _, Nat.zero_le _⟩ rfl rfl rfl h s_X4_take (fun _ M1 h => ?_)
  refine r_aload_n rfl rfl ?_
  refine r_aload_n rfl rfl ?_
  refine r_putR rfl fl_8_54 (fun z => by cases z) (Or.inl ⟨_, rfl⟩) h (fun M2 h => ?_)
  refine r_aload_n rfl rfl ?_
  refine r_iconst (v := 0) rfl (by decide) ?_
  refine r_putI rfl fl_8_46 (fun z => by cases z) rfl h (fun M3 h => ?_)
  refine r_aload_n rfl rfl ?_
  refine r_iconst (v := 0) rfl (by decide) ?_
  refine r_putZ rfl fl_8_50 (fun z => by cases z) rfl h (fun M4 h => ?_)
  refine r_aload_n rfl rfl ?_
  refine r_getR rfl fl_8_26 rfl h (fun v2 h => ?_)
  refine r_iconst (v := 0) rfl (by decide) ?_
  refine r_cs_v (vs := [va_rf v2, .int (0 : Int32)]) rfl ml_8_69 (rOk.of rfl) ⟨Nat.zero_le _, Nat.zero_le _⟩ rfl rfl rfl h s_J7_fill_53178 (fun _ M5 h => ?_)
  refine r_aload_n rfl rfl ?_
  refine r_aload_n rfl rfl ?_
  refine r_cv_l (vs := []) rfl ml_8_58 rfl (rOk.of rfl) ⟨Nat.zero_le _, Nat.zero_le _⟩ rfl rfl rfl h s_X4_boardAndTurn (fun v3 M6 h => ?_)
  refine r_aload_n rfl rfl ?_
  refine r_getI rfl fl_8_62 rfl h (fun v4 h => ?_)
  refine r_cv_i (vs := [.long v3, .int v4]) rfl ml_8_75 rfl (rOk.of rfl) ⟨Nat.zero_le _, Nat.zero_le _⟩ rfl rfl rfl h s_X8_numberOf (fun v5 M7 h => ?_)
  refine r_pop rfl rfl ?_
  refine r_iconst (v := 0) rfl (by decide) ?_
  refine r_istore_n (lo' := [some (va_rf r0), some (va_rf r1), some (va_rf r2), some (.int (0 : Int32))]) rfl rfl (by simp [stOk, cat_rf]) rfl ?_
  refine r_msk [true, false, false, true] rfl ?_
  exact s_X8_explore_46 FU _ _ _ h
set_option maxRecDepth 20000 in
theorem dk_X8_isFrom : ∀ pc i, L_X8_isFrom[pc]? = some (some i) → decode prog_10_method_3_code pc = .ok i := dk_of (by decide +kernel)
theorem s_X8_isFrom {d : Nat} {P : Int32 → Mem → Prop} {r0 : Option Nat} {r1 : Option Nat} {r2 : Option Nat} {M : Mem} (h : FQ (f_X8_isFrom r0 r1 r2 M) P) : Con Y_X8_isFrom (d + 1) 0 0 [va_rf r0, va_rf r1, va_rf r2] M (QI P) := by
  refine Con.of [some (va_rf r0), some (va_rf r1), some (va_rf r2)] (by decide +kernel) dk_X8_isFrom (by simp [Y_X8_isFrom, cat_rf, cat_i, cat_l]) (by simp [loE, Y_X8_isFrom, cat_rf, cat_i, cat_l, List.replicate]) ?_
  unfold f_X8_isFrom at h
  refine r_aload_n rfl rfl ?_
  refine r_getR rfl fl_8_54 rfl h (fun v1 h => ?_)
  refine r_aload_n rfl rfl ?_
  refine r_ac_ne 41 rfl (by decide) h (fun h => ?_) (fun h => ?_)
  · refine r_aload_n rfl rfl ?_
    refine r_getR rfl fl_8_32 rfl h (fun v2 h => ?_)
    refine r_cv_l (vs := []) rfl ml_8_58 rfl (rOk.of rfl) ⟨Nat.zero_le _, Nat.zero_le _⟩ rfl rfl rfl h s_X4_boardAndTurn (fun v3 M1 h => ?_)
    refine r_aload_n rfl rfl ?_
    refine r_cv_l (vs := []) rfl ml_8_58 rfl (rOk.of rfl) ⟨Nat.zero_le _, Nat.zero_le _⟩ rfl rfl rfl h s_X4_boardAndTurn (fun v4 M2 h => ?_)
    refine r_lcmp rfl ?_
    refine r_if_ne 41 rfl (by decide) h (fun h => ?_) (fun h => ?_)
    · refine r_aload_n rfl rfl ?_
      refine r_getR rfl fl_8_32 rfl h (fun v5 h => ?_)
      refine r_getI rfl fl_8_62 rfl h (fun v6 h => ?_)
      refine r_aload_n rfl rfl ?_
      refine r_getI rfl fl_8_62 rfl h (fun v7 h => ?_)
      refine r_ic_ne 41 rfl (by decide) h (fun h => ?_) (fun h => ?_)
      · refine r_iconst (v := 1) rfl (by decide) ?_
        refine r_goto 42 rfl (by decide) ?_
        exact r_zret rfl rfl ⟨Nat.le_of_ble_eq_true rfl, Nat.le_of_ble_eq_true rfl⟩ h
      · refine r_iconst (v := 0) rfl (by decide) ?_
        exact r_zret rfl rfl ⟨Nat.le_of_ble_eq_true rfl, Nat.le_of_ble_eq_true rfl⟩ h
    · refine r_iconst (v := 0) rfl (by decide) ?_
      exact r_zret rfl rfl ⟨Nat.le_of_ble_eq_true rfl, Nat.le_of_ble_eq_true rfl⟩ h
  · refine r_iconst (v := 0) rfl (by decide) ?_
    exact r_zret rfl rfl ⟨Nat.le_of_ble_eq_true rfl, Nat.le_of_ble_eq_true rfl⟩ h
set_option maxRecDepth 20000 in
theorem dk_X11_solved : ∀ pc i, L_X11_solved[pc]? = some (some i) → decode prog_1_method_36_code pc = .ok i := dk_of (by decide +kernel)
theorem s_X11_solved {d : Nat} {P : Int32 → Mem → Prop} {r0 : Option Nat} {r1 : Option Nat} {M : Mem} (h : FQ (f_X11_solved r0 r1 M) P) : Con Y_X11_solved (d + 6) 0 0 [va_rf r0, va_rf r1] M (QI P) := by
  refine Con.of [some (va_rf r0), some (va_rf r1), none] (by decide +kernel) dk_X11_solved (by simp [Y_X11_solved, cat_rf, cat_i, cat_l]) (by simp [loE, Y_X11_solved, cat_rf, cat_i, cat_l, List.replicate]) ?_
  unfold f_X11_solved at h
  refine r_aload_n rfl rfl ?_
  refine r_aload_n rfl rfl ?_
  refine r_getR rfl fl_11_10 rfl h (fun v1 h => ?_)
  refine r_getI rfl fl_11_156 rfl h (fun v2 h => ?_)
  refine r_cv_r (vs := [.int v2]) rfl ml_11_162 rfl (rOk.of rfl) ⟨Nat.zero_le _, Nat.zero_le _⟩ rfl rfl rfl h s_X11_rules (fun v3 M1 h => ?_)
  refine r_astore_n (lo' := [some (va_rf r0), some (va_rf r1), some (va_rf v3)]) rfl rfl (by simp [stOk, cat_rf]) rfl ?_
  refine r_aload_n rfl rfl ?_
  refine r_getR rfl fl_11_101 rfl h (fun v4 h => ?_)
  refine r_aload_n rfl rfl ?_
  refine r_aload_n rfl rfl ?_
  refine r_cv_i (vs := [va_rf r1, va_rf v3]) rfl ml_11_277 rfl (rOk.of rfl) ⟨Nat.zero_le _, Nat.zero_le _⟩ rfl rfl rfl h s_X8_isFrom (fun v5 M2 h => ?_)
  refine r_if_ne 57 rfl (by decide) h (fun h => ?_) (fun h => ?_)
  · refine r_aload_n rfl rfl ?_
    refine r_getR rfl fl_11_101 rfl h (fun v6 h => ?_)
    refine r_aload_n rfl rfl ?_
    refine r_aload_n rfl rfl ?_
    refine r_cv_v (vs := [va_rf r1, va_rf v3]) rfl ml_11_281 rfl (rOk.of rfl) ⟨Nat.zero_le _, Nat.zero_le _⟩ rfl rfl rfl h s_X8_explore (fun _ M3 h => ?_)
    refine r_aload_n rfl rfl ?_
    refine r_getR rfl fl_11_101 rfl h (fun v7 h => ?_)
    refine r_getI rfl fl_11_285 rfl h (fun v8 h => ?_)
    refine r_if_ne 57 rfl (by decide) h (fun h => ?_) (fun h => ?_)
    · refine r_aload_n rfl rfl ?_
      refine r_getR rfl fl_11_110 rfl h (fun v9 h => ?_)
      refine r_cv_v (vs := []) rfl ml_11_289 rfl (rOk.of rfl) ⟨Nat.zero_le _, Nat.zero_le _⟩ rfl rfl rfl h s_X0_prepare (fun _ M4 h => ?_)
      refine r_aload_n rfl rfl ?_
      refine r_getR rfl fl_11_110 rfl h (fun v10 h => ?_)
      refine r_cv_v (vs := []) rfl ml_11_292 rfl (rOk.of rfl) ⟨Nat.zero_le _, Nat.zero_le _⟩ rfl rfl rfl h s_X0_decideAll (fun _ M5 h => ?_)
      refine r_aload_n rfl rfl ?_
      refine r_getR rfl fl_11_101 rfl h (fun v11 h => ?_)
      refine r_getI rfl fl_11_285 rfl h (fun v12 h => ?_)
      refine r_if_ne 71 rfl (by decide) h (fun h => ?_) (fun h => ?_)
      · refine r_iconst (v := 1) rfl (by decide) ?_
        refine r_goto 72 rfl (by decide) ?_
        exact r_zret rfl rfl ⟨Nat.le_of_ble_eq_true rfl, Nat.le_of_ble_eq_true rfl⟩ h
      · refine r_iconst (v := 0) rfl (by decide) ?_
        exact r_zret rfl rfl ⟨Nat.le_of_ble_eq_true rfl, Nat.le_of_ble_eq_true rfl⟩ h
    · refine r_aload_n rfl rfl ?_
      refine r_getR rfl fl_11_101 rfl h (fun v13 h => ?_)
      refine r_getI rfl fl_11_285 rfl h (fun v14 h => ?_)
      refine r_if_ne 71 rfl (by decide) h (fun h => ?_) (fun h => ?_)
      · refine r_iconst (v := 1) rfl (by decide) ?_
        refine r_goto 72 rfl (by decide) ?_
        exact r_zret rfl rfl ⟨Nat.le_of_ble_eq_true rfl, Nat.le_of_ble_eq_true rfl⟩ h
      · refine r_iconst (v := 0) rfl (by decide) ?_
        exact r_zret rfl rfl ⟨Nat.le_of_ble_eq_true rfl, Nat.le_of_ble_eq_true rfl⟩ h
  · refine r_aload_n rfl rfl ?_
    refine r_getR rfl fl_11_101 rfl h (fun v15 h => ?_)
    refine r_getI rfl fl_11_285 rfl h (fun v16 h => ?_)
    refine r_if_ne 71 rfl (by decide) h (fun h => ?_) (fun h => ?_)
    · refine r_iconst (v := 1) rfl (by decide) ?_
      refine r_goto 72 rfl (by decide) ?_
      exact r_zret rfl rfl ⟨Nat.le_of_ble_eq_true rfl, Nat.le_of_ble_eq_true rfl⟩ h
    · refine r_iconst (v := 0) rfl (by decide) ?_
      exact r_zret rfl rfl ⟨Nat.le_of_ble_eq_true rfl, Nat.le_of_ble_eq_true rfl⟩ h
set_option maxRecDepth 20000 in
theorem dk_X4_setCount : ∀ pc i, L_X4_setCount[pc]? = some (some i) → decode prog_6_method_10_code pc = .ok i := dk_of (by decide +kernel)
theorem s_X4_setCount {d : Nat} {P : Unit → Mem → Prop} {r0 : Option Nat} {i1 : Int32} {i2 : Int32} {M : Mem} (h : FQ (f_X4_setCount r0 i1 i2 M) P) : Con Y_X4_setCount d 0 0 [va_rf r0, .int i1, .int i2] M (QV P) := by
  refine Con.of [some (va_rf r0), some (.int i1), some (.int i2)] (by decide +kernel) dk_X4_setCount (by simp [Y_X4_setCount, cat_rf, cat_i, cat_l]) (by simp [loE, Y_X4_setCount, cat_rf, cat_i, cat_l, List.replicate]) ?_
  unfold f_X4_setCount at h
  refine r_aload_n rfl rfl ?_
  refine r_aload_n rfl rfl ?_
  refine r_getI rfl fl_4_15 rfl h (fun v1 h => ?_)
  refine r_iconst (v := 3) rfl (by decide) ?_
  refine r_iconst (v := 2) rfl (by decide) ?_
  refine r_iload_n rfl rfl ?_
  refine r_imul rfl ?_
  refine r_ishl rfl ?_
  refine r_iconst (v := -1) rfl (by decide) ?_
  refine r_ixor rfl ?_
  refine r_iand rfl ?_
  refine r_iload_n rfl rfl ?_
  refine r_iconst (v := 2) rfl (by decide) ?_
  refine r_iload_n rfl rfl ?_
  refine r_imul rfl ?_
  refine r_ishl rfl ?_
  refine r_ior rfl ?_
  refine r_putI rfl fl_4_15 (fun z => by cases z) rfl h (fun M1 h => ?_)
  exact r_vret rfl rfl ⟨Nat.le_of_ble_eq_true rfl, Nat.le_of_ble_eq_true rfl⟩ h
set_option maxRecDepth 20000 in
theorem dk_X11_balanced : ∀ pc i, L_X11_balanced[pc]? = some (some i) → decode prog_1_method_27_code pc = .ok i := dk_of (by decide +kernel)
theorem sb_X11_balanced_25 {d : Nat} {P : Int32 → Mem → Prop} {q25 : Option Nat → Int32 → Int32 → Mem → Option (Int32 × Mem)} (hq25 : ∀ (r0 : Option Nat) (i1 : Int32) (i2 : Int32) (M : Mem), FQ (q25 r0 i1 i2 M) P → wp Y_X11_balanced (rmD (d + 7) 0 0) (FM (QI P) 0 0) 0 0 25 [some (va_rf r0), some (.int i1), some (.int i2)] [] M) (r0 : Option Nat) (i1 : Int32) (i2 : Int32) (M : Mem) (h : FQ (b_X11_balanced_25 q25 r0 i1 i2 M) P) : wp Y_X11_balanced (rmD (d + 7) 0 0) (FM (QI P) 0 0) 0 0 25 [some (va_rf r0), some (.int i1), some (.int i2)] [] M := by
  unfold b_X11_balanced_25 at h
  refine r_iload_n rfl rfl ?_
  refine r_iconst (v := 3) rfl (by decide) ?_
  refine r_ic_gt 70 rfl (by decide) h (fun h => ?_) (fun h => ?_)
  · refine r_iconst (v := -1) rfl (by decide) ?_
    exact r_iret rfl rfl ⟨Nat.le_of_ble_eq_true rfl, Nat.le_of_ble_eq_true rfl⟩ h
  · refine r_aload_n rfl rfl ?_
    refine r_getR rfl fl_11_47 rfl h (fun v1 h => ?_)
    refine r_iload_n rfl rfl ?_
    refine r_iload_n rfl rfl ?_
    refine r_cv_v (vs := [.int i1, .int i2]) rfl ml_11_128 rfl (rOk.of rfl) ⟨Nat.zero_le _, Nat.zero_le _⟩ rfl rfl rfl h s_X4_setCount (fun _ M1 h => ?_)
    refine r_aload_n rfl rfl ?_
    refine r_aload_n rfl rfl ?_
    refine r_getR rfl fl_11_47 rfl h (fun v2 h => ?_)
    refine r_cv_i (vs := [va_rf v2]) rfl ml_11_230 rfl (rOk.of rfl) ⟨Nat.zero_le _, Nat.zero_le _⟩ rfl rfl rfl h s_X11_solved (fun v3 M2 h => ?_)
    refine r_if_eq 64 rfl (by decide) h (fun h => ?_) (fun h => ?_)
    · refine r_iinc (v := 1) (lo' := [some (va_rf r0), some (.int i1), some (.int (i2 + (1 : Int32)))]) rfl rfl rfl (by decide) rfl rfl ?_
      refine r_goto 25 rfl (by decide) ?_
      exact hq25 _ _ _ _ h
    · refine r_aload_n rfl rfl ?_
      refine r_getR rfl fl_11_110 rfl h (fun v4 h => ?_)
      refine r_getR rfl fl_11_237 rfl h (fun v5 h => ?_)
      refine r_iconst (v := 0) rfl (by decide) ?_
      refine r_iald rfl h (fun v6 h => ?_)
      refine r_if_ne 64 rfl (by decide) h (fun h => ?_) (fun h => ?_)
      · refine r_iload_n rfl rfl ?_
        exact r_iret rfl rfl ⟨Nat.le_of_ble_eq_true rfl, Nat.le_of_ble_eq_true rfl⟩ h
      · refine r_iinc (v := 1) (lo' := [some (va_rf r0), some (.int i1), some (.int (i2 + (1 : Int32)))]) rfl rfl rfl (by decide) rfl rfl ?_
        refine r_goto 25 rfl (by decide) ?_
        exact hq25 _ _ _ _ h
theorem s_X11_balanced_25 {d : Nat} {P : Int32 → Mem → Prop}   : ∀ (k : Nat) (r0 : Option Nat) (i1 : Int32) (i2 : Int32) (M : Mem), FQ (f_X11_balanced_25  k r0 i1 i2 M) P → wp Y_X11_balanced (rmD (d + 7) 0 0) (FM (QI P) 0 0) 0 0 25 [some (va_rf r0), some (.int i1), some (.int i2)] [] M
  | 0, _, _, _, _, h => h.no
  | k + 1, r0, i1, i2, M, h => sb_X11_balanced_25  (s_X11_balanced_25  k) r0 i1 i2 M h
theorem s_X11_balanced {d : Nat} {P : Int32 → Mem → Prop} {r0 : Option Nat} {i1 : Int32} {M : Mem} (h : FQ (f_X11_balanced r0 i1 M) P) : Con Y_X11_balanced (d + 7) 0 0 [va_rf r0, .int i1] M (QI P) := by
  refine Con.of [some (va_rf r0), some (.int i1), none] (by decide +kernel) dk_X11_balanced (by simp [Y_X11_balanced, cat_rf, cat_i, cat_l]) (by simp [loE, Y_X11_balanced, cat_rf, cat_i, cat_l, List.replicate]) ?_
  unfold f_X11_balanced at h
  refine r_iload_n rfl rfl ?_
  refine r_cs_i (vs := [.int i1]) rfl ml_11_125 (rOk.of rfl) ⟨Nat.zero_le _, Nat.zero_le _⟩ rfl rfl rfl h s_X11_isMove (fun v1 M1 h => ?_)
  refine r_if_ne 9 rfl (by decide) h (fun h => ?_) (fun h => ?_)
  · refine r_iconst (v := -1) rfl (by decide) ?_
    exact r_iret rfl rfl ⟨Nat.le_of_ble_eq_true rfl, Nat.le_of_ble_eq_true rfl⟩ h
  · refine r_aload_n rfl rfl ?_
    refine r_getR rfl fl_11_47 rfl h (fun v2 h => ?_)
    refine r_aload_n rfl rfl ?_
    refine r_getR rfl fl_11_10 rfl h (fun v3 h => ?_)
    refine r_getR rfl fl_11_114 rfl h (fun v4 h => ?_)
    refine r_cv_v (vs := [va_rf v4]) rfl ml_11_211 rfl (rOk.of rfl) ⟨Nat.zero_le _, Nat.zero_le _⟩ rfl rfl rfl h s_X4_take (fun _ M2 h => ?_)
    refine r_iconst (v := 0) rfl (by decide) ?_
    refine r_istore_n (lo' := [some (va_rf r0), some (.int i1), some (.int (0 : Int32))]) rfl rfl rfl rfl ?_
    exact s_X11_balanced_25 FU _ _ _ _ h
set_option maxRecDepth 20000 in
theorem dk_X11_best : ∀ pc i, L_X11_best[pc]? = some (some i) → decode prog_1_method_22_code pc = .ok i := dk_of (by decide +kernel)
theorem s_X11_best {d : Nat} {P : Int32 → Mem → Prop} {r0 : Option Nat} {i1 : Int32} {M : Mem} (h : FQ (f_X11_best r0 i1 M) P) : Con Y_X11_best (d + 7) 0 0 [va_rf r0, .int i1] M (QI P) := by
  refine Con.of [some (va_rf r0), some (.int i1)] (by decide +kernel) dk_X11_best (by simp [Y_X11_best, cat_rf, cat_i, cat_l]) (by simp [loE, Y_X11_best, cat_rf, cat_i, cat_l, List.replicate]) ?_
  unfold f_X11_best at h
  refine r_iload_n rfl rfl ?_
  refine r_if_lt 9 rfl (by decide) h (fun h => ?_) (fun h => ?_)
  · refine r_bipush (v := -3) rfl (by decide) ?_
    exact r_iret rfl rfl ⟨Nat.le_of_ble_eq_true rfl, Nat.le_of_ble_eq_true rfl⟩ h
  · refine r_iload_n rfl rfl ?_
    refine r_iconst (v := 1) rfl (by decide) ?_
    refine r_ic_le 12 rfl (by decide) h (fun h => ?_) (fun h => ?_)
    · refine r_aload_n rfl rfl ?_
      refine r_aload_n rfl rfl ?_
      refine r_getR rfl fl_11_10 rfl h (fun v1 h => ?_)
      refine r_getR rfl fl_11_114 rfl h (fun v2 h => ?_)
      refine r_cv_i (vs := [va_rf v2]) rfl ml_11_230 rfl (rOk.of rfl) ⟨Nat.zero_le _, Nat.zero_le _⟩ rfl rfl rfl h s_X11_solved (fun v3 M1 h => ?_)
      refine r_if_ne 29 rfl (by decide) h (fun h => ?_) (fun h => ?_)
      · refine r_bipush (v := -2) rfl (by decide) ?_
        exact r_iret rfl rfl ⟨Nat.le_of_ble_eq_true rfl, Nat.le_of_ble_eq_true rfl⟩ h
      · refine r_iload_n rfl rfl ?_
        refine r_if_ne 45 rfl (by decide) h (fun h => ?_) (fun h => ?_)
        · refine r_aload_n rfl rfl ?_
          refine r_getR rfl fl_11_110 rfl h (fun v4 h => ?_)
          refine r_getR rfl fl_11_237 rfl h (fun v5 h => ?_)
          refine r_iconst (v := 0) rfl (by decide) ?_
          refine r_iald rfl h (fun v6 h => ?_)
          refine r_goto 54 rfl (by decide) ?_
          exact r_iret rfl rfl ⟨Nat.le_of_ble_eq_true rfl, Nat.le_of_ble_eq_true rfl⟩ h
        · refine r_aload_n rfl rfl ?_
          refine r_getR rfl fl_11_110 rfl h (fun v7 h => ?_)
          refine r_getR rfl fl_11_240 rfl h (fun v8 h => ?_)
          refine r_iconst (v := 0) rfl (by decide) ?_
          refine r_iald rfl h (fun v9 h => ?_)
          exact r_iret rfl rfl ⟨Nat.le_of_ble_eq_true rfl, Nat.le_of_ble_eq_true rfl⟩ h
    · refine r_bipush (v := -3) rfl (by decide) ?_
      exact r_iret rfl rfl ⟨Nat.le_of_ble_eq_true rfl, Nat.le_of_ble_eq_true rfl⟩ h
set_option maxRecDepth 20000 in
theorem dk_X11_isTextOrNone : ∀ pc i, L_X11_isTextOrNone[pc]? = some (some i) → decode prog_1_method_33_code pc = .ok i := dk_of (by decide +kernel)
theorem s_X11_isTextOrNone {d : Nat} {P : Int32 → Mem → Prop} {r0 : Option Nat} {i1 : Int32} {M : Mem} (h : FQ (f_X11_isTextOrNone r0 i1 M) P) : Con Y_X11_isTextOrNone d 0 0 [va_rf r0, .int i1] M (QI P) := by
  refine Con.of [some (va_rf r0), some (.int i1)] (by decide +kernel) dk_X11_isTextOrNone (by simp [Y_X11_isTextOrNone, cat_rf, cat_i, cat_l]) (by simp [loE, Y_X11_isTextOrNone, cat_rf, cat_i, cat_l, List.replicate]) ?_
  unfold f_X11_isTextOrNone at h
  refine r_iload_n rfl rfl ?_
  refine r_iconst (v := -1) rfl (by decide) ?_
  refine r_ic_lt 20 rfl (by decide) h (fun h => ?_) (fun h => ?_)
  · refine r_iconst (v := 0) rfl (by decide) ?_
    exact r_zret rfl rfl ⟨Nat.le_of_ble_eq_true rfl, Nat.le_of_ble_eq_true rfl⟩ h
  · refine r_iload_n rfl rfl ?_
    refine r_aload_n rfl rfl ?_
    refine r_getR rfl fl_11_10 rfl h (fun v1 h => ?_)
    refine r_getI rfl fl_11_141 rfl h (fun v2 h => ?_)
    refine r_ic_ge 20 rfl (by decide) h (fun h => ?_) (fun h => ?_)
    · refine r_iconst (v := 0) rfl (by decide) ?_
      exact r_zret rfl rfl ⟨Nat.le_of_ble_eq_true rfl, Nat.le_of_ble_eq_true rfl⟩ h
    · refine r_iconst (v := 1) rfl (by decide) ?_
      refine r_goto 21 rfl (by decide) ?_
      exact r_zret rfl rfl ⟨Nat.le_of_ble_eq_true rfl, Nat.le_of_ble_eq_true rfl⟩ h
set_option maxRecDepth 20000 in
theorem dk_X11_book : ∀ pc i, L_X11_book[pc]? = some (some i) → decode prog_1_method_9_code pc = .ok i := dk_of (by decide +kernel)
theorem s_X11_book {d : Nat} {P : Int32 → Mem → Prop} {r0 : Option Nat} {i1 : Int32} {M : Mem} (h : FQ (f_X11_book r0 i1 M) P) : Con Y_X11_book (d + 1) 0 0 [va_rf r0, .int i1] M (QI P) := by
  refine Con.of [some (va_rf r0), some (.int i1)] (by decide +kernel) dk_X11_book (by simp [Y_X11_book, cat_rf, cat_i, cat_l]) (by simp [loE, Y_X11_book, cat_rf, cat_i, cat_l, List.replicate]) ?_
  unfold f_X11_book at h
  refine r_aload_n rfl rfl ?_
  refine r_iload_n rfl rfl ?_
  refine r_cv_i (vs := [.int i1]) rfl ml_11_153 rfl (rOk.of rfl) ⟨Nat.zero_le _, Nat.zero_le _⟩ rfl rfl rfl h s_X11_isTextOrNone (fun v1 M1 h => ?_)
  refine r_if_ne 10 rfl (by decide) h (fun h => ?_) (fun h => ?_)
  · refine r_iconst (v := 0) rfl (by decide) ?_
    exact r_zret rfl rfl ⟨Nat.le_of_ble_eq_true rfl, Nat.le_of_ble_eq_true rfl⟩ h
  · refine r_aload_n rfl rfl ?_
    refine r_getR rfl fl_11_10 rfl h (fun v2 h => ?_)
    refine r_iload_n rfl rfl ?_
    refine r_putI rfl fl_11_156 (fun z => by cases z) rfl h (fun M2 h => ?_)
    refine r_iconst (v := 1) rfl (by decide) ?_
    exact r_zret rfl rfl ⟨Nat.le_of_ble_eq_true rfl, Nat.le_of_ble_eq_true rfl⟩ h
