/-! walked by program (wip/gen): X11_can X10_count X10_member X10_nth X11_draw X11_winner X11_drawnWinner X11_isSide X11_drawn X11_end X11_fault -/
def L_X11_can : List (Option (Instr × Nat)) := [some (.iload_n 1, 1), some (.invokestatic 125, 3), none, none, some (.ifCond .ne 5, 3), none, none, some (.iconst (-1), 1), some (.ireturn, 1), some (.aload_n 0, 1), some (.getfield 83, 3), none, none, some (.aload_n 0, 1), some (.getfield 10, 3), none, none, some (.getfield 114, 3), none, none, some (.aload_n 0, 1), some (.aload_n 0, 1), some (.getfield 10, 3), none, none, some (.getfield 156, 3), none, none, some (.invokevirtual 162, 3), none, none, some (.iconst 1, 1), some (.iload_n 1, 1), some (.ishl, 1), some (.invokevirtual 166, 3), none, none, some (.aload_n 0, 1), some (.getfield 83, 3), none, none, some (.getfield 170, 3), none, none, some (.ifCond .ne 5, 3), none, none, some (.iconst (-1), 1), some (.ireturn, 1), some (.iload_n 2, 1), some (.tableswitch 56 0 2 #[26, 36, 46], 26), none, none, none, none, none, none, none, none, none, none, none, none, none, none, none, none, none, none, none, none, none, none, none, none, none, some (.aload_n 0, 1), some (.getfield 83, 3), none, none, some (.getfield 173, 3), none, none, some (.iload_n 1, 1), some (.iaload, 1), some (.ireturn, 1), some (.aload_n 0, 1), some (.getfield 83, 3), none, none, some (.getfield 176, 3), none, none, some (.iload_n 1, 1), some (.iaload, 1), some (.ireturn, 1), some (.aload_n 0, 1), some (.getfield 83, 3), none, none, some (.getfield 179, 3), none, none, some (.iload_n 1, 1), some (.iaload, 1), some (.ireturn, 1), some (.iconst (-1), 1), some (.ireturn, 1)]
def Y_X11_can : YM := (⟨RX11, "can", "(II)I"⟩, prog_1_method_11_code, L_X11_can, 3, some .int)
def f_X11_can (r0 : Option Nat) (i1 : Int32) (i2 : Int32) (M : Mem) : Option (Int32 × Mem) :=
cA (f_X11_isMove i1 M) fun v1 M1 =>
(if v1 = 0 then
some ((-1 : Int32), M1)
else
gR M1 r0 11 8 fun v2 =>
gR M1 r0 11 2 fun v3 =>
gR M1 v3 7 0 fun v4 =>
gR M1 r0 11 2 fun v5 =>
gI M1 v5 7 5 fun v6 =>
cR M1 r0 (1, 11) (cA (f_X11_rules r0 v6 M1) fun v7 M2 =>
cR M2 v2 (1, 2) (cA (f_X2_look v2 v4 v7 ((1 : Int32) <<< (i1 &&& 31)) M2) fun _ M3 =>
gR M3 r0 11 8 fun v8 =>
gI M3 v8 2 3 fun v9 =>
(if v9 = 0 then
some ((-1 : Int32), M3)
else
(if i2 = (0 : Int32) then
gR M3 r0 11 8 fun v16 =>
gR M3 v16 2 0 fun v17 =>
aI M3 v17 2 i1 fun v18 =>
some (v18, M3)
else
(if i2 = (1 : Int32) then
gR M3 r0 11 8 fun v13 =>
gR M3 v13 2 1 fun v14 =>
aI M3 v14 2 i1 fun v15 =>
some (v15, M3)
else
(if i2 = (2 : Int32) then
gR M3 r0 11 8 fun v10 =>
gR M3 v10 2 2 fun v11 =>
aI M3 v11 2 i1 fun v12 =>
some (v12, M3)
else
some ((-1 : Int32), M3))))))))
def L_X10_count : List (Option (Instr × Nat)) := [some (.iconst 0, 1), some (.istore_n 2, 1), some (.iconst 0, 1), some (.istore_n 3, 1), some (.iload_n 3, 1), some (.bipush 56, 2), none, some (.if_icmp .ge 29, 3), none, none, some (.aload_n 0, 1), some (.getfield 11, 3), none, none, some (.iload_n 3, 1), some (.iaload, 1), some (.iload_n 1, 1), some (.iand, 1), some (.aload_n 0, 1), some (.getfield 11, 3), none, none, some (.iload_n 3, 1), some (.iaload, 1), some (.if_icmp .ne 6, 3), none, none, some (.iinc 2 1, 3), none, none, some (.iinc 3 1, 3), none, none, some (.goto (-29), 3), none, none, some (.iload_n 2, 1), some (.ireturn, 1)]
def Y_X10_count : YM := (⟨RX10, "count", "(I)I"⟩, prog_12_method_3_code, L_X10_count, 4, some .int)
def b_X10_count_4 (q4 : Option Nat → Int32 → Int32 → Int32 → Mem → Option (Int32 × Mem)) (r0 : Option Nat) (i1 : Int32) (i2 : Int32) (i3 : Int32) (M : Mem) : Option (Int32 × Mem) :=
(if (56 : Int32) ≤ i3 then
some (i2, M)
else
gR M r0 10 0 fun v1 =>
aI M v1 2 i3 fun v2 =>
gR M r0 10 0 fun v3 =>
aI M v3 2 i3 fun v4 =>
(if (v2 &&& i1) = v4 then
q4 r0 i1 (i2 + (1 : Int32)) (i3 + (1 : Int32)) M
else
q4 r0 i1 i2 (i3 + (1 : Int32)) M))
def f_X10_count_4 (n : Nat) : Option Nat → Int32 → Int32 → Int32 → Mem → Option (Int32 × Mem) := lpN (fun _ _ _ _ _ => none) (b_X10_count_4 ) n
def f_X10_count (r0 : Option Nat) (i1 : Int32) (M : Mem) : Option (Int32 × Mem) :=
f_X10_count_4 FU r0 i1 (0 : Int32) (0 : Int32) M
def L_X10_member : List (Option (Instr × Nat)) := [some (.iconst 0, 1), some (.istore_n 2, 1), some (.iconst 0, 1), some (.istore_n 3, 1), some (.iload_n 3, 1), some (.bipush 8, 2), none, some (.if_icmp .ge 27, 3), none, none, some (.iload_n 0, 1), some (.iconst 1, 1), some (.iload_n 3, 1), some (.ishl, 1), some (.iand, 1), some (.ifCond .eq 13, 3), none, none, some (.iload_n 2, 1), some (.iload_n 1, 1), some (.if_icmp .ne 5, 3), none, none, some (.iload_n 3, 1), some (.ireturn, 1), some (.iinc 2 1, 3), none, none, some (.iinc 3 1, 3), none, none, some (.goto (-27), 3), none, none, some (.iconst 0, 1), some (.ireturn, 1)]
def Y_X10_member : YM := (⟨RX10, "member", "(II)I"⟩, prog_12_method_7_code, L_X10_member, 4, some .int)
def b_X10_member_4 (q4 : Int32 → Int32 → Int32 → Int32 → Mem → Option (Int32 × Mem)) (i0 : Int32) (i1 : Int32) (i2 : Int32) (i3 : Int32) (M : Mem) : Option (Int32 × Mem) :=
(if (8 : Int32) ≤ i3 then
some ((0 : Int32), M)
else
(if (i0 &&& ((1 : Int32) <<< (i3 &&& 31))) = 0 then
q4 i0 i1 i2 (i3 + (1 : Int32)) M
else
(if i2 = i1 then
some (i3, M)
else
q4 i0 i1 (i2 + (1 : Int32)) (i3 + (1 : Int32)) M)))
def f_X10_member_4 (n : Nat) : Int32 → Int32 → Int32 → Int32 → Mem → Option (Int32 × Mem) := lpN (fun _ _ _ _ _ => none) (b_X10_member_4 ) n
def f_X10_member (i0 : Int32) (i1 : Int32) (M : Mem) : Option (Int32 × Mem) :=
f_X10_member_4 FU i0 i1 (0 : Int32) (0 : Int32) M
def L_X10_nth : List (Option (Instr × Nat)) := [some (.iconst 0, 1), some (.istore_n 3, 1), some (.iconst 0, 1), some (.istore 4, 2), none, some (.iload 4, 2), none, some (.bipush 56, 2), none, some (.if_icmp .ge 44, 3), none, none, some (.aload_n 0, 1), some (.getfield 11, 3), none, none, some (.iload 4, 2), none, some (.iaload, 1), some (.iload_n 1, 1), some (.iand, 1), some (.aload_n 0, 1), some (.getfield 11, 3), none, none, some (.iload 4, 2), none, some (.iaload, 1), some (.if_icmp .ne 19, 3), none, none, some (.iload_n 3, 1), some (.iload_n 2, 1), some (.if_icmp .ne 11, 3), none, none, some (.aload_n 0, 1), some (.getfield 11, 3), none, none, some (.iload 4, 2), none, some (.iaload, 1), some (.ireturn, 1), some (.iinc 3 1, 3), none, none, some (.iinc 4 1, 3), none, none, some (.goto (-45), 3), none, none, some (.iconst 0, 1), some (.ireturn, 1)]
def Y_X10_nth : YM := (⟨RX10, "nth", "(II)I"⟩, prog_12_method_4_code, L_X10_nth, 5, some .int)
def b_X10_nth_5 (q5 : Option Nat → Int32 → Int32 → Int32 → Int32 → Mem → Option (Int32 × Mem)) (r0 : Option Nat) (i1 : Int32) (i2 : Int32) (i3 : Int32) (i4 : Int32) (M : Mem) : Option (Int32 × Mem) :=
(if (56 : Int32) ≤ i4 then
some ((0 : Int32), M)
else
gR M r0 10 0 fun v1 =>
aI M v1 2 i4 fun v2 =>
gR M r0 10 0 fun v3 =>
aI M v3 2 i4 fun v4 =>
(if (v2 &&& i1) = v4 then
(if i3 = i2 then
gR M r0 10 0 fun v5 =>
aI M v5 2 i4 fun v6 =>
some (v6, M)
else
q5 r0 i1 i2 (i3 + (1 : Int32)) (i4 + (1 : Int32)) M)
else
q5 r0 i1 i2 i3 (i4 + (1 : Int32)) M))
def f_X10_nth_5 (n : Nat) : Option Nat → Int32 → Int32 → Int32 → Int32 → Mem → Option (Int32 × Mem) := lpN (fun _ _ _ _ _ _ => none) (b_X10_nth_5 ) n
def f_X10_nth (r0 : Option Nat) (i1 : Int32) (i2 : Int32) (M : Mem) : Option (Int32 × Mem) :=
f_X10_nth_5 FU r0 i1 i2 (0 : Int32) (0 : Int32) M
def L_X11_draw : List (Option (Instr × Nat)) := [some (.iload_n 1, 1), some (.ifCond .le 12, 3), none, none, some (.aload_n 0, 1), some (.getfield 224, 3), none, none, some (.iload_n 1, 1), some (.irem, 1), some (.goto 4, 3), none, none, some (.iconst 0, 1), some (.istore_n 2, 1), some (.aload_n 0, 1), some (.aload_n 0, 1), some (.getfield 224, 3), none, none, some (.sipush 157, 3), none, none, some (.imul, 1), some (.bipush 53, 2), none, some (.iadd, 1), some (.sipush 30113, 3), none, none, some (.irem, 1), some (.putfield 224, 3), none, none, some (.iload_n 2, 1), some (.ireturn, 1)]
def Y_X11_draw : YM := (⟨RX11, "draw", "(I)I"⟩, prog_1_method_45_code, L_X11_draw, 3, some .int)
def f_X11_draw (r0 : Option Nat) (i1 : Int32) (M : Mem) : Option (Int32 × Mem) :=
(if i1 ≤ 0 then
gI M r0 11 15 fun v1 =>
nzI (30113 : Int32) (
pI M r0 11 15 (((v1 * (157 : Int32)) + (53 : Int32)) - ((v1 * (157 : Int32)) + (53 : Int32)) / (30113 : Int32) * (30113 : Int32)) fun M1 =>
some ((0 : Int32), M1))
else
gI M r0 11 15 fun v2 =>
nzI i1 (
gI M r0 11 15 fun v3 =>
nzI (30113 : Int32) (
pI M r0 11 15 (((v3 * (157 : Int32)) + (53 : Int32)) - ((v3 * (157 : Int32)) + (53 : Int32)) / (30113 : Int32) * (30113 : Int32)) fun M2 =>
some ((v2 - v2 / i1 * i1), M2))))
def L_X11_winner : List (Option (Instr × Nat)) := [some (.aload_n 0, 1), some (.aload_n 1, 1), some (.invokevirtual 246, 3), none, none, some (.ifCond .eq 10, 3), none, none, some (.aload_n 1, 1), some (.getfield 131, 3), none, none, some (.goto 4, 3), none, none, some (.iconst (-1), 1), some (.ireturn, 1)]
def Y_X11_winner : YM := (⟨RX11, "winner", "(LGameOfNoes$Position;)I"⟩, prog_1_method_38_code, L_X11_winner, 2, some .int)
def f_X11_winner (r0 : Option Nat) (r1 : Option Nat) (M : Mem) : Option (Int32 × Mem) :=
cR M r0 (1, 11) (cA (f_X11_isOver r0 r1 M) fun v1 M1 =>
(if v1 = 0 then
some ((-1 : Int32), M1)
else
gI M1 r1 4 2 fun v2 =>
some (v2, M1)))
def L_X11_drawnWinner : List (Option (Instr × Nat)) := [some (.aload_n 0, 1), some (.getfield 47, 3), none, none, some (.aload_n 0, 1), some (.getfield 10, 3), none, none, some (.getfield 114, 3), none, none, some (.invokevirtual 211, 3), none, none, some (.iconst 0, 1), some (.istore_n 1, 1), some (.iload_n 1, 1), some (.bipush 30, 2), none, some (.if_icmp .ge 113, 3), none, none, some (.aload_n 0, 1), some (.aload_n 0, 1), some (.getfield 47, 3), none, none, some (.invokevirtual 246, 3), none, none, some (.ifCond .eq 11, 3), none, none, some (.aload_n 0, 1), some (.getfield 47, 3), none, none, some (.getfield 131, 3), none, none, some (.ireturn, 1), some (.aload_n 0, 1), some (.getfield 40, 3), none, none, some (.aload_n 0, 1), some (.getfield 83, 3), none, none, some (.getfield 170, 3), none, none, some (.aload_n 0, 1), some (.aload_n 0, 1), some (.getfield 40, 3), none, none, some (.aload_n 0, 1), some (.getfield 83, 3), none, none, some (.getfield 170, 3), none, none, some (.invokevirtual 324, 3), none, none, some (.invokevirtual 325, 3), none, none, some (.invokevirtual 328, 3), none, none, some (.istore_n 2, 1), some (.iload_n 2, 1), some (.aload_n 0, 1), some (.iconst 3, 1), some (.invokevirtual 325, 3), none, none, some (.invokestatic 331, 3), none, none, some (.istore_n 3, 1), some (.iload_n 2, 1), some (.iconst 1, 1), some (.iload_n 3, 1), some (.ishl, 1), some (.iconst (-1), 1), some (.ixor, 1), some (.iand, 1), some (.aload_n 0, 1), some (.iconst 2, 1), some (.invokevirtual 325, 3), none, none, some (.invokestatic 331, 3), none, none, some (.istore 4, 2), none, some (.aload_n 0, 1), some (.getfield 83, 3), none, none, some (.aload_n 0, 1), some (.getfield 47, 3), none, none, some (.aload_n 0, 1), some (.aload_n 0, 1), some (.getfield 10, 3), none, none, some (.getfield 156, 3), none, none, some (.invokevirtual 162, 3), none, none, some (.iload_n 3, 1), some (.iload 4, 2), none, some (.invokevirtual 303, 3), none, none, some (.iinc 1 1, 3), none, none, some (.goto (-113), 3), none, none, some (.aload_n 0, 1), some (.aload_n 0, 1), some (.getfield 47, 3), none, none, some (.invokevirtual 201, 3), none, none, some (.ireturn, 1)]
def Y_X11_drawnWinner : YM := (⟨RX11, "drawnWinner", "()I"⟩, prog_1_method_44_code, L_X11_drawnWinner, 5, some .int)
def b_X11_drawnWinner_16 (q16 : Option Nat → Int32 → Mem → Option (Int32 × Mem)) (r0 : Option Nat) (i1 : Int32) (M : Mem) : Option (Int32 × Mem) :=
(if (30 : Int32) ≤ i1 then
gR M r0 11 12 fun v1 =>
cR M r0 (1, 11) (cA (f_X11_winner r0 v1 M) fun v2 M1 =>
some (v2, M1))
else
gR M r0 11 12 fun v3 =>
cR M r0 (1, 11) (cA (f_X11_isOver r0 v3 M) fun v4 M2 =>
(if v4 = 0 then
gR M2 r0 11 7 fun v5 =>
gR M2 r0 11 8 fun v6 =>
gI M2 v6 2 3 fun v7 =>
gR M2 r0 11 7 fun v8 =>
gR M2 r0 11 8 fun v9 =>
gI M2 v9 2 3 fun v10 =>
cR M2 v8 (1, 10) (cA (f_X10_count v8 v10 M2) fun v11 M3 =>
cR M3 r0 (1, 11) (cA (f_X11_draw r0 v11 M3) fun v12 M4 =>
cR M4 v5 (1, 10) (cA (f_X10_nth v5 v7 v12 M4) fun v13 M5 =>
cR M5 r0 (1, 11) (cA (f_X11_draw r0 (3 : Int32) M5) fun v14 M6 =>
cA (f_X10_member v13 v14 M6) fun v15 M7 =>
cR M7 r0 (1, 11) (cA (f_X11_draw r0 (2 : Int32) M7) fun v16 M8 =>
cA (f_X10_member (v13 &&& (((1 : Int32) <<< (v15 &&& 31)) ^^^ (-1 : Int32))) v16 M8) fun v17 M9 =>
gR M9 r0 11 8 fun v18 =>
gR M9 r0 11 12 fun v19 =>
gR M9 r0 11 2 fun v20 =>
gI M9 v20 7 5 fun v21 =>
cR M9 r0 (1, 11) (cA (f_X11_rules r0 v21 M9) fun v22 M10 =>
cR M10 v18 (1, 2) (cA (f_X2_advance v18 v19 v22 v15 v17 M10) fun _ M11 =>
q16 r0 (i1 + (1 : Int32)) M11)))))))
else
gR M2 r0 11 12 fun v23 =>
gI M2 v23 4 2 fun v24 =>
some (v24, M2))))
def f_X11_drawnWinner_16 (n : Nat) : Option Nat → Int32 → Mem → Option (Int32 × Mem) := lpN (fun _ _ _ => none) (b_X11_drawnWinner_16 ) n
def f_X11_drawnWinner (r0 : Option Nat) (M : Mem) : Option (Int32 × Mem) :=
gR M r0 11 12 fun v1 =>
gR M r0 11 2 fun v2 =>
gR M v2 7 0 fun v3 =>
cR M v1 (1, 4) (cA (f_X4_take v1 v3 M) fun _ M1 =>
f_X11_drawnWinner_16 FU r0 (0 : Int32) M1)
def L_X11_isSide : List (Option (Instr × Nat)) := [some (.iload_n 0, 1), some (.ifCond .eq 8, 3), none, none, some (.iload_n 0, 1), some (.iconst 1, 1), some (.if_icmp .ne 7, 3), none, none, some (.iconst 1, 1), some (.goto 4, 3), none, none, some (.iconst 0, 1), some (.ireturn, 1)]
def Y_X11_isSide : YM := (⟨RX11, "isSide", "(I)Z"⟩, prog_1_method_31_code, L_X11_isSide, 1, some .boolean)
def f_X11_isSide (i0 : Int32) (M : Mem) : Option (Int32 × Mem) :=
(if i0 = 0 then
tv (1 : Int32) (some ((1 : Int32), M))
else
(if i0 = (1 : Int32) then
tv (1 : Int32) (some ((1 : Int32), M))
else
tv (0 : Int32) (some ((0 : Int32), M))))
def L_X11_drawn : List (Option (Instr × Nat)) := [some (.iload_n 1, 1), some (.ifCond .lt 28, 3), none, none, some (.iload_n 1, 1), some (.sipush 9999, 3), none, none, some (.if_icmp .gt 21, 3), none, none, some (.iload_n 2, 1), some (.iconst 1, 1), some (.if_icmp .lt 16, 3), none, none, some (.iload_n 2, 1), some (.bipush 20, 2), none, some (.if_icmp .gt 10, 3), none, none, some (.iload_n 3, 1), some (.invokestatic 121, 3), none, none, some (.ifCond .ne 5, 3), none, none, some (.iconst (-1), 1), some (.ireturn, 1), some (.aload_n 0, 1), some (.iload_n 1, 1), some (.bipush 7, 2), none, some (.imul, 1), some (.bipush 9, 2), none, some (.iadd, 1), some (.putfield 224, 3), none, none, some (.iconst 0, 1), some (.istore 4, 2), none, some (.iconst 0, 1), some (.istore 5, 2), none, some (.iload 5, 2), none, some (.iload_n 2, 1), some (.if_icmp .ge 20, 3), none, none, some (.aload_n 0, 1), some (.invokevirtual 227, 3), none, none, some (.iload_n 3, 1), some (.if_icmp .ne 6, 3), none, none, some (.iinc 4 1, 3), none, none, some (.iinc 5 1, 3), none, none, some (.goto (-20), 3), none, none, some (.iload 4, 2), none, some (.ireturn, 1)]
def Y_X11_drawn : YM := (⟨RX11, "drawn", "(III)I"⟩, prog_1_method_20_code, L_X11_drawn, 6, some .int)
def b_X11_drawn_48 (q48 : Option Nat → Int32 → Int32 → Int32 → Int32 → Mem → Option (Int32 × Mem)) (r0 : Option Nat) (i2 : Int32) (i3 : Int32) (i4 : Int32) (i5 : Int32) (M : Mem) : Option (Int32 × Mem) :=
(if i2 ≤ i5 then
some (i4, M)
else
cR M r0 (1, 11) (cA (f_X11_drawnWinner r0 M) fun v1 M1 =>
(if v1 = i3 then
q48 r0 i2 i3 (i4 + (1 : Int32)) (i5 + (1 : Int32)) M1
else
q48 r0 i2 i3 i4 (i5 + (1 : Int32)) M1)))
def f_X11_drawn_48 (n : Nat) : Option Nat → Int32 → Int32 → Int32 → Int32 → Mem → Option (Int32 × Mem) := lpN (fun _ _ _ _ _ _ => none) (b_X11_drawn_48 ) n
def f_X11_drawn (r0 : Option Nat) (i1 : Int32) (i2 : Int32) (i3 : Int32) (M : Mem) : Option (Int32 × Mem) :=
(if i1 < 0 then
some ((-1 : Int32), M)
else
(if (9999 : Int32) < i1 then
some ((-1 : Int32), M)
else
(if i2 < (1 : Int32) then
some ((-1 : Int32), M)
else
(if (20 : Int32) < i2 then
some ((-1 : Int32), M)
else
cA (f_X11_isSide i3 M) fun v1 M1 =>
(if v1 = 0 then
some ((-1 : Int32), M1)
else
pI M1 r0 11 15 ((i1 * (7 : Int32)) + (9 : Int32)) fun M2 =>
f_X11_drawn_48 FU r0 i2 i3 (0 : Int32) (0 : Int32) M2)))))
def L_X11_end : List (Option (Instr × Nat)) := [some (.iload_n 1, 1), some (.ifCond .lt 14, 3), none, none, some (.iload_n 1, 1), some (.aload_n 0, 1), some (.getfield 33, 3), none, none, some (.getfield 134, 3), none, none, some (.if_icmp .le 5, 3), none, none, some (.iconst (-1), 1), some (.ireturn, 1), some (.aload_n 0, 1), some (.getfield 33, 3), none, none, some (.iload_n 1, 1), some (.putfield 134, 3), none, none, some (.iload_n 1, 1), some (.ireturn, 1)]
def Y_X11_end : YM := (⟨RX11, "end", "(I)I"⟩, prog_1_method_6_code, L_X11_end, 2, some .int)
def f_X11_end (r0 : Option Nat) (i1 : Int32) (M : Mem) : Option (Int32 × Mem) :=
(if i1 < 0 then
some ((-1 : Int32), M)
else
gR M r0 11 6 fun v1 =>
gI M v1 5 1 fun v2 =>
(if i1 ≤ v2 then
gR M r0 11 6 fun v3 =>
pI M v3 5 1 i1 fun M1 =>
some (i1, M1)
else
some ((-1 : Int32), M)))
def L_X11_fault : List (Option (Instr × Nat)) := [some (.iload_n 1, 1), some (.lookupswitch 43 #[(0, 27), (1, 35)], 27), none, none, none, none, none, none, none, none, none, none, none, none, none, none, none, none, none, none, none, none, none, none, none, none, none, none, some (.aload_n 0, 1), some (.getfield 33, 3), none, none, some (.getfield 147, 3), none, none, some (.ireturn, 1), some (.aload_n 0, 1), some (.getfield 33, 3), none, none, some (.getfield 150, 3), none, none, some (.ireturn, 1), some (.iconst (-1), 1), some (.ireturn, 1)]
def Y_X11_fault : YM := (⟨RX11, "fault", "(I)I"⟩, prog_1_method_8_code, L_X11_fault, 2, some .int)
def f_X11_fault (r0 : Option Nat) (i1 : Int32) (M : Mem) : Option (Int32 × Mem) :=
(if i1 = (0 : Int32) then
gR M r0 11 6 fun v3 =>
gI M v3 5 2 fun v4 =>
some (v4, M)
else
(if i1 = (1 : Int32) then
gR M r0 11 6 fun v1 =>
gI M v1 5 3 fun v2 =>
some (v2, M)
else
some ((-1 : Int32), M)))
theorem fl_11_179 : FLk RX11 179 2 2 true := ⟨_, rfl, by decide, (gw_in 248 (by decide +kernel) (by decide +kernel)), rfl⟩
theorem fl_11_176 : FLk RX11 176 2 1 true := ⟨_, rfl, by decide, (gw_in 246 (by decide +kernel) (by decide +kernel)), rfl⟩
theorem fl_11_173 : FLk RX11 173 2 0 true := ⟨_, rfl, by decide, (gw_in 243 (by decide +kernel) (by decide +kernel)), rfl⟩
theorem fl_10_11 : FLk RX10 11 10 0 true := ⟨_, rfl, by decide, (gw_in 207 (by decide +kernel) (by decide +kernel)), rfl⟩
theorem fl_11_224 : FLk RX11 224 11 15 false := ⟨_, rfl, by decide, (gw_in 416 (by decide +kernel) (by decide +kernel)), rfl⟩
set_option maxRecDepth 30000 in
theorem ok_X11_winner : okY Y_X11_winner := ⟨(gw_in 880 rfl rfl), (gw_in 1 (by decide +kernel) (by decide +kernel)), by decide +kernel, by decide +kernel⟩
theorem ml_11_201 : MLv RX11 201 Y_X11_winner 1 := ⟨(gw_in 877 (by decide +kernel) (by decide +kernel)), (gw_in 879 (by decide +kernel) (by decide +kernel)), (gw_sel (n := 16) 25 (by decide +kernel) (by decide +kernel)), ok_X11_winner, by decide +kernel⟩
theorem fl_11_40 : FLk RX11 40 11 7 true := ⟨_, rfl, by decide, (gw_in 408 (by decide +kernel) (by decide +kernel)), rfl⟩
set_option maxRecDepth 30000 in
theorem ok_X10_count : okY Y_X10_count := ⟨(gw_in 786 rfl rfl), (gw_in 7 (by decide +kernel) (by decide +kernel)), by decide +kernel, by decide +kernel⟩
theorem ml_11_324 : MLv RX11 324 Y_X10_count 1 := ⟨(gw_in 925 (by decide +kernel) (by decide +kernel)), (gw_in 784 (by decide +kernel) (by decide +kernel)), (gw_in 785 (by decide +kernel) (by decide +kernel)), ok_X10_count, by decide +kernel⟩
set_option maxRecDepth 30000 in
theorem ok_X11_draw : okY Y_X11_draw := ⟨(gw_in 929 rfl rfl), (gw_in 1 (by decide +kernel) (by decide +kernel)), by decide +kernel, by decide +kernel⟩
theorem ml_11_325 : MLv RX11 325 Y_X11_draw 1 := ⟨(gw_in 926 (by decide +kernel) (by decide +kernel)), (gw_in 928 (by decide +kernel) (by decide +kernel)), (gw_sel (n := 16) 30 (by decide +kernel) (by decide +kernel)), ok_X11_draw, by decide +kernel⟩
set_option maxRecDepth 30000 in
theorem ok_X10_nth : okY Y_X10_nth := ⟨(gw_in 790 rfl rfl), (gw_in 7 (by decide +kernel) (by decide +kernel)), by decide +kernel, by decide +kernel⟩
theorem ml_11_328 : MLv RX11 328 Y_X10_nth 2 := ⟨(gw_in 930 (by decide +kernel) (by decide +kernel)), (gw_in 788 (by decide +kernel) (by decide +kernel)), (gw_in 789 (by decide +kernel) (by decide +kernel)), ok_X10_nth, by decide +kernel⟩
set_option maxRecDepth 30000 in
theorem ok_X10_member : okY Y_X10_member := ⟨(gw_in 796 rfl rfl), (gw_in 7 (by decide +kernel) (by decide +kernel)), by decide +kernel, by decide +kernel⟩
theorem ml_11_331 : MLs RX11 331 Y_X10_member 2 := ⟨(gw_in 931 (by decide +kernel) (by decide +kernel)), (gw_in 795 (by decide +kernel) (by decide +kernel)), ok_X10_member, by decide +kernel⟩
set_option maxRecDepth 30000 in
theorem ok_X11_drawnWinner : okY Y_X11_drawnWinner := ⟨(gw_in 924 rfl rfl), (gw_in 1 (by decide +kernel) (by decide +kernel)), by decide +kernel, by decide +kernel⟩
theorem ml_11_227 : MLv RX11 227 Y_X11_drawnWinner 0 := ⟨(gw_in 921 (by decide +kernel) (by decide +kernel)), (gw_in 923 (by decide +kernel) (by decide +kernel)), (gw_sel (n := 16) 29 (by decide +kernel) (by decide +kernel)), ok_X11_drawnWinner, by decide +kernel⟩
set_option maxRecDepth 30000 in
theorem ok_X11_isSide : okY Y_X11_isSide := ⟨(gw_in 462 rfl rfl), (gw_in 1 (by decide +kernel) (by decide +kernel)), by decide +kernel, by decide +kernel⟩
theorem ml_11_121 : MLs RX11 121 Y_X11_isSide 1 := ⟨(gw_in 460 (by decide +kernel) (by decide +kernel)), (gw_in 461 (by decide +kernel) (by decide +kernel)), ok_X11_isSide, by decide +kernel⟩
theorem fl_11_150 : FLk RX11 150 5 3 false := ⟨_, rfl, by decide, (gw_in 176 (by decide +kernel) (by decide +kernel)), rfl⟩
theorem fl_11_147 : FLk RX11 147 5 2 false := ⟨_, rfl, by decide, (gw_in 174 (by decide +kernel) (by decide +kernel)), rfl⟩
set_option maxRecDepth 20000 in
theorem dk_X11_can : ∀ pc i, L_X11_can[pc]? = some (some i) → decode prog_1_method_11_code pc = .ok i := dk_of (by decide +kernel)
theorem s_X11_can {d : Nat} {P : Int32 → Mem → Prop} {r0 : Option Nat} {i1 : Int32} {i2 : Int32} {M : Mem} (h : FQ (f_X11_can r0 i1 i2 M) P) : Con Y_X11_can (d + 4) 0 0 [va_rf r0, .int i1, .int i2] M (QI P) := by
  refine Con.of [some (va_rf r0), some (.int i1), some (.int i2)] (by decide +kernel) dk_X11_can (by simp [Y_X11_can, cat_rf, cat_i, cat_l]) (by simp [loE, Y_X11_can, cat_rf, cat_i, cat_l, List.replicate]) ?_
  unfold f_X11_can at h
  refine r_iload_n rfl rfl ?_
  refine r_cs_i (vs := [.int i1]) rfl ml_11_125 (rOk.of rfl) ⟨Nat.zero_le _, Nat.zero_le _⟩ rfl rfl rfl h s_X11_isMove (fun v1 M1 h => ?_)
  refine r_if_ne 9 rfl (by decide) h (fun h => ?_) (fun h => ?_)
  · refine r_iconst (v := -1) rfl (by decide) ?_
    exact r_iret rfl rfl ⟨Nat.le_of_ble_eq_true rfl, Nat.le_of_ble_eq_true rfl⟩ h
  · refine r_aload_n rfl rfl ?_
    refine r_getR rfl fl_11_83 rfl h (fun v2 h => ?_)
    refine r_aload_n rfl rfl ?_
    refine r_getR rfl fl_11_10 rfl h (fun v3 h => ?_)
    refine r_getR rfl fl_11_114 rfl h (fun v4 h => ?_)
    refine r_aload_n rfl rfl ?_
    refine r_aload_n rfl rfl ?_
    refine r_getR rfl fl_11_10 rfl h (fun v5 h => ?_)
    refine r_getI rfl fl_11_156 rfl h (fun v6 h => ?_)
    refine r_cv_r (vs := [.int v6]) rfl ml_11_162 rfl (rOk.of rfl) ⟨Nat.zero_le _, Nat.zero_le _⟩ rfl rfl rfl h s_X11_rules (fun v7 M2 h => ?_)
    refine r_iconst (v := 1) rfl (by decide) ?_
    refine r_iload_n rfl rfl ?_
    refine r_ishl rfl ?_
    refine r_cv_v (vs := [va_rf v4, va_rf v7, .int ((1 : Int32) <<< (i1 &&& 31))]) rfl ml_11_166 rfl (rOk.of rfl) ⟨Nat.zero_le _, Nat.zero_le _⟩ rfl rfl rfl h s_X2_look (fun _ M3 h => ?_)
    refine r_aload_n rfl rfl ?_
    refine r_getR rfl fl_11_83 rfl h (fun v8 h => ?_)
    refine r_getI rfl fl_11_170 rfl h (fun v9 h => ?_)
    refine r_if_ne 49 rfl (by decide) h (fun h => ?_) (fun h => ?_)
    · refine r_iconst (v := -1) rfl (by decide) ?_
      exact r_iret rfl rfl ⟨Nat.le_of_ble_eq_true rfl, Nat.le_of_ble_eq_true rfl⟩ h
    · refine r_iload_n rfl rfl ?_
      refine r_table (ks := [(0, 76), (1, 86), (2, 96)]) (dt := 106) rfl (by decide) (by decide) ?_
      refine r_swc h (fun h => ?_) (fun h => ?_)
      · refine r_aload_n rfl rfl ?_
        refine r_getR rfl fl_11_83 rfl h (fun v16 h => ?_)
        refine r_getR rfl fl_11_173 rfl h (fun v17 h => ?_)
        refine r_iload_n rfl rfl ?_
        refine r_iald rfl h (fun v18 h => ?_)
        exact r_iret rfl rfl ⟨Nat.le_of_ble_eq_true rfl, Nat.le_of_ble_eq_true rfl⟩ h
      · refine r_swc h (fun h => ?_) (fun h => ?_)
        · refine r_aload_n rfl rfl ?_
          refine r_getR rfl fl_11_83 rfl h (fun v13 h => ?_)
          refine r_getR rfl fl_11_176 rfl h (fun v14 h => ?_)
          refine r_iload_n rfl rfl ?_
          refine r_iald rfl h (fun v15 h => ?_)
          exact r_iret rfl rfl ⟨Nat.le_of_ble_eq_true rfl, Nat.le_of_ble_eq_true rfl⟩ h
        · refine r_swc h (fun h => ?_) (fun h => ?_)
          · refine r_aload_n rfl rfl ?_
            refine r_getR rfl fl_11_83 rfl h (fun v10 h => ?_)
            refine r_getR rfl fl_11_179 rfl h (fun v11 h => ?_)
            refine r_iload_n rfl rfl ?_
            refine r_iald rfl h (fun v12 h => ?_)
            exact r_iret rfl rfl ⟨Nat.le_of_ble_eq_true rfl, Nat.le_of_ble_eq_true rfl⟩ h
          · refine r_swd ?_
            refine r_iconst (v := -1) rfl (by decide) ?_
            exact r_iret rfl rfl ⟨Nat.le_of_ble_eq_true rfl, Nat.le_of_ble_eq_true rfl⟩ h
set_option maxRecDepth 20000 in
theorem dk_X10_count : ∀ pc i, L_X10_count[pc]? = some (some i) → decode prog_12_method_3_code pc = .ok i := dk_of (by decide +kernel)
theorem sb_X10_count_4 {d : Nat} {P : Int32 → Mem → Prop} {q4 : Option Nat → Int32 → Int32 → Int32 → Mem → Option (Int32 × Mem)} (hq4 : ∀ (r0 : Option Nat) (i1 : Int32) (i2 : Int32) (i3 : Int32) (M : Mem), FQ (q4 r0 i1 i2 i3 M) P → wp Y_X10_count (rmD d 0 0) (FM (QI P) 0 0) 0 0 4 [some (va_rf r0), some (.int i1), some (.int i2), some (.int i3)] [] M) (r0 : Option Nat) (i1 : Int32) (i2 : Int32) (i3 : Int32) (M : Mem) (h : FQ (b_X10_count_4 q4 r0 i1 i2 i3 M) P) : wp Y_X10_count (rmD d 0 0) (FM (QI P) 0 0) 0 0 4 [some (va_rf r0), some (.int i1), some (.int i2), some (.int i3)] [] M := by
  unfold b_X10_count_4 at h
  refine r_iload_n rfl rfl ?_
  refine r_bipush (v := 56) rfl (by decide) ?_
  refine r_ic_ge 36 rfl (by decide) h (fun h => ?_) (fun h => ?_)
  · refine r_iload_n rfl rfl ?_
    exact r_iret rfl rfl ⟨Nat.le_of_ble_eq_true rfl, Nat.le_of_ble_eq_true rfl⟩ h
  · refine r_aload_n rfl rfl ?_
    refine r_getR rfl fl_10_11 rfl h (fun v1 h => ?_)
    refine r_iload_n rfl rfl ?_
    refine r_iald rfl h (fun v2 h => ?_)
    refine r_iload_n rfl rfl ?_
    refine r_iand rfl ?_
    refine r_aload_n rfl rfl ?_
    refine r_getR rfl fl_10_11 rfl h (fun v3 h => ?_)
    refine r_iload_n rfl rfl ?_
    refine r_iald rfl h (fun v4 h => ?_)
    refine r_ic_ne 30 rfl (by decide) h (fun h => ?_) (fun h => ?_)
    · refine r_iinc (v := 1) (lo' := [some (va_rf r0), some (.int i1), some (.int (i2 + (1 : Int32))), some (.int i3)]) rfl rfl rfl (by decide) rfl rfl ?_
      refine r_iinc (v := 1) (lo' := [some (va_rf r0), some (.int i1), some (.int (i2 + (1 : Int32))), some (.int (i3 + (1 : Int32)))]) rfl rfl rfl (by decide) rfl rfl ?_
      refine r_goto 4 rfl (by decide) ?_
      exact hq4 _ _ _ _ _ h
    · refine r_iinc (v := 1) (lo' := [some (va_rf r0), some (.int i1), some (.int i2), some (.int (i3 + (1 : Int32)))]) rfl rfl rfl (by decide) rfl rfl ?_
      refine r_goto 4 rfl (by decide) ?_
      exact hq4 _ _ _ _ _ h
theorem s_X10_count_4 {d : Nat} {P : Int32 → Mem → Prop}   : ∀ (k : Nat) (r0 : Option Nat) (i1 : Int32) (i2 : Int32) (i3 : Int32) (M : Mem), FQ (f_X10_count_4  k r0 i1 i2 i3 M) P → wp Y_X10_count (rmD d 0 0) (FM (QI P) 0 0) 0 0 4 [some (va_rf r0), some (.int i1), some (.int i2), some (.int i3)] [] M
  | 0, _, _, _, _, _, h => h.no
  | k + 1, r0, i1, i2, i3, M, h => sb_X10_count_4  (s_X10_count_4  k) r0 i1 i2 i3 M h
theorem s_X10_count {d : Nat} {P : Int32 → Mem → Prop} {r0 : Option Nat} {i1 : Int32} {M : Mem} (h : FQ (f_X10_count r0 i1 M) P) : Con Y_X10_count d 0 0 [va_rf r0, .int i1] M (QI P) := by
  refine Con.of [some (va_rf r0), some (.int i1), none, none] (by decide +kernel) dk_X10_count (by simp [Y_X10_count, cat_rf, cat_i, cat_l]) (by simp [loE, Y_X10_count, cat_rf, cat_i, cat_l, List.replicate]) ?_
  unfold f_X10_count at h
  refine r_iconst (v := 0) rfl (by decide) ?_
  refine r_istore_n (lo' := [some (va_rf r0), some (.int i1), some (.int (0 : Int32)), none]) rfl rfl rfl rfl ?_
  refine r_iconst (v := 0) rfl (by decide) ?_
  refine r_istore_n (lo' := [some (va_rf r0), some (.int i1), some (.int (0 : Int32)), some (.int (0 : Int32))]) rfl rfl rfl rfl ?_
  exact s_X10_count_4 FU _ _ _ _ _ h
set_option maxRecDepth 20000 in
theorem dk_X10_member : ∀ pc i, L_X10_member[pc]? = some (some i) → decode prog_12_method_7_code pc = .ok i := dk_of (by decide +kernel)
theorem sb_X10_member_4 {d : Nat} {P : Int32 → Mem → Prop} {q4 : Int32 → Int32 → Int32 → Int32 → Mem → Option (Int32 × Mem)} (hq4 : ∀ (i0 : Int32) (i1 : Int32) (i2 : Int32) (i3 : Int32) (M : Mem), FQ (q4 i0 i1 i2 i3 M) P → wp Y_X10_member (rmD d 0 0) (FM (QI P) 0 0) 0 0 4 [some (.int i0), some (.int i1), some (.int i2), some (.int i3)] [] M) (i0 : Int32) (i1 : Int32) (i2 : Int32) (i3 : Int32) (M : Mem) (h : FQ (b_X10_member_4 q4 i0 i1 i2 i3 M) P) : wp Y_X10_member (rmD d 0 0) (FM (QI P) 0 0) 0 0 4 [some (.int i0), some (.int i1), some (.int i2), some (.int i3)] [] M := by
  unfold b_X10_member_4 at h
  refine r_iload_n rfl rfl ?_
  refine r_bipush (v := 8) rfl (by decide) ?_
  refine r_ic_ge 34 rfl (by decide) h (fun h => ?_) (fun h => ?_)
  · refine r_iconst (v := 0) rfl (by decide) ?_
    exact r_iret rfl rfl ⟨Nat.le_of_ble_eq_true rfl, Nat.le_of_ble_eq_true rfl⟩ h
  · refine r_iload_n rfl rfl ?_
    refine r_iconst (v := 1) rfl (by decide) ?_
    refine r_iload_n rfl rfl ?_
    refine r_ishl rfl ?_
    refine r_iand rfl ?_
    refine r_if_eq 28 rfl (by decide) h (fun h => ?_) (fun h => ?_)
    · refine r_iinc (v := 1) (lo' := [some (.int i0), some (.int i1), some (.int i2), some (.int (i3 + (1 : Int32)))]) rfl rfl rfl (by decide) rfl rfl ?_
      refine r_goto 4 rfl (by decide) ?_
      exact hq4 _ _ _ _ _ h
    · refine r_iload_n rfl rfl ?_
      refine r_iload_n rfl rfl ?_
      refine r_ic_ne 25 rfl (by decide) h (fun h => ?_) (fun h => ?_)
      · refine r_iload_n rfl rfl ?_
        exact r_iret rfl rfl ⟨Nat.le_of_ble_eq_true rfl, Nat.le_of_ble_eq_true rfl⟩ h
      · refine r_iinc (v := 1) (lo' := [some (.int i0), some (.int i1), some (.int (i2 + (1 : Int32))), some (.int i3)]) rfl rfl rfl (by decide) rfl rfl ?_
        refine r_iinc (v := 1) (lo' := [some (.int i0), some (.int i1), some (.int (i2 + (1 : Int32))), some (.int (i3 + (1 : Int32)))]) rfl rfl rfl (by decide) rfl rfl ?_
        refine r_goto 4 rfl (by decide) ?_
        exact hq4 _ _ _ _ _ h
theorem s_X10_member_4 {d : Nat} {P : Int32 → Mem → Prop}   : ∀ (k : Nat) (i0 : Int32) (i1 : Int32) (i2 : Int32) (i3 : Int32) (M : Mem), FQ (f_X10_member_4  k i0 i1 i2 i3 M) P → wp Y_X10_member (rmD d 0 0) (FM (QI P) 0 0) 0 0 4 [some (.int i0), some (.int i1), some (.int i2), some (.int i3)] [] M
  | 0, _, _, _, _, _, h => h.no
  | k + 1, i0, i1, i2, i3, M, h => sb_X10_member_4  (s_X10_member_4  k) i0 i1 i2 i3 M h
theorem s_X10_member {d : Nat} {P : Int32 → Mem → Prop} {i0 : Int32} {i1 : Int32} {M : Mem} (h : FQ (f_X10_member i0 i1 M) P) : Con Y_X10_member d 0 0 [.int i0, .int i1] M (QI P) := by
  refine Con.of [some (.int i0), some (.int i1), none, none] (by decide +kernel) dk_X10_member (by simp [Y_X10_member, cat_rf, cat_i, cat_l]) (by simp [loE, Y_X10_member, cat_rf, cat_i, cat_l, List.replicate]) ?_
  unfold f_X10_member at h
  refine r_iconst (v := 0) rfl (by decide) ?_
  refine r_istore_n (lo' := [some (.int i0), some (.int i1), some (.int (0 : Int32)), none]) rfl rfl rfl rfl ?_
  refine r_iconst (v := 0) rfl (by decide) ?_
  refine r_istore_n (lo' := [some (.int i0), some (.int i1), some (.int (0 : Int32)), some (.int (0 : Int32))]) rfl rfl rfl rfl ?_
  exact s_X10_member_4 FU _ _ _ _ _ h
set_option maxRecDepth 20000 in
theorem dk_X10_nth : ∀ pc i, L_X10_nth[pc]? = some (some i) → decode prog_12_method_4_code pc = .ok i := dk_of (by decide +kernel)
theorem sb_X10_nth_5 {d : Nat} {P : Int32 → Mem → Prop} {q5 : Option Nat → Int32 → Int32 → Int32 → Int32 → Mem → Option (Int32 × Mem)} (hq5 : ∀ (r0 : Option Nat) (i1 : Int32) (i2 : Int32) (i3 : Int32) (i4 : Int32) (M : Mem), FQ (q5 r0 i1 i2 i3 i4 M) P → wp Y_X10_nth (rmD d 0 0) (FM (QI P) 0 0) 0 0 5 [some (va_rf r0), some (.int i1), some (.int i2), some (.int i3), some (.int i4)] [] M) (r0 : Option Nat) (i1 : Int32) (i2 : Int32) (i3 : Int32) (i4 : Int32) (M : Mem) (h : FQ (b_X10_nth_5 q5 r0 i1 i2 i3 i4 M) P) : wp Y_X10_nth (rmD d 0 0) (FM (QI P) 0 0) 0 0 5 [some (va_rf r0), some (.int i1), some (.int i2), some (.int i3), some (.int i4)] [] M := by
  unfold b_X10_nth_5 at h
  refine r_iload rfl rfl ?_
  refine r_bipush (v := 56) rfl (by decide) ?_
  refine r_ic_ge 53 rfl (by decide) h (fun h => ?_) (fun h => ?_)
  · refine r_iconst (v := 0) rfl (by decide) ?_
    exact r_iret rfl rfl ⟨Nat.le_of_ble_eq_true rfl, Nat.le_of_ble_eq_true rfl⟩ h
  · refine r_aload_n rfl rfl ?_
    refine r_getR rfl fl_10_11 rfl h (fun v1 h => ?_)
    refine r_iload rfl rfl ?_
    refine r_iald rfl h (fun v2 h => ?_)
    refine r_iload_n rfl rfl ?_
    refine r_iand rfl ?_
    refine r_aload_n rfl rfl ?_
    refine r_getR rfl fl_10_11 rfl h (fun v3 h => ?_)
    refine r_iload rfl rfl ?_
    refine r_iald rfl h (fun v4 h => ?_)
    refine r_ic_ne 47 rfl (by decide) h (fun h => ?_) (fun h => ?_)
    · refine r_iload_n rfl rfl ?_
      refine r_iload_n rfl rfl ?_
      refine r_ic_ne 44 rfl (by decide) h (fun h => ?_) (fun h => ?_)
      · refine r_aload_n rfl rfl ?_
        refine r_getR rfl fl_10_11 rfl h (fun v5 h => ?_)
        refine r_iload rfl rfl ?_
        refine r_iald rfl h (fun v6 h => ?_)
        exact r_iret rfl rfl ⟨Nat.le_of_ble_eq_true rfl, Nat.le_of_ble_eq_true rfl⟩ h
      · refine r_iinc (v := 1) (lo' := [some (va_rf r0), some (.int i1), some (.int i2), some (.int (i3 + (1 : Int32))), some (.int i4)]) rfl rfl rfl (by decide) rfl rfl ?_
        refine r_iinc (v := 1) (lo' := [some (va_rf r0), some (.int i1), some (.int i2), some (.int (i3 + (1 : Int32))), some (.int (i4 + (1 : Int32)))]) rfl rfl rfl (by decide) rfl rfl ?_
        refine r_goto 5 rfl (by decide) ?_
        exact hq5 _ _ _ _ _ _ h
    · refine r_iinc (v := 1) (lo' := [some (va_rf r0), some (.int i1), some (.int i2), some (.int i3), some (.int (i4 + (1 : Int32)))]) rfl rfl rfl (by decide) rfl rfl ?_
      refine r_goto 5 rfl (by decide) ?_
      exact hq5 _ _ _ _ _ _ h
theorem s_X10_nth_5 {d : Nat} {P : Int32 → Mem → Prop}   : ∀ (k : Nat) (r0 : Option Nat) (i1 : Int32) (i2 : Int32) (i3 : Int32) (i4 : Int32) (M : Mem), FQ (f_X10_nth_5  k r0 i1 i2 i3 i4 M) P → wp Y_X10_nth (rmD d 0 0) (FM (QI P) 0 0) 0 0 5 [some (va_rf r0), some (.int i1), some (.int i2), some (.int i3), some (.int i4)] [] M
  | 0, _, _, _, _, _, _, h => h.no
  | k + 1, r0, i1, i2, i3, i4, M, h => sb_X10_nth_5  (s_X10_nth_5  k) r0 i1 i2 i3 i4 M h
theorem s_X10_nth {d : Nat} {P : Int32 → Mem → Prop} {r0 : Option Nat} {i1 : Int32} {i2 : Int32} {M : Mem} (h : FQ (f_X10_nth r0 i1 i2 M) P) : Con Y_X10_nth d 0 0 [va_rf r0, .int i1, .int i2] M (QI P) := by
  refine Con.of [some (va_rf r0), some (.int i1), some (.int i2), none, none] (by decide +kernel) dk_X10_nth (by simp [Y_X10_nth, cat_rf, cat_i, cat_l]) (by simp [loE, Y_X10_nth, cat_rf, cat_i, cat_l, List.replicate]) ?_
  unfold f_X10_nth at h
  refine r_iconst (v := 0) rfl (by decide) ?_
  refine r_istore_n (lo' := [some (va_rf r0), some (.int i1), some (.int i2), some (.int (0 : Int32)), none]) rfl rfl rfl rfl ?_
  refine r_iconst (v := 0) rfl (by decide) ?_
  refine r_istore (lo' := [some (va_rf r0), some (.int i1), some (.int i2), some (.int (0 : Int32)), some (.int (0 : Int32))]) rfl rfl rfl rfl ?_
  exact s_X10_nth_5 FU _ _ _ _ _ _ h
set_option maxRecDepth 20000 in
theorem dk_X11_draw : ∀ pc i, L_X11_draw[pc]? = some (some i) → decode prog_1_method_45_code pc = .ok i := dk_of (by decide +kernel)
theorem s_X11_draw {d : Nat} {P : Int32 → Mem → Prop} {r0 : Option Nat} {i1 : Int32} {M : Mem} (h : FQ (f_X11_draw r0 i1 M) P) : Con Y_X11_draw d 0 0 [va_rf r0, .int i1] M (QI P) := by
  refine Con.of [some (va_rf r0), some (.int i1), none] (by decide +kernel) dk_X11_draw (by simp [Y_X11_draw, cat_rf, cat_i, cat_l]) (by simp [loE, Y_X11_draw, cat_rf, cat_i, cat_l, List.replicate]) ?_
  unfold f_X11_draw at h
  refine r_iload_n rfl rfl ?_
  refine r_if_le 13 rfl (by decide) h (fun h => ?_) (fun h => ?_)
  · refine r_iconst (v := 0) rfl (by decide) ?_
    refine r_istore_n (lo' := [some (va_rf r0), some (.int i1), some (.int (0 : Int32))]) rfl rfl rfl rfl ?_
    refine r_aload_n rfl rfl ?_
    refine r_aload_n rfl rfl ?_
    refine r_getI rfl fl_11_224 rfl h (fun v1 h => ?_)
    refine r_sipush (v := 157) rfl (by decide) ?_
    refine r_imul rfl ?_
    refine r_bipush (v := 53) rfl (by decide) ?_
    refine r_iadd rfl ?_
    refine r_sipush (v := 30113) rfl (by decide) ?_
    refine r_irem rfl h (fun h => ?_)
    refine r_putI rfl fl_11_224 (fun z => by cases z) rfl h (fun M1 h => ?_)
    refine r_iload_n rfl rfl ?_
    exact r_iret rfl rfl ⟨Nat.le_of_ble_eq_true rfl, Nat.le_of_ble_eq_true rfl⟩ h
  · refine r_aload_n rfl rfl ?_
    refine r_getI rfl fl_11_224 rfl h (fun v2 h => ?_)
    refine r_iload_n rfl rfl ?_
    refine r_irem rfl h (fun h => ?_)
    refine r_goto 14 rfl (by decide) ?_
    refine r_istore_n (lo' := [some (va_rf r0), some (.int i1), some (.int (v2 - v2 / i1 * i1))]) rfl rfl rfl rfl ?_
    refine r_aload_n rfl rfl ?_
    refine r_aload_n rfl rfl ?_
    refine r_getI rfl fl_11_224 rfl h (fun v3 h => ?_)
    refine r_sipush (v := 157) rfl (by decide) ?_
    refine r_imul rfl ?_
    refine r_bipush (v := 53) rfl (by decide) ?_
    refine r_iadd rfl ?_
    refine r_sipush (v := 30113) rfl (by decide) ?_
    refine r_irem rfl h (fun h => ?_)
    refine r_putI rfl fl_11_224 (fun z => by cases z) rfl h (fun M2 h => ?_)
    refine r_iload_n rfl rfl ?_
    exact r_iret rfl rfl ⟨Nat.le_of_ble_eq_true rfl, Nat.le_of_ble_eq_true rfl⟩ h
set_option maxRecDepth 20000 in
theorem dk_X11_winner : ∀ pc i, L_X11_winner[pc]? = some (some i) → decode prog_1_method_38_code pc = .ok i := dk_of (by decide +kernel)
theorem s_X11_winner {d : Nat} {P : Int32 → Mem → Prop} {r0 : Option Nat} {r1 : Option Nat} {M : Mem} (h : FQ (f_X11_winner r0 r1 M) P) : Con Y_X11_winner (d + 5) 0 0 [va_rf r0, va_rf r1] M (QI P) := by
  refine Con.of [some (va_rf r0), some (va_rf r1)] (by decide +kernel) dk_X11_winner (by simp [Y_X11_winner, cat_rf, cat_i, cat_l]) (by simp [loE, Y_X11_winner, cat_rf, cat_i, cat_l, List.replicate]) ?_
  unfold f_X11_winner at h
  refine r_aload_n rfl rfl ?_
  refine r_aload_n rfl rfl ?_
  refine r_cv_i (vs := [va_rf r1]) rfl ml_11_246 rfl (rOk.of rfl) ⟨Nat.zero_le _, Nat.zero_le _⟩ rfl rfl rfl h s_X11_isOver (fun v1 M1 h => ?_)
  refine r_if_eq 15 rfl (by decide) h (fun h => ?_) (fun h => ?_)
  · refine r_iconst (v := -1) rfl (by decide) ?_
    exact r_iret rfl rfl ⟨Nat.le_of_ble_eq_true rfl, Nat.le_of_ble_eq_true rfl⟩ h
  · refine r_aload_n rfl rfl ?_
    refine r_getI rfl fl_11_131 rfl h (fun v2 h => ?_)
    refine r_goto 16 rfl (by decide) ?_
    exact r_iret rfl rfl ⟨Nat.le_of_ble_eq_true rfl, Nat.le_of_ble_eq_true rfl⟩ h
set_option maxRecDepth 20000 in
theorem dk_X11_drawnWinner : ∀ pc i, L_X11_drawnWinner[pc]? = some (some i) → decode prog_1_method_44_code pc = .ok i := dk_of (by decide +kernel)
theorem sb_X11_drawnWinner_16 {d : Nat} {P : Int32 → Mem → Prop} {q16 : Option Nat → Int32 → Mem → Option (Int32 × Mem)} (hq16 : ∀ (r0 : Option Nat) (i1 : Int32) (M : Mem), FQ (q16 r0 i1 M) P → wp Y_X11_drawnWinner (rmD (d + 6) 0 0) (FM (QI P) 0 0) 0 0 16 [some (va_rf r0), some (.int i1), none, none, none] [] M) (r0 : Option Nat) (i1 : Int32) (M : Mem) (h : FQ (b_X11_drawnWinner_16 q16 r0 i1 M) P) : wp Y_X11_drawnWinner (rmD (d + 6) 0 0) (FM (QI P) 0 0) 0 0 16 [some (va_rf r0), some (.int i1), none, none, none] [] M := by
  unfold b_X11_drawnWinner_16 at h
  refine r_iload_n rfl rfl ?_
  refine r_bipush (v := 30) rfl (by decide) ?_
  refine r_ic_ge 132 rfl (by decide) h (fun h => ?_) (fun h => ?_)
  · refine r_aload_n rfl rfl ?_
    refine r_aload_n rfl rfl ?_
    refine r_getR rfl fl_11_47 rfl h (fun v1 h => ?_)
    refine r_cv_i (vs := [va_rf v1]) rfl ml_11_201 rfl (rOk.of rfl) ⟨Nat.zero_le _, Nat.zero_le _⟩ rfl rfl rfl h s_X11_winner (fun v2 M1 h => ?_)
    exact r_iret rfl rfl ⟨Nat.le_of_ble_eq_true rfl, Nat.le_of_ble_eq_true rfl⟩ h
  · refine r_aload_n rfl rfl ?_
    refine r_aload_n rfl rfl ?_
    refine r_getR rfl fl_11_47 rfl h (fun v3 h => ?_)
    refine r_cv_i (vs := [va_rf v3]) rfl ml_11_246 rfl (rOk.of rfl) ⟨Nat.zero_le _, Nat.zero_le _⟩ rfl rfl rfl h s_X11_isOver (fun v4 M2 h => ?_)
    refine r_if_eq 41 rfl (by decide) h (fun h => ?_) (fun h => ?_)
    · refine r_aload_n rfl rfl ?_
      refine r_getR rfl fl_11_40 rfl h (fun v5 h => ?_)
      refine r_aload_n rfl rfl ?_
      refine r_getR rfl fl_11_83 rfl h (fun v6 h => ?_)
      refine r_getI rfl fl_11_170 rfl h (fun v7 h => ?_)
      refine r_aload_n rfl rfl ?_
      refine r_aload_n rfl rfl ?_
      refine r_getR rfl fl_11_40 rfl h (fun v8 h => ?_)
      refine r_aload_n rfl rfl ?_
      refine r_getR rfl fl_11_83 rfl h (fun v9 h => ?_)
      refine r_getI rfl fl_11_170 rfl h (fun v10 h => ?_)
      refine r_cv_i (vs := [.int v10]) rfl ml_11_324 rfl (rOk.of rfl) ⟨Nat.zero_le _, Nat.zero_le _⟩ rfl rfl rfl h s_X10_count (fun v11 M3 h => ?_)
      refine r_cv_i (vs := [.int v11]) rfl ml_11_325 rfl (rOk.of rfl) ⟨Nat.zero_le _, Nat.zero_le _⟩ rfl rfl rfl h s_X11_draw (fun v12 M4 h => ?_)
      refine r_cv_i (vs := [.int v7, .int v12]) rfl ml_11_328 rfl (rOk.of rfl) ⟨Nat.zero_le _, Nat.zero_le _⟩ rfl rfl rfl h s_X10_nth (fun v13 M5 h => ?_)
      refine r_istore_n (lo' := [some (va_rf r0), some (.int i1), some (.int v13), none, none]) rfl rfl rfl rfl ?_
      refine r_iload_n rfl rfl ?_
      refine r_aload_n rfl rfl ?_
      refine r_iconst (v := 3) rfl (by decide) ?_
      refine r_cv_i (vs := [.int (3 : Int32)]) rfl ml_11_325 rfl (rOk.of rfl) ⟨Nat.zero_le _, Nat.zero_le _⟩ rfl rfl rfl h s_X11_draw (fun v14 M6 h => ?_)
      refine r_cs_i (vs := [.int v13, .int v14]) rfl ml_11_331 (rOk.of rfl) ⟨Nat.zero_le _, Nat.zero_le _⟩ rfl rfl rfl h s_X10_member (fun v15 M7 h => ?_)
      refine r_istore_n (lo' := [some (va_rf r0), some (.int i1), some (.int v13), some (.int v15), none]) rfl rfl rfl rfl ?_
      refine r_iload_n rfl rfl ?_
      refine r_iconst (v := 1) rfl (by decide) ?_
      refine r_iload_n rfl rfl ?_
      refine r_ishl rfl ?_
      refine r_iconst (v := -1) rfl (by decide) ?_
      refine r_ixor rfl ?_
      refine r_iand rfl ?_
      refine r_aload_n rfl rfl ?_
      refine r_iconst (v := 2) rfl (by decide) ?_
      refine r_cv_i (vs := [.int (2 : Int32)]) rfl ml_11_325 rfl (rOk.of rfl) ⟨Nat.zero_le _, Nat.zero_le _⟩ rfl rfl rfl h s_X11_draw (fun v16 M8 h => ?_)
      refine r_cs_i (vs := [.int (v13 &&& (((1 : Int32) <<< (v15 &&& 31)) ^^^ (-1 : Int32))), .int v16]) rfl ml_11_331 (rOk.of rfl) ⟨Nat.zero_le _, Nat.zero_le _⟩ rfl rfl rfl h s_X10_member (fun v17 M9 h => ?_)
      refine r_istore (lo' := [some (va_rf r0), some (.int i1), some (.int v13), some (.int v15), some (.int v17)]) rfl rfl rfl rfl ?_
      refine r_aload_n rfl rfl ?_
      refine r_getR rfl fl_11_83 rfl h (fun v18 h => ?_)
      refine r_aload_n rfl rfl ?_
      refine r_getR rfl fl_11_47 rfl h (fun v19 h => ?_)
      refine r_aload_n rfl rfl ?_
      refine r_aload_n rfl rfl ?_
      refine r_getR rfl fl_11_10 rfl h (fun v20 h => ?_)
      refine r_getI rfl fl_11_156 rfl h (fun v21 h => ?_)
      refine r_cv_r (vs := [.int v21]) rfl ml_11_162 rfl (rOk.of rfl) ⟨Nat.zero_le _, Nat.zero_le _⟩ rfl rfl rfl h s_X11_rules (fun v22 M10 h => ?_)
      refine r_iload_n rfl rfl ?_
      refine r_iload rfl rfl ?_
      refine r_cv_v (vs := [va_rf v19, va_rf v22, .int v15, .int v17]) rfl ml_11_303 rfl (rOk.of rfl) ⟨Nat.zero_le _, Nat.zero_le _⟩ rfl rfl rfl h s_X2_advance (fun _ M11 h => ?_)
      refine r_iinc (v := 1) (lo' := [some (va_rf r0), some (.int (i1 + (1 : Int32))), some (.int v13), some (.int v15), some (.int v17)]) rfl rfl rfl (by decide) (by simp [stOk, cat_rf]) rfl ?_
      refine r_goto 16 rfl (by decide) ?_
      refine r_msk [true, true, false, false, false] rfl ?_
      exact hq16 _ _ _ h
    · refine r_aload_n rfl rfl ?_
      refine r_getR rfl fl_11_47 rfl h (fun v23 h => ?_)
      refine r_getI rfl fl_11_131 rfl h (fun v24 h => ?_)
      exact r_iret rfl rfl ⟨Nat.le_of_ble_eq_true rfl, Nat.le_of_ble_eq_true rfl⟩ h
theorem s_X11_drawnWinner_16 {d : Nat} {P : Int32 → Mem → Prop}   : ∀ (k : Nat) (r0 : Option Nat) (i1 : Int32) (M : Mem), FQ (f_X11_drawnWinner_16  k r0 i1 M) P → wp Y_X11_drawnWinner (rmD (d + 6) 0 0) (FM (QI P) 0 0) 0 0 16 [some (va_rf r0), some (.int i1), none, none, none] [] M
  | 0, _, _, _, h => h.no
  | k + 1, r0, i1, M, h => sb_X11_drawnWinner_16  (s_X11_drawnWinner_16  k) r0 i1 M h
theorem s_X11_drawnWinner {d : Nat} {P : Int32 → Mem → Prop} {r0 : Option Nat} {M : Mem} (h : FQ (f_X11_drawnWinner r0 M) P) : Con Y_X11_drawnWinner (d + 6) 0 0 [va_rf r0] M (QI P) := by
  refine Con.of [some (va_rf r0), none, none, none, none] (by decide +kernel) dk_X11_drawnWinner (by simp [Y_X11_drawnWinner, cat_rf, cat_i, cat_l]) (by simp [loE, Y_X11_drawnWinner, cat_rf, cat_i, cat_l, List.replicate]) ?_
  unfold f_X11_drawnWinner at h
  refine r_aload_n rfl rfl ?_
  refine r_getR rfl fl_11_47 rfl h (fun v1 h => ?_)
  refine r_aload_n rfl rfl ?_
  refine r_getR rfl fl_11_10 rfl h (fun v2 h => ?_)
  refine r_getR rfl fl_11_114 rfl h (fun v3 h => ?_)
  refine r_cv_v (vs := [va_rf v3]) rfl ml_11_211 rfl (rOk.of rfl) ⟨Nat.zero_le _, Nat.zero_le _⟩ rfl rfl rfl h s_X4_take (fun _ M1 h => ?_)
  refine r_iconst (v := 0) rfl (by decide) ?_
  refine r_istore_n (lo' := [some (va_rf r0), some (.int (0 : Int32)), none, none, none]) rfl rfl (by simp [stOk, cat_rf]) rfl ?_
  exact s_X11_drawnWinner_16 FU _ _ _ h
set_option maxRecDepth 20000 in
theorem dk_X11_isSide : ∀ pc i, L_X11_isSide[pc]? = some (some i) → decode prog_1_method_31_code pc = .ok i := dk_of (by decide +kernel)
theorem s_X11_isSide {d : Nat} {P : Int32 → Mem → Prop} {i0 : Int32} {M : Mem} (h : FQ (f_X11_isSide i0 M) P) : Con Y_X11_isSide d 0 0 [.int i0] M (QI P) := by
  refine Con.of [some (.int i0)] (by decide +kernel) dk_X11_isSide (by simp [Y_X11_isSide, cat_rf, cat_i, cat_l]) (by simp [loE, Y_X11_isSide, cat_rf, cat_i, cat_l, List.replicate]) ?_
  unfold f_X11_isSide at h
  refine r_iload_n rfl rfl ?_
  refine r_if_eq 9 rfl (by decide) h (fun h => ?_) (fun h => ?_)
  · refine r_iconst (v := 1) rfl (by decide) ?_
    refine r_goto 14 rfl (by decide) ?_
    exact r_zret rfl rfl ⟨Nat.le_of_ble_eq_true rfl, Nat.le_of_ble_eq_true rfl⟩ h
  · refine r_iload_n rfl rfl ?_
    refine r_iconst (v := 1) rfl (by decide) ?_
    refine r_ic_ne 13 rfl (by decide) h (fun h => ?_) (fun h => ?_)
    · refine r_iconst (v := 1) rfl (by decide) ?_
      refine r_goto 14 rfl (by decide) ?_
      exact r_zret rfl rfl ⟨Nat.le_of_ble_eq_true rfl, Nat.le_of_ble_eq_true rfl⟩ h
    · refine r_iconst (v := 0) rfl (by decide) ?_
      exact r_zret rfl rfl ⟨Nat.le_of_ble_eq_true rfl, Nat.le_of_ble_eq_true rfl⟩ h
set_option maxRecDepth 20000 in
theorem dk_X11_drawn : ∀ pc i, L_X11_drawn[pc]? = some (some i) → decode prog_1_method_20_code pc = .ok i := dk_of (by decide +kernel)
theorem sb_X11_drawn_48 {d : Nat} {P : Int32 → Mem → Prop} {q48 : Option Nat → Int32 → Int32 → Int32 → Int32 → Mem → Option (Int32 × Mem)} (hq48 : ∀ (r0 : Option Nat) (i2 : Int32) (i3 : Int32) (i4 : Int32) (i5 : Int32) (M : Mem), FQ (q48 r0 i2 i3 i4 i5 M) P → wp Y_X11_drawn (rmD (d + 7) 0 0) (FM (QI P) 0 0) 0 0 48 [some (va_rf r0), none, some (.int i2), some (.int i3), some (.int i4), some (.int i5)] [] M) (r0 : Option Nat) (i2 : Int32) (i3 : Int32) (i4 : Int32) (i5 : Int32) (M : Mem) (h : FQ (b_X11_drawn_48 q48 r0 i2 i3 i4 i5 M) P) : wp Y_X11_drawn (rmD (d + 7) 0 0) (FM (QI P) 0 0) 0 0 48 [some (va_rf r0), none, some (.int i2), some (.int i3), some (.int i4), some (.int i5)] [] M := by
  unfold b_X11_drawn_48 at h
  refine r_iload rfl rfl ?_
  refine r_iload_n rfl rfl ?_
  refine r_ic_ge 71 rfl (by decide) h (fun h => ?_) (fun h => ?_)
  · refine r_iload rfl rfl ?_
    exact r_iret rfl rfl ⟨Nat.le_of_ble_eq_true rfl, Nat.le_of_ble_eq_true rfl⟩ h
  · refine r_aload_n rfl rfl ?_
    refine r_cv_i (vs := []) rfl ml_11_227 rfl (rOk.of rfl) ⟨Nat.zero_le _, Nat.zero_le _⟩ rfl rfl rfl h s_X11_drawnWinner (fun v1 M1 h => ?_)
    refine r_iload_n rfl rfl ?_
    refine r_ic_ne 65 rfl (by decide) h (fun h => ?_) (fun h => ?_)
    · refine r_iinc (v := 1) (lo' := [some (va_rf r0), none, some (.int i2), some (.int i3), some (.int (i4 + (1 : Int32))), some (.int i5)]) rfl rfl rfl (by decide) rfl rfl ?_
      refine r_iinc (v := 1) (lo' := [some (va_rf r0), none, some (.int i2), some (.int i3), some (.int (i4 + (1 : Int32))), some (.int (i5 + (1 : Int32)))]) rfl rfl rfl (by decide) rfl rfl ?_
      refine r_goto 48 rfl (by decide) ?_
      exact hq48 _ _ _ _ _ _ h
    · refine r_iinc (v := 1) (lo' := [some (va_rf r0), none, some (.int i2), some (.int i3), some (.int i4), some (.int (i5 + (1 : Int32)))]) rfl rfl rfl (by decide) rfl rfl ?_
      refine r_goto 48 rfl (by decide) ?_
      exact hq48 _ _ _ _ _ _ h
theorem s_X11_drawn_48 {d : Nat} {P : Int32 → Mem → Prop}   : ∀ (k : Nat) (r0 : Option Nat) (i2 : Int32) (i3 : Int32) (i4 : Int32) (i5 : Int32) (M : Mem), FQ (f_X11_drawn_48  k r0 i2 i3 i4 i5 M) P → wp Y_X11_drawn (rmD (d + 7) 0 0) (FM (QI P) 0 0) 0 0 48 [some (va_rf r0), none, some (.int i2), some (.int i3), some (.int i4), some (.int i5)] [] M
  | 0, _, _, _, _, _, _, h => h.no
  | k + 1, r0, i2, i3, i4, i5, M, h => sb_X11_drawn_48  (s_X11_drawn_48  k) r0 i2 i3 i4 i5 M h
theorem s_X11_drawn {d : Nat} {P : Int32 → Mem → Prop} {r0 : Option Nat} {i1 : Int32} {i2 : Int32} {i3 : Int32} {M : Mem} (h : FQ (f_X11_drawn r0 i1 i2 i3 M) P) : Con Y_X11_drawn (d + 7) 0 0 [va_rf r0, .int i1, .int i2, .int i3] M (QI P) := by
  refine Con.of [some (va_rf r0), some (.int i1), some (.int i2), some (.int i3), none, none] (by decide +kernel) dk_X11_drawn (by simp [Y_X11_drawn, cat_rf, cat_i, cat_l]) (by simp [loE, Y_X11_drawn, cat_rf, cat_i, cat_l, List.replicate]) ?_
  unfold f_X11_drawn at h
  refine r_iload_n rfl rfl ?_
  refine r_if_lt 29 rfl (by decide) h (fun h => ?_) (fun h => ?_)
  · refine r_iconst (v := -1) rfl (by decide) ?_
    exact r_iret rfl rfl ⟨Nat.le_of_ble_eq_true rfl, Nat.le_of_ble_eq_true rfl⟩ h
  · refine r_iload_n rfl rfl ?_
    refine r_sipush (v := 9999) rfl (by decide) ?_
    refine r_ic_gt 29 rfl (by decide) h (fun h => ?_) (fun h => ?_)
    · refine r_iconst (v := -1) rfl (by decide) ?_
      exact r_iret rfl rfl ⟨Nat.le_of_ble_eq_true rfl, Nat.le_of_ble_eq_true rfl⟩ h
    · refine r_iload_n rfl rfl ?_
      refine r_iconst (v := 1) rfl (by decide) ?_
      refine r_ic_lt 29 rfl (by decide) h (fun h => ?_) (fun h => ?_)
      · refine r_iconst (v := -1) rfl (by decide) ?_
        exact r_iret rfl rfl ⟨Nat.le_of_ble_eq_true rfl, Nat.le_of_ble_eq_true rfl⟩ h
      · refine r_iload_n rfl rfl ?_
        refine r_bipush (v := 20) rfl (by decide) ?_
        refine r_ic_gt 29 rfl (by decide) h (fun h => ?_) (fun h => ?_)
        · refine r_iconst (v := -1) rfl (by decide) ?_
          exact r_iret rfl rfl ⟨Nat.le_of_ble_eq_true rfl, Nat.le_of_ble_eq_true rfl⟩ h
        · refine r_iload_n rfl rfl ?_
          refine r_cs_i (vs := [.int i3]) rfl ml_11_121 (rOk.of rfl) ⟨Nat.zero_le _, Nat.zero_le _⟩ rfl rfl rfl h s_X11_isSide (fun v1 M1 h => ?_)
          refine r_if_ne 31 rfl (by decide) h (fun h => ?_) (fun h => ?_)
          · refine r_iconst (v := -1) rfl (by decide) ?_
            exact r_iret rfl rfl ⟨Nat.le_of_ble_eq_true rfl, Nat.le_of_ble_eq_true rfl⟩ h
          · refine r_aload_n rfl rfl ?_
            refine r_iload_n rfl rfl ?_
            refine r_bipush (v := 7) rfl (by decide) ?_
            refine r_imul rfl ?_
            refine r_bipush (v := 9) rfl (by decide) ?_
            refine r_iadd rfl ?_
            refine r_putI rfl fl_11_224 (fun z => by cases z) rfl h (fun M2 h => ?_)
            refine r_iconst (v := 0) rfl (by decide) ?_
            refine r_istore (lo' := [some (va_rf r0), some (.int i1), some (.int i2), some (.int i3), some (.int (0 : Int32)), none]) rfl rfl rfl rfl ?_
            refine r_iconst (v := 0) rfl (by decide) ?_
            refine r_istore (lo' := [some (va_rf r0), some (.int i1), some (.int i2), some (.int i3), some (.int (0 : Int32)), some (.int (0 : Int32))]) rfl rfl rfl rfl ?_
            refine r_msk [true, false, true, true, true, true] rfl ?_
            exact s_X11_drawn_48 FU _ _ _ _ _ _ h
set_option maxRecDepth 20000 in
theorem dk_X11_end : ∀ pc i, L_X11_end[pc]? = some (some i) → decode prog_1_method_6_code pc = .ok i := dk_of (by decide +kernel)
theorem s_X11_end {d : Nat} {P : Int32 → Mem → Prop} {r0 : Option Nat} {i1 : Int32} {M : Mem} (h : FQ (f_X11_end r0 i1 M) P) : Con Y_X11_end d 0 0 [va_rf r0, .int i1] M (QI P) := by
  refine Con.of [some (va_rf r0), some (.int i1)] (by decide +kernel) dk_X11_end (by simp [Y_X11_end, cat_rf, cat_i, cat_l]) (by simp [loE, Y_X11_end, cat_rf, cat_i, cat_l, List.replicate]) ?_
  unfold f_X11_end at h
  refine r_iload_n rfl rfl ?_
  refine r_if_lt 15 rfl (by decide) h (fun h => ?_) (fun h => ?_)
  · refine r_iconst (v := -1) rfl (by decide) ?_
    exact r_iret rfl rfl ⟨Nat.le_of_ble_eq_true rfl, Nat.le_of_ble_eq_true rfl⟩ h
  · refine r_iload_n rfl rfl ?_
    refine r_aload_n rfl rfl ?_
    refine r_getR rfl fl_11_33 rfl h (fun v1 h => ?_)
    refine r_getI rfl fl_11_134 rfl h (fun v2 h => ?_)
    refine r_ic_le 17 rfl (by decide) h (fun h => ?_) (fun h => ?_)
    · refine r_aload_n rfl rfl ?_
      refine r_getR rfl fl_11_33 rfl h (fun v3 h => ?_)
      refine r_iload_n rfl rfl ?_
      refine r_putI rfl fl_11_134 (fun z => by cases z) rfl h (fun M1 h => ?_)
      refine r_iload_n rfl rfl ?_
      exact r_iret rfl rfl ⟨Nat.le_of_ble_eq_true rfl, Nat.le_of_ble_eq_true rfl⟩ h
    · refine r_iconst (v := -1) rfl (by decide) ?_
      exact r_iret rfl rfl ⟨Nat.le_of_ble_eq_true rfl, Nat.le_of_ble_eq_true rfl⟩ h
set_option maxRecDepth 20000 in
theorem dk_X11_fault : ∀ pc i, L_X11_fault[pc]? = some (some i) → decode prog_1_method_8_code pc = .ok i := dk_of (by decide +kernel)
theorem s_X11_fault {d : Nat} {P : Int32 → Mem → Prop} {r0 : Option Nat} {i1 : Int32} {M : Mem} (h : FQ (f_X11_fault r0 i1 M) P) : Con Y_X11_fault d 0 0 [va_rf r0, .int i1] M (QI P) := by
  refine Con.of [some (va_rf r0), some (.int i1)] (by decide +kernel) dk_X11_fault (by simp [Y_X11_fault, cat_rf, cat_i, cat_l]) (by simp [loE, Y_X11_fault, cat_rf, cat_i, cat_l, List.replicate]) ?_
  unfold f_X11_fault at h
  refine r_iload_n rfl rfl ?_
  refine r_lookup (ks := [(0, 28), (1, 36)]) (dt := 44) rfl (by decide) (by decide) (by decide) (by decide) ?_
  refine r_swc h (fun h => ?_) (fun h => ?_)
  · refine r_aload_n rfl rfl ?_
    refine r_getR rfl fl_11_33 rfl h (fun v3 h => ?_)
    refine r_getI rfl fl_11_147 rfl h (fun v4 h => ?_)
    exact r_iret rfl rfl ⟨Nat.le_of_ble_eq_true rfl, Nat.le_of_ble_eq_true rfl⟩ h
  · refine r_swc h (fun h => ?_) (fun h => ?_)
    · refine r_aload_n rfl rfl ?_
      refine r_getR rfl fl_11_33 rfl h (fun v1 h => ?_)
      refine r_getI rfl fl_11_150 rfl h (fun v2 h => ?_)
      exact r_iret rfl rfl ⟨Nat.le_of_ble_eq_true rfl, Nat.le_of_ble_eq_true rfl⟩ h
    · refine r_swd ?_
      refine r_iconst (v := -1) rfl (by decide) ?_
      exact r_iret rfl rfl ⟨Nat.le_of_ble_eq_true rfl, Nat.le_of_ble_eq_true rfl⟩ h
