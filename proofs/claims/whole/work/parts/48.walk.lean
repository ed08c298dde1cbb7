/-! walked by program (wip/gen): X12_goesByWays X12_goesFor X12_match X12_offers X12_piece X12_keepsNow X12_play X12_ply X12_run X12_goesOnFrom -/
def L_X12_goesByWays : List (Option (Instr × Nat)) := [some (.aload_n 0, 1), some (.aload_n 0, 1), some (.getfield 7, 3), none, none, some (.iconst 3, 1), some (.aload_n 0, 1), some (.getfield 355, 3), none, none, some (.iadd, 1), some (.iaload, 1), some (.invokevirtual 449, 3), none, none, some (.istore_n 1, 1), some (.aload_n 0, 1), some (.aload_n 0, 1), some (.getfield 7, 3), none, none, some (.iconst 4, 1), some (.aload_n 0, 1), some (.getfield 355, 3), none, none, some (.isub, 1), some (.iaload, 1), some (.iconst 3, 1), some (.invokevirtual 446, 3), none, none, some (.aload_n 0, 1), some (.iload_n 1, 1), some (.iconst (-1), 1), some (.invokevirtual 452, 3), none, none, some (.istore_n 2, 1), some (.aload_n 0, 1), some (.aload_n 0, 1), some (.getfield 7, 3), none, none, some (.iconst 3, 1), some (.aload_n 0, 1), some (.getfield 355, 3), none, none, some (.iadd, 1), some (.iaload, 1), some (.iconst 4, 1), some (.invokevirtual 446, 3), none, none, some (.aload_n 0, 1), some (.iload_n 2, 1), some (.aload_n 0, 1), some (.iload_n 1, 1), some (.iload_n 2, 1), some (.invokevirtual 452, 3), none, none, some (.invokevirtual 436, 3), none, none, some (.return_, 1)]
def Y_X12_goesByWays : YM := (⟨RX12, "goesByWays", "()V"⟩, prog_14_method_75_code, L_X12_goesByWays, 3, none)
def f_X12_goesByWays (r0 : Option Nat) (M : Mem) : Option (Unit × Mem) :=
gR M r0 12 3 fun v1 =>
gI M r0 12 45 fun v2 =>
aI M v1 2 ((3 : Int32) + v2) fun v3 =>
cR M r0 (1, 12) (cA (f_X12_offerBy r0 v3 M) fun v4 M1 =>
gR M1 r0 12 3 fun v5 =>
gI M1 r0 12 45 fun v6 =>
aI M1 v5 2 ((4 : Int32) - v6) fun v7 =>
cR M1 r0 (1, 12) (cA (f_X12_laysWorth r0 v7 (3 : Int32) M1) fun _ M2 =>
cR M2 r0 (1, 12) (cA (f_X12_greatest r0 v4 (-1 : Int32) M2) fun v8 M3 =>
gR M3 r0 12 3 fun v9 =>
gI M3 r0 12 45 fun v10 =>
aI M3 v9 2 ((3 : Int32) + v10) fun v11 =>
cR M3 r0 (1, 12) (cA (f_X12_laysWorth r0 v11 (4 : Int32) M3) fun _ M4 =>
cR M4 r0 (1, 12) (cA (f_X12_greatest r0 v4 v8 M4) fun v12 M5 =>
cR M5 r0 (1, 12) (cA (f_X12_plays r0 v8 v12 M5) fun _ M6 =>
some ((), M6)))))))
def L_X12_goesFor : List (Option (Instr × Nat)) := [some (.iconst 0, 1), some (.istore_n 2, 1), some (.aload_n 0, 1), some (.invokevirtual 422, 3), none, none, some (.iload_n 2, 1), some (.iload_n 1, 1), some (.if_icmp .ge 24, 3), none, none, some (.aload_n 0, 1), some (.invokevirtual 455, 3), none, none, some (.ifCond .ne 17, 3), none, none, some (.aload_n 0, 1), some (.invokevirtual 459, 3), none, none, some (.aload_n 0, 1), some (.invokevirtual 422, 3), none, none, some (.iinc 2 1, 3), none, none, some (.goto (-23), 3), none, none, some (.iload_n 2, 1), some (.ireturn, 1)]
def Y_X12_goesFor : YM := (⟨RX12, "goesFor", "(I)I"⟩, prog_14_method_76_code, L_X12_goesFor, 3, some .int)
def b_X12_goesFor_6 (q6 : Option Nat → Int32 → Int32 → Mem → Option (Int32 × Mem)) (r0 : Option Nat) (i1 : Int32) (i2 : Int32) (M : Mem) : Option (Int32 × Mem) :=
(if i1 ≤ i2 then
some (i2, M)
else
cR M r0 (1, 12) (cA (f_X12_isOver r0 M) fun v1 M1 =>
(if v1 = 0 then
cR M1 r0 (1, 12) (cA (f_X12_goesByWays r0 M1) fun _ M2 =>
cR M2 r0 (1, 12) (cA (f_X12_laysMoves r0 M2) fun _ M3 =>
q6 r0 i1 (i2 + (1 : Int32)) M3))
else
some (i2, M1))))
def f_X12_goesFor_6 (n : Nat) : Option Nat → Int32 → Int32 → Mem → Option (Int32 × Mem) := lpN (fun _ _ _ _ => none) (b_X12_goesFor_6 ) n
def f_X12_goesFor (r0 : Option Nat) (i1 : Int32) (M : Mem) : Option (Int32 × Mem) :=
cR M r0 (1, 12) (cA (f_X12_laysMoves r0 M) fun _ M1 =>
f_X12_goesFor_6 FU r0 i1 (0 : Int32) M1)
def L_X12_match : List (Option (Instr × Nat)) := [some (.iload_n 1, 1), some (.iconst 1, 1), some (.bipush 99, 2), none, some (.invokestatic 151, 3), none, none, some (.ifCond .eq 12, 3), none, none, some (.iload_n 2, 1), some (.iconst 0, 1), some (.iconst 1, 1), some (.invokestatic 151, 3), none, none, some (.ifCond .ne 6, 3), none, none, some (.bipush (-2), 2), none, some (.ireturn, 1), some (.aload_n 0, 1), some (.invokevirtual 410, 3), none, none, some (.aload_n 0, 1), some (.iload_n 1, 1), some (.invokevirtual 462, 3), none, none, some (.istore_n 3, 1), some (.iload_n 2, 1), some (.iconst 1, 1), some (.if_icmp .ne 7, 3), none, none, some (.iload_n 3, 1), some (.goto 18, 3), none, none, some (.aload_n 0, 1), some (.invokevirtual 455, 3), none, none, some (.ifCond .eq 10, 3), none, none, some (.aload_n 0, 1), some (.getfield 355, 3), none, none, some (.goto 4, 3), none, none, some (.iconst (-1), 1), some (.ireturn, 1)]
def Y_X12_match : YM := (⟨RX12, "match", "(II)I"⟩, prog_14_method_85_code, L_X12_match, 4, some .int)
def f_X12_match (r0 : Option Nat) (i1 : Int32) (i2 : Int32) (M : Mem) : Option (Int32 × Mem) :=
cA (f_X12_in i1 (1 : Int32) (99 : Int32) M) fun v1 M1 =>
(if v1 = 0 then
some ((-2 : Int32), M1)
else
cA (f_X12_in i2 (0 : Int32) (1 : Int32) M1) fun v2 M2 =>
(if v2 = 0 then
some ((-2 : Int32), M2)
else
cR M2 r0 (1, 12) (cA (f_X12_laysNow r0 M2) fun _ M3 =>
cR M3 r0 (1, 12) (cA (f_X12_goesFor r0 i1 M3) fun v3 M4 =>
(if i2 = (1 : Int32) then
some (v3, M4)
else
cR M4 r0 (1, 12) (cA (f_X12_isOver r0 M4) fun v4 M5 =>
(if v4 = 0 then
some ((-1 : Int32), M5)
else
gI M5 r0 12 45 fun v5 =>
some (v5, M5))))))))
def L_X12_offers : List (Option (Instr × Nat)) := [some (.iload_n 1, 1), some (.iconst (-1), 1), some (.if_icmp .ge 5, 3), none, none, some (.iconst (-1), 1), some (.ireturn, 1), some (.aload_n 0, 1), some (.invokevirtual 410, 3), none, none, some (.aload_n 0, 1), some (.invokevirtual 422, 3), none, none, some (.aload_n 0, 1), some (.iload_n 1, 1), some (.invokevirtual 425, 3), none, none, some (.istore_n 2, 1), some (.iload_n 1, 1), some (.iconst (-1), 1), some (.if_icmp .ne 10, 3), none, none, some (.aload_n 0, 1), some (.getfield 416, 3), none, none, some (.goto 4, 3), none, none, some (.iload_n 2, 1), some (.ireturn, 1)]
def Y_X12_offers : YM := (⟨RX12, "offers", "(I)I"⟩, prog_14_method_67_code, L_X12_offers, 3, some .int)
def f_X12_offers (r0 : Option Nat) (i1 : Int32) (M : Mem) : Option (Int32 × Mem) :=
(if (-1 : Int32) ≤ i1 then
cR M r0 (1, 12) (cA (f_X12_laysNow r0 M) fun _ M1 =>
cR M1 r0 (1, 12) (cA (f_X12_laysMoves r0 M1) fun _ M2 =>
cR M2 r0 (1, 12) (cA (f_X12_offerAt r0 i1 M2) fun v1 M3 =>
(if i1 = (-1 : Int32) then
gI M3 r0 12 53 fun v2 =>
some (v2, M3)
else
some (v1, M3)))))
else
some ((-1 : Int32), M))
def L_X12_piece : List (Option (Instr × Nat)) := [some (.aload_n 0, 1), some (.iload_n 1, 1), some (.invokevirtual 155, 3), none, none, some (.ifCond .eq 26, 3), none, none, some (.iload_n 2, 1), some (.iconst (-1), 1), some (.if_icmp .eq 23, 3), none, none, some (.iload_n 2, 1), some (.iconst 0, 1), some (.iconst 3, 1), some (.invokestatic 151, 3), none, none, some (.ifCond .eq 12, 3), none, none, some (.iload_n 3, 1), some (.iconst 0, 1), some (.iconst 1, 1), some (.invokestatic 151, 3), none, none, some (.ifCond .ne 5, 3), none, none, some (.iconst 0, 1), some (.ireturn, 1), some (.aload_n 0, 1), some (.getfield 7, 3), none, none, some (.bipush 20, 2), none, some (.iload_n 1, 1), some (.iadd, 1), some (.iload_n 2, 1), some (.iconst (-1), 1), some (.if_icmp .ne 7, 3), none, none, some (.iconst 0, 1), some (.goto 10, 3), none, none, some (.iconst 1, 1), some (.iload_n 2, 1), some (.iadd, 1), some (.iconst 4, 1), some (.iload_n 3, 1), some (.imul, 1), some (.iadd, 1), some (.iastore, 1), some (.iconst 1, 1), some (.ireturn, 1)]
def Y_X12_piece : YM := (⟨RX12, "piece", "(III)Z"⟩, prog_14_method_6_code, L_X12_piece, 4, some .boolean)
def f_X12_piece_33  (r0 : Option Nat) (i1 : Int32) (i2 : Int32) (i3 : Int32) (M : Mem) : Option (Int32 × Mem) :=
gR M r0 12 3 fun v1 =>
(if i2 = (-1 : Int32) then
wI M v1 2 ((20 : Int32) + i1) (0 : Int32) fun M1 =>
tv (1 : Int32) (some ((1 : Int32), M1))
else
wI M v1 2 ((20 : Int32) + i1) (((1 : Int32) + i2) + ((4 : Int32) * i3)) fun M2 =>
tv (1 : Int32) (some ((1 : Int32), M2)))
def f_X12_piece (r0 : Option Nat) (i1 : Int32) (i2 : Int32) (i3 : Int32) (M : Mem) : Option (Int32 × Mem) :=
cR M r0 (1, 12) (cA (f_X12_isPlace r0 i1 M) fun v1 M1 =>
(if v1 = 0 then
tv (0 : Int32) (some ((0 : Int32), M1))
else
(if i2 = (-1 : Int32) then
f_X12_piece_33 r0 i1 i2 i3 M1
else
cA (f_X12_in i2 (0 : Int32) (3 : Int32) M1) fun v2 M2 =>
(if v2 = 0 then
tv (0 : Int32) (some ((0 : Int32), M2))
else
cA (f_X12_in i3 (0 : Int32) (1 : Int32) M2) fun v3 M3 =>
(if v3 = 0 then
tv (0 : Int32) (some ((0 : Int32), M3))
else
f_X12_piece_33 r0 i1 i2 i3 M3)))))
def L_X12_keepsNow : List (Option (Instr × Nat)) := [some (.iconst 0, 1), some (.istore_n 1, 1), some (.iload_n 1, 1), some (.bipush 12, 2), none, some (.if_icmp .ge 24, 3), none, none, some (.aload_n 0, 1), some (.getfield 7, 3), none, none, some (.bipush 20, 2), none, some (.iload_n 1, 1), some (.iadd, 1), some (.aload_n 0, 1), some (.getfield 88, 3), none, none, some (.iload_n 1, 1), some (.iaload, 1), some (.iastore, 1), some (.iinc 1 1, 3), none, none, some (.goto (-24), 3), none, none, some (.iconst 0, 1), some (.istore_n 1, 1), some (.iload_n 1, 1), some (.bipush 8, 2), none, some (.if_icmp .ge 24, 3), none, none, some (.aload_n 0, 1), some (.getfield 7, 3), none, none, some (.bipush 10, 2), none, some (.iload_n 1, 1), some (.iadd, 1), some (.aload_n 0, 1), some (.getfield 91, 3), none, none, some (.iload_n 1, 1), some (.iaload, 1), some (.iastore, 1), some (.iinc 1 1, 3), none, none, some (.goto (-24), 3), none, none, some (.aload_n 0, 1), some (.getfield 7, 3), none, none, some (.iconst 0, 1), some (.aload_n 0, 1), some (.getfield 355, 3), none, none, some (.iastore, 1), some (.return_, 1)]
def Y_X12_keepsNow : YM := (⟨RX12, "keepsNow", "()V"⟩, prog_14_method_48_code, L_X12_keepsNow, 2, none)
def b_X12_keepsNow_31 (q31 : Option Nat → Int32 → Mem → Option (Unit × Mem)) (r0 : Option Nat) (i1 : Int32) (M : Mem) : Option (Unit × Mem) :=
(if (8 : Int32) ≤ i1 then
gR M r0 12 3 fun v1 =>
gI M r0 12 45 fun v2 =>
wI M v1 2 (0 : Int32) v2 fun M1 =>
some ((), M1)
else
gR M r0 12 3 fun v3 =>
gR M r0 12 44 fun v4 =>
aI M v4 2 i1 fun v5 =>
wI M v3 2 ((10 : Int32) + i1) v5 fun M2 =>
q31 r0 (i1 + (1 : Int32)) M2)
def f_X12_keepsNow_31 (n : Nat) : Option Nat → Int32 → Mem → Option (Unit × Mem) := lpN (fun _ _ _ => none) (b_X12_keepsNow_31 ) n
def b_X12_keepsNow_2 (q2 : Option Nat → Int32 → Mem → Option (Unit × Mem)) (r0 : Option Nat) (i1 : Int32) (M : Mem) : Option (Unit × Mem) :=
(if (12 : Int32) ≤ i1 then
f_X12_keepsNow_31 FU r0 (0 : Int32) M
else
gR M r0 12 3 fun v1 =>
gR M r0 12 43 fun v2 =>
aI M v2 2 i1 fun v3 =>
wI M v1 2 ((20 : Int32) + i1) v3 fun M1 =>
q2 r0 (i1 + (1 : Int32)) M1)
def f_X12_keepsNow_2 (n : Nat) : Option Nat → Int32 → Mem → Option (Unit × Mem) := lpN (fun _ _ _ => none) (b_X12_keepsNow_2 ) n
def f_X12_keepsNow (r0 : Option Nat) (M : Mem) : Option (Unit × Mem) :=
f_X12_keepsNow_2 FU r0 (0 : Int32) M
def L_X12_play : List (Option (Instr × Nat)) := [some (.aload_n 0, 1), some (.invokevirtual 410, 3), none, none, some (.aload_n 0, 1), some (.invokevirtual 422, 3), none, none, some (.aload_n 0, 1), some (.iload_n 1, 1), some (.iload_n 2, 1), some (.iload_n 3, 1), some (.iload 4, 2), none, some (.iload 5, 2), none, some (.invokevirtual 432, 3), none, none, some (.ifCond .ne 5, 3), none, none, some (.iconst 0, 1), some (.ireturn, 1), some (.aload_n 0, 1), some (.iload 4, 2), none, some (.iload 5, 2), none, some (.invokevirtual 436, 3), none, none, some (.aload_n 0, 1), some (.invokevirtual 439, 3), none, none, some (.iconst 1, 1), some (.ireturn, 1)]
def Y_X12_play : YM := (⟨RX12, "play", "(IIIII)Z"⟩, prog_14_method_70_code, L_X12_play, 6, some .boolean)
def f_X12_play (r0 : Option Nat) (i1 : Int32) (i2 : Int32) (i3 : Int32) (i4 : Int32) (i5 : Int32) (M : Mem) : Option (Int32 × Mem) :=
cR M r0 (1, 12) (cA (f_X12_laysNow r0 M) fun _ M1 =>
cR M1 r0 (1, 12) (cA (f_X12_laysMoves r0 M1) fun _ M2 =>
cR M2 r0 (1, 12) (cA (f_X12_canPly r0 i1 i2 i3 i4 i5 M2) fun v1 M3 =>
(if v1 = 0 then
tv (0 : Int32) (some ((0 : Int32), M3))
else
cR M3 r0 (1, 12) (cA (f_X12_plays r0 i4 i5 M3) fun _ M4 =>
cR M4 r0 (1, 12) (cA (f_X12_keepsNow r0 M4) fun _ M5 =>
tv (1 : Int32) (some ((1 : Int32), M5))))))))
def L_X12_ply : List (Option (Instr × Nat)) := [some (.iload_n 1, 1), some (.iconst (-1), 1), some (.if_icmp .ne 12, 3), none, none, some (.aload_n 0, 1), some (.getfield 7, 3), none, none, some (.iconst 5, 1), some (.iconst 0, 1), some (.iastore, 1), some (.iconst 0, 1), some (.ireturn, 1), some (.iload_n 1, 1), some (.invokestatic 159, 3), none, none, some (.ifCond .eq 44, 3), none, none, some (.iload_n 2, 1), some (.invokestatic 159, 3), none, none, some (.ifCond .eq 37, 3), none, none, some (.iload_n 3, 1), some (.invokestatic 159, 3), none, none, some (.ifCond .eq 30, 3), none, none, some (.iload 4, 2), none, some (.invokestatic 159, 3), none, none, some (.ifCond .eq 22, 3), none, none, some (.iload 5, 2), none, some (.invokestatic 159, 3), none, none, some (.ifCond .eq 14, 3), none, none, some (.aload_n 0, 1), some (.getfield 7, 3), none, none, some (.iconst 5, 1), some (.iaload, 1), some (.bipush 40, 2), none, some (.if_icmp .ne 5, 3), none, none, some (.iconst (-1), 1), some (.ireturn, 1), some (.bipush 40, 2), none, some (.iconst 5, 1), some (.aload_n 0, 1), some (.getfield 7, 3), none, none, some (.iconst 5, 1), some (.iaload, 1), some (.imul, 1), some (.iadd, 1), some (.istore 6, 2), none, some (.aload_n 0, 1), some (.getfield 7, 3), none, none, some (.iload 6, 2), none, some (.iload_n 1, 1), some (.iastore, 1), some (.aload_n 0, 1), some (.getfield 7, 3), none, none, some (.iload 6, 2), none, some (.iconst 1, 1), some (.iadd, 1), some (.iload_n 2, 1), some (.iastore, 1), some (.aload_n 0, 1), some (.getfield 7, 3), none, none, some (.iload 6, 2), none, some (.iconst 2, 1), some (.iadd, 1), some (.iload_n 3, 1), some (.iastore, 1), some (.aload_n 0, 1), some (.getfield 7, 3), none, none, some (.iload 6, 2), none, some (.iconst 3, 1), some (.iadd, 1), some (.iload 4, 2), none, some (.iastore, 1), some (.aload_n 0, 1), some (.getfield 7, 3), none, none, some (.iload 6, 2), none, some (.iconst 4, 1), some (.iadd, 1), some (.iload 5, 2), none, some (.iastore, 1), some (.aload_n 0, 1), some (.getfield 7, 3), none, none, some (.iconst 5, 1), some (.dup2, 1), some (.iaload, 1), some (.iconst 1, 1), some (.iadd, 1), some (.iastore, 1), some (.aload_n 0, 1), some (.getfield 7, 3), none, none, some (.iconst 5, 1), some (.iaload, 1), some (.ireturn, 1)]
def Y_X12_ply : YM := (⟨RX12, "ply", "(IIIII)I"⟩, prog_14_method_79_code, L_X12_ply, 7, some .int)
def f_X12_ply (r0 : Option Nat) (i1 : Int32) (i2 : Int32) (i3 : Int32) (i4 : Int32) (i5 : Int32) (M : Mem) : Option (Int32 × Mem) :=
(if i1 = (-1 : Int32) then
gR M r0 12 3 fun v1 =>
wI M v1 2 (5 : Int32) (0 : Int32) fun M1 =>
some ((0 : Int32), M1)
else
cA (f_X12_isMove i1 M) fun v2 M2 =>
(if v2 = 0 then
some ((-1 : Int32), M2)
else
cA (f_X12_isMove i2 M2) fun v3 M3 =>
(if v3 = 0 then
some ((-1 : Int32), M3)
else
cA (f_X12_isMove i3 M3) fun v4 M4 =>
(if v4 = 0 then
some ((-1 : Int32), M4)
else
cA (f_X12_isMove i4 M4) fun v5 M5 =>
(if v5 = 0 then
some ((-1 : Int32), M5)
else
cA (f_X12_isMove i5 M5) fun v6 M6 =>
(if v6 = 0 then
some ((-1 : Int32), M6)
else
gR M6 r0 12 3 fun v7 =>
aI M6 v7 2 (5 : Int32) fun v8 =>
(if v8 = (40 : Int32) then
some ((-1 : Int32), M6)
else
gR M6 r0 12 3 fun v9 =>
aI M6 v9 2 (5 : Int32) fun v10 =>
gR M6 r0 12 3 fun v11 =>
wI M6 v11 2 ((40 : Int32) + ((5 : Int32) * v10)) i1 fun M7 =>
gR M7 r0 12 3 fun v12 =>
wI M7 v12 2 (((40 : Int32) + ((5 : Int32) * v10)) + (1 : Int32)) i2 fun M8 =>
gR M8 r0 12 3 fun v13 =>
wI M8 v13 2 (((40 : Int32) + ((5 : Int32) * v10)) + (2 : Int32)) i3 fun M9 =>
gR M9 r0 12 3 fun v14 =>
wI M9 v14 2 (((40 : Int32) + ((5 : Int32) * v10)) + (3 : Int32)) i4 fun M10 =>
gR M10 r0 12 3 fun v15 =>
wI M10 v15 2 (((40 : Int32) + ((5 : Int32) * v10)) + (4 : Int32)) i5 fun M11 =>
gR M11 r0 12 3 fun v16 =>
aI M11 v16 2 (5 : Int32) fun v17 =>
wI M11 v16 2 (5 : Int32) (v17 + (1 : Int32)) fun M12 =>
gR M12 r0 12 3 fun v18 =>
aI M12 v18 2 (5 : Int32) fun v19 =>
some (v19, M12))))))))
def L_X12_run : List (Option (Instr × Nat)) := [some (.iload_n 1, 1), some (.iconst 1, 1), some (.bipush 99, 2), none, some (.invokestatic 151, 3), none, none, some (.ifCond .ne 5, 3), none, none, some (.iconst (-1), 1), some (.ireturn, 1), some (.aload_n 0, 1), some (.invokevirtual 410, 3), none, none, some (.aload_n 0, 1), some (.iload_n 1, 1), some (.invokevirtual 462, 3), none, none, some (.istore_n 2, 1), some (.aload_n 0, 1), some (.invokevirtual 439, 3), none, none, some (.iload_n 2, 1), some (.ireturn, 1)]
def Y_X12_run : YM := (⟨RX12, "run", "(I)I"⟩, prog_14_method_77_code, L_X12_run, 3, some .int)
def f_X12_run (r0 : Option Nat) (i1 : Int32) (M : Mem) : Option (Int32 × Mem) :=
cA (f_X12_in i1 (1 : Int32) (99 : Int32) M) fun v1 M1 =>
(if v1 = 0 then
some ((-1 : Int32), M1)
else
cR M1 r0 (1, 12) (cA (f_X12_laysNow r0 M1) fun _ M2 =>
cR M2 r0 (1, 12) (cA (f_X12_goesFor r0 i1 M2) fun v2 M3 =>
cR M3 r0 (1, 12) (cA (f_X12_keepsNow r0 M3) fun _ M4 =>
some (v2, M4)))))
def L_X12_goesOnFrom : List (Option (Instr × Nat)) := [some (.iconst 0, 1), some (.istore_n 2, 1), some (.iload_n 2, 1), some (.bipush 64, 2), none, some (.if_icmp .ge 37, 3), none, none, some (.aload_n 0, 1), some (.getfield 119, 3), none, none, some (.bipush 64, 2), none, some (.iload_n 1, 1), some (.imul, 1), some (.iload_n 2, 1), some (.iadd, 1), some (.iaload, 1), some (.istore_n 3, 1), some (.iload_n 3, 1), some (.iconst (-1), 1), some (.if_icmp .eq 14, 3), none, none, some (.aload_n 0, 1), some (.getfield 134, 3), none, none, some (.iload_n 3, 1), some (.baload, 1), some (.ifCond .ne 5, 3), none, none, some (.iconst 1, 1), some (.ireturn, 1), some (.iinc 2 1, 3), none, none, some (.goto (-37), 3), none, none, some (.iconst 0, 1), some (.ireturn, 1)]
def Y_X12_goesOnFrom : YM := (⟨RX12, "goesOnFrom", "(I)Z"⟩, prog_14_method_109_code, L_X12_goesOnFrom, 4, some .boolean)
def b_X12_goesOnFrom_2 (q2 : Option Nat → Int32 → Int32 → Mem → Option (Int32 × Mem)) (r0 : Option Nat) (i1 : Int32) (i2 : Int32) (M : Mem) : Option (Int32 × Mem) :=
(if (64 : Int32) ≤ i2 then
tv (0 : Int32) (some ((0 : Int32), M))
else
gR M r0 12 61 fun v1 =>
aI M v1 2 (((64 : Int32) * i1) + i2) fun v2 =>
(if v2 = (-1 : Int32) then
q2 r0 i1 (i2 + (1 : Int32)) M
else
gR M r0 12 69 fun v3 =>
aI M v3 5 v2 fun v4 =>
(if v4 = 0 then
tv (1 : Int32) (some ((1 : Int32), M))
else
q2 r0 i1 (i2 + (1 : Int32)) M)))
def f_X12_goesOnFrom_2 (n : Nat) : Option Nat → Int32 → Int32 → Mem → Option (Int32 × Mem) := lpN (fun _ _ _ _ => none) (b_X12_goesOnFrom_2 ) n
def f_X12_goesOnFrom (r0 : Option Nat) (i1 : Int32) (M : Mem) : Option (Int32 × Mem) :=
f_X12_goesOnFrom_2 FU r0 i1 (0 : Int32) M
set_option maxRecDepth 30000 in
theorem ok_X12_offerBy : okY Y_X12_offerBy := ⟨(gw_in 1629 rfl rfl), (gw_in 14 (by decide +kernel) (by decide +kernel)), by decide +kernel, by decide +kernel⟩
theorem ml_12_449 : MLv RX12 449 Y_X12_offerBy 1 := ⟨(gw_in 1626 (by decide +kernel) (by decide +kernel)), (gw_in 1628 (by decide +kernel) (by decide +kernel)), (gw_sel (n := 70) 95 (by decide +kernel) (by decide +kernel)), ok_X12_offerBy, by decide +kernel⟩
set_option maxRecDepth 30000 in
theorem ok_X12_greatest : okY Y_X12_greatest := ⟨(gw_in 1641 rfl rfl), (gw_in 14 (by decide +kernel) (by decide +kernel)), by decide +kernel, by decide +kernel⟩
theorem ml_12_452 : MLv RX12 452 Y_X12_greatest 2 := ⟨(gw_in 1638 (by decide +kernel) (by decide +kernel)), (gw_in 1640 (by decide +kernel) (by decide +kernel)), (gw_sel (n := 70) 98 (by decide +kernel) (by decide +kernel)), ok_X12_greatest, by decide +kernel⟩
set_option maxRecDepth 30000 in
theorem ok_X12_goesByWays : okY Y_X12_goesByWays := ⟨(gw_in 1625 rfl rfl), (gw_in 14 (by decide +kernel) (by decide +kernel)), by decide +kernel, by decide +kernel⟩
theorem ml_12_459 : MLv RX12 459 Y_X12_goesByWays 0 := ⟨(gw_in 1622 (by decide +kernel) (by decide +kernel)), (gw_in 1624 (by decide +kernel) (by decide +kernel)), (gw_sel (n := 70) 94 (by decide +kernel) (by decide +kernel)), ok_X12_goesByWays, by decide +kernel⟩
set_option maxRecDepth 30000 in
theorem ok_X12_goesFor : okY Y_X12_goesFor := ⟨(gw_in 1614 rfl rfl), (gw_in 14 (by decide +kernel) (by decide +kernel)), by decide +kernel, by decide +kernel⟩
theorem ml_12_462 : MLv RX12 462 Y_X12_goesFor 1 := ⟨(gw_in 1611 (by decide +kernel) (by decide +kernel)), (gw_in 1613 (by decide +kernel) (by decide +kernel)), (gw_sel (n := 70) 92 (by decide +kernel) (by decide +kernel)), ok_X12_goesFor, by decide +kernel⟩
set_option maxRecDepth 30000 in
theorem ok_X12_keepsNow : okY Y_X12_keepsNow := ⟨(gw_in 1606 rfl rfl), (gw_in 14 (by decide +kernel) (by decide +kernel)), by decide +kernel, by decide +kernel⟩
theorem ml_12_439 : MLv RX12 439 Y_X12_keepsNow 0 := ⟨(gw_in 1603 (by decide +kernel) (by decide +kernel)), (gw_in 1605 (by decide +kernel) (by decide +kernel)), (gw_sel (n := 70) 91 (by decide +kernel) (by decide +kernel)), ok_X12_keepsNow, by decide +kernel⟩
set_option maxRecDepth 20000 in
theorem dk_X12_goesByWays : ∀ pc i, L_X12_goesByWays[pc]? = some (some i) → decode prog_14_method_75_code pc = .ok i := dk_of (by decide +kernel)
theorem s_X12_goesByWays {d : Nat} {P : Unit → Mem → Prop} {r0 : Option Nat} {M : Mem} (h : FQ (f_X12_goesByWays r0 M) P) : Con Y_X12_goesByWays (d + 6) 0 0 [va_rf r0] M (QV P) := by
  refine Con.of [some (va_rf r0), none, none] (by decide +kernel) dk_X12_goesByWays (by simp [Y_X12_goesByWays, cat_rf, cat_i, cat_l]) (by simp [loE, Y_X12_goesByWays, cat_rf, cat_i, cat_l, List.replicate]) ?_
  unfold f_X12_goesByWays at h
  refine r_aload_n rfl rfl ?_
  refine r_aload_n rfl rfl ?_
  refine r_getR rfl fl_12_7 rfl h (fun v1 h => ?_)
  refine r_iconst (v := 3) rfl (by decide) ?_
  refine r_aload_n rfl rfl ?_
  refine r_getI rfl fl_12_355 rfl h (fun v2 h => ?_)
  refine r_iadd rfl ?_
  refine r_iald rfl h (fun v3 h => ?_)
  refine r_cv_i (vs := [.int v3]) rfl ml_12_449 rfl (rOk.of rfl) ⟨Nat.zero_le _, Nat.zero_le _⟩ rfl rfl rfl h s_X12_offerBy (fun v4 M1 h => ?_)
  refine r_istore_n (lo' := [some (va_rf r0), some (.int v4), none]) rfl rfl (by simp [stOk, cat_rf]) rfl ?_
  refine r_aload_n rfl rfl ?_
  refine r_aload_n rfl rfl ?_
  refine r_getR rfl fl_12_7 rfl h (fun v5 h => ?_)
  refine r_iconst (v := 4) rfl (by decide) ?_
  refine r_aload_n rfl rfl ?_
  refine r_getI rfl fl_12_355 rfl h (fun v6 h => ?_)
  refine r_isub rfl ?_
  refine r_iald rfl h (fun v7 h => ?_)
  refine r_iconst (v := 3) rfl (by decide) ?_
  refine r_cv_v (vs := [.int v7, .int (3 : Int32)]) rfl ml_12_446 rfl (rOk.of rfl) ⟨Nat.zero_le _, Nat.zero_le _⟩ rfl rfl rfl h s_X12_laysWorth (fun _ M2 h => ?_)
  refine r_aload_n rfl rfl ?_
  refine r_iload_n rfl rfl ?_
  refine r_iconst (v := -1) rfl (by decide) ?_
  refine r_cv_i (vs := [.int v4, .int (-1 : Int32)]) rfl ml_12_452 rfl (rOk.of rfl) ⟨Nat.zero_le _, Nat.zero_le _⟩ rfl rfl rfl h s_X12_greatest (fun v8 M3 h => ?_)
  refine r_istore_n (lo' := [some (va_rf r0), some (.int v4), some (.int v8)]) rfl rfl rfl rfl ?_
  refine r_aload_n rfl rfl ?_
  refine r_aload_n rfl rfl ?_
  refine r_getR rfl fl_12_7 rfl h (fun v9 h => ?_)
  refine r_iconst (v := 3) rfl (by decide) ?_
  refine r_aload_n rfl rfl ?_
  refine r_getI rfl fl_12_355 rfl h (fun v10 h => ?_)
  refine r_iadd rfl ?_
  refine r_iald rfl h (fun v11 h => ?_)
  refine r_iconst (v := 4) rfl (by decide) ?_
  refine r_cv_v (vs := [.int v11, .int (4 : Int32)]) rfl ml_12_446 rfl (rOk.of rfl) ⟨Nat.zero_le _, Nat.zero_le _⟩ rfl rfl rfl h s_X12_laysWorth (fun _ M4 h => ?_)
  refine r_aload_n rfl rfl ?_
  refine r_iload_n rfl rfl ?_
  refine r_aload_n rfl rfl ?_
  refine r_iload_n rfl rfl ?_
  refine r_iload_n rfl rfl ?_
  refine r_cv_i (vs := [.int v4, .int v8]) rfl ml_12_452 rfl (rOk.of rfl) ⟨Nat.zero_le _, Nat.zero_le _⟩ rfl rfl rfl h s_X12_greatest (fun v12 M5 h => ?_)
  refine r_cv_v (vs := [.int v8, .int v12]) rfl ml_12_436 rfl (rOk.of rfl) ⟨Nat.zero_le _, Nat.zero_le _⟩ rfl rfl rfl h s_X12_plays (fun _ M6 h => ?_)
  exact r_vret rfl rfl ⟨Nat.le_of_ble_eq_true rfl, Nat.le_of_ble_eq_true rfl⟩ h
set_option maxRecDepth 20000 in
theorem dk_X12_goesFor : ∀ pc i, L_X12_goesFor[pc]? = some (some i) → decode prog_14_method_76_code pc = .ok i := dk_of (by decide +kernel)
theorem sb_X12_goesFor_6 {d : Nat} {P : Int32 → Mem → Prop} {q6 : Option Nat → Int32 → Int32 → Mem → Option (Int32 × Mem)} (hq6 : ∀ (r0 : Option Nat) (i1 : Int32) (i2 : Int32) (M : Mem), FQ (q6 r0 i1 i2 M) P → wp Y_X12_goesFor (rmD (d + 7) 0 0) (FM (QI P) 0 0) 0 0 6 [some (va_rf r0), some (.int i1), some (.int i2)] [] M) (r0 : Option Nat) (i1 : Int32) (i2 : Int32) (M : Mem) (h : FQ (b_X12_goesFor_6 q6 r0 i1 i2 M) P) : wp Y_X12_goesFor (rmD (d + 7) 0 0) (FM (QI P) 0 0) 0 0 6 [some (va_rf r0), some (.int i1), some (.int i2)] [] M := by
  unfold b_X12_goesFor_6 at h
  refine r_iload_n rfl rfl ?_
  refine r_iload_n rfl rfl ?_
  refine r_ic_ge 32 rfl (by decide) h (fun h => ?_) (fun h => ?_)
  · refine r_iload_n rfl rfl ?_
    exact r_iret rfl rfl ⟨Nat.le_of_ble_eq_true rfl, Nat.le_of_ble_eq_true rfl⟩ h
  · refine r_aload_n rfl rfl ?_
    refine r_cv_i (vs := []) rfl ml_12_455 rfl (rOk.of rfl) ⟨Nat.zero_le _, Nat.zero_le _⟩ rfl rfl rfl h s_X12_isOver (fun v1 M1 h => ?_)
    refine r_if_ne 32 rfl (by decide) h (fun h => ?_) (fun h => ?_)
    · refine r_aload_n rfl rfl ?_
      refine r_cv_v (vs := []) rfl ml_12_459 rfl (rOk.of rfl) ⟨Nat.zero_le _, Nat.zero_le _⟩ rfl rfl rfl h s_X12_goesByWays (fun _ M2 h => ?_)
      refine r_aload_n rfl rfl ?_
      refine r_cv_v (vs := []) rfl ml_12_422 rfl (rOk.of rfl) ⟨Nat.zero_le _, Nat.zero_le _⟩ rfl rfl rfl h s_X12_laysMoves (fun _ M3 h => ?_)
      refine r_iinc (v := 1) (lo' := [some (va_rf r0), some (.int i1), some (.int (i2 + (1 : Int32)))]) rfl rfl rfl (by decide) rfl rfl ?_
      refine r_goto 6 rfl (by decide) ?_
      exact hq6 _ _ _ _ h
    · refine r_iload_n rfl rfl ?_
      exact r_iret rfl rfl ⟨Nat.le_of_ble_eq_true rfl, Nat.le_of_ble_eq_true rfl⟩ h
theorem s_X12_goesFor_6 {d : Nat} {P : Int32 → Mem → Prop}   : ∀ (k : Nat) (r0 : Option Nat) (i1 : Int32) (i2 : Int32) (M : Mem), FQ (f_X12_goesFor_6  k r0 i1 i2 M) P → wp Y_X12_goesFor (rmD (d + 7) 0 0) (FM (QI P) 0 0) 0 0 6 [some (va_rf r0), some (.int i1), some (.int i2)] [] M
  | 0, _, _, _, _, h => h.no
  | k + 1, r0, i1, i2, M, h => sb_X12_goesFor_6  (s_X12_goesFor_6  k) r0 i1 i2 M h
theorem s_X12_goesFor {d : Nat} {P : Int32 → Mem → Prop} {r0 : Option Nat} {i1 : Int32} {M : Mem} (h : FQ (f_X12_goesFor r0 i1 M) P) : Con Y_X12_goesFor (d + 7) 0 0 [va_rf r0, .int i1] M (QI P) := by
  refine Con.of [some (va_rf r0), some (.int i1), none] (by decide +kernel) dk_X12_goesFor (by simp [Y_X12_goesFor, cat_rf, cat_i, cat_l]) (by simp [loE, Y_X12_goesFor, cat_rf, cat_i, cat_l, List.replicate]) ?_
  unfold f_X12_goesFor at h
  refine r_iconst (v := 0) rfl (by decide) ?_
  refine r_istore_n (lo' := [some (va_rf r0), some (.int i1), some (.int (0 : Int32))]) rfl rfl rfl rfl ?_
  refine r_aload_n rfl rfl ?_
  refine r_cv_v (vs := []) rfl ml_12_422 rfl (rOk.of rfl) ⟨Nat.zero_le _, Nat.zero_le _⟩ rfl rfl rfl h s_X12_laysMoves (fun _ M1 h => ?_)
  exact s_X12_goesFor_6 FU _ _ _ _ h
set_option maxRecDepth 20000 in
theorem dk_X12_match : ∀ pc i, L_X12_match[pc]? = some (some i) → decode prog_14_method_85_code pc = .ok i := dk_of (by decide +kernel)
theorem s_X12_match {d : Nat} {P : Int32 → Mem → Prop} {r0 : Option Nat} {i1 : Int32} {i2 : Int32} {M : Mem} (h : FQ (f_X12_match r0 i1 i2 M) P) : Con Y_X12_match (d + 8) 0 0 [va_rf r0, .int i1, .int i2] M (QI P) := by
  refine Con.of [some (va_rf r0), some (.int i1), some (.int i2), none] (by decide +kernel) dk_X12_match (by simp [Y_X12_match, cat_rf, cat_i, cat_l]) (by simp [loE, Y_X12_match, cat_rf, cat_i, cat_l, List.replicate]) ?_
  unfold f_X12_match at h
  refine r_iload_n rfl rfl ?_
  refine r_iconst (v := 1) rfl (by decide) ?_
  refine r_bipush (v := 99) rfl (by decide) ?_
  refine r_cs_i (vs := [.int i1, .int (1 : Int32), .int (99 : Int32)]) rfl ml_12_151 (rOk.of rfl) ⟨Nat.zero_le _, Nat.zero_le _⟩ rfl rfl rfl h s_X12_in (fun v1 M1 h => ?_)
  refine r_if_eq 19 rfl (by decide) h (fun h => ?_) (fun h => ?_)
  · refine r_bipush (v := -2) rfl (by decide) ?_
    exact r_iret rfl rfl ⟨Nat.le_of_ble_eq_true rfl, Nat.le_of_ble_eq_true rfl⟩ h
  · refine r_iload_n rfl rfl ?_
    refine r_iconst (v := 0) rfl (by decide) ?_
    refine r_iconst (v := 1) rfl (by decide) ?_
    refine r_cs_i (vs := [.int i2, .int (0 : Int32), .int (1 : Int32)]) rfl ml_12_151 (rOk.of rfl) ⟨Nat.zero_le _, Nat.zero_le _⟩ rfl rfl rfl h s_X12_in (fun v2 M2 h => ?_)
    refine r_if_ne 22 rfl (by decide) h (fun h => ?_) (fun h => ?_)
    · refine r_bipush (v := -2) rfl (by decide) ?_
      exact r_iret rfl rfl ⟨Nat.le_of_ble_eq_true rfl, Nat.le_of_ble_eq_true rfl⟩ h
    · refine r_aload_n rfl rfl ?_
      refine r_cv_v (vs := []) rfl ml_12_410 rfl (rOk.of rfl) ⟨Nat.zero_le _, Nat.zero_le _⟩ rfl rfl rfl h s_X12_laysNow (fun _ M3 h => ?_)
      refine r_aload_n rfl rfl ?_
      refine r_iload_n rfl rfl ?_
      refine r_cv_i (vs := [.int i1]) rfl ml_12_462 rfl (rOk.of rfl) ⟨Nat.zero_le _, Nat.zero_le _⟩ rfl rfl rfl h s_X12_goesFor (fun v3 M4 h => ?_)
      refine r_istore_n (lo' := [some (va_rf r0), some (.int i1), some (.int i2), some (.int v3)]) rfl rfl rfl rfl ?_
      refine r_iload_n rfl rfl ?_
      refine r_iconst (v := 1) rfl (by decide) ?_
      refine r_ic_ne 41 rfl (by decide) h (fun h => ?_) (fun h => ?_)
      · refine r_iload_n rfl rfl ?_
        refine r_goto 56 rfl (by decide) ?_
        exact r_iret rfl rfl ⟨Nat.le_of_ble_eq_true rfl, Nat.le_of_ble_eq_true rfl⟩ h
      · refine r_aload_n rfl rfl ?_
        refine r_cv_i (vs := []) rfl ml_12_455 rfl (rOk.of rfl) ⟨Nat.zero_le _, Nat.zero_le _⟩ rfl rfl rfl h s_X12_isOver (fun v4 M5 h => ?_)
        refine r_if_eq 55 rfl (by decide) h (fun h => ?_) (fun h => ?_)
        · refine r_iconst (v := -1) rfl (by decide) ?_
          exact r_iret rfl rfl ⟨Nat.le_of_ble_eq_true rfl, Nat.le_of_ble_eq_true rfl⟩ h
        · refine r_aload_n rfl rfl ?_
          refine r_getI rfl fl_12_355 rfl h (fun v5 h => ?_)
          refine r_goto 56 rfl (by decide) ?_
          exact r_iret rfl rfl ⟨Nat.le_of_ble_eq_true rfl, Nat.le_of_ble_eq_true rfl⟩ h
set_option maxRecDepth 20000 in
theorem dk_X12_offers : ∀ pc i, L_X12_offers[pc]? = some (some i) → decode prog_14_method_67_code pc = .ok i := dk_of (by decide +kernel)
theorem s_X12_offers {d : Nat} {P : Int32 → Mem → Prop} {r0 : Option Nat} {i1 : Int32} {M : Mem} (h : FQ (f_X12_offers r0 i1 M) P) : Con Y_X12_offers (d + 7) 0 0 [va_rf r0, .int i1] M (QI P) := by
  refine Con.of [some (va_rf r0), some (.int i1), none] (by decide +kernel) dk_X12_offers (by simp [Y_X12_offers, cat_rf, cat_i, cat_l]) (by simp [loE, Y_X12_offers, cat_rf, cat_i, cat_l, List.replicate]) ?_
  unfold f_X12_offers at h
  refine r_iload_n rfl rfl ?_
  refine r_iconst (v := -1) rfl (by decide) ?_
  refine r_ic_ge 7 rfl (by decide) h (fun h => ?_) (fun h => ?_)
  · refine r_aload_n rfl rfl ?_
    refine r_cv_v (vs := []) rfl ml_12_410 rfl (rOk.of rfl) ⟨Nat.zero_le _, Nat.zero_le _⟩ rfl rfl rfl h s_X12_laysNow (fun _ M1 h => ?_)
    refine r_aload_n rfl rfl ?_
    refine r_cv_v (vs := []) rfl ml_12_422 rfl (rOk.of rfl) ⟨Nat.zero_le _, Nat.zero_le _⟩ rfl rfl rfl h s_X12_laysMoves (fun _ M2 h => ?_)
    refine r_aload_n rfl rfl ?_
    refine r_iload_n rfl rfl ?_
    refine r_cv_i (vs := [.int i1]) rfl ml_12_425 rfl (rOk.of rfl) ⟨Nat.zero_le _, Nat.zero_le _⟩ rfl rfl rfl h s_X12_offerAt (fun v1 M3 h => ?_)
    refine r_istore_n (lo' := [some (va_rf r0), some (.int i1), some (.int v1)]) rfl rfl rfl rfl ?_
    refine r_iload_n rfl rfl ?_
    refine r_iconst (v := -1) rfl (by decide) ?_
    refine r_ic_ne 33 rfl (by decide) h (fun h => ?_) (fun h => ?_)
    · refine r_aload_n rfl rfl ?_
      refine r_getI rfl fl_12_416 rfl h (fun v2 h => ?_)
      refine r_goto 34 rfl (by decide) ?_
      exact r_iret rfl rfl ⟨Nat.le_of_ble_eq_true rfl, Nat.le_of_ble_eq_true rfl⟩ h
    · refine r_iload_n rfl rfl ?_
      exact r_iret rfl rfl ⟨Nat.le_of_ble_eq_true rfl, Nat.le_of_ble_eq_true rfl⟩ h
  · refine r_iconst (v := -1) rfl (by decide) ?_
    exact r_iret rfl rfl ⟨Nat.le_of_ble_eq_true rfl, Nat.le_of_ble_eq_true rfl⟩ h
set_option maxRecDepth 20000 in
theorem dk_X12_piece : ∀ pc i, L_X12_piece[pc]? = some (some i) → decode prog_14_method_6_code pc = .ok i := dk_of (by decide +kernel)
theorem s_X12_piece_33 {d : Nat} {P : Int32 → Mem → Prop}   (r0 : Option Nat) (i1 : Int32) (i2 : Int32) (i3 : Int32) (M : Mem) (h : FQ (f_X12_piece_33  r0 i1 i2 i3 M) P) : wp Y_X12_piece (rmD (d + 2) 0 0) (FM (QI P) 0 0) 0 0 33 [some (va_rf r0), some (.int i1), some (.int i2), some (.int i3)] [] M := by
  unfold f_X12_piece_33 at h
  refine r_aload_n rfl rfl ?_
  refine r_getR rfl fl_12_7 rfl h (fun v1 h => ?_)
  refine r_bipush (v := 20) rfl (by decide) ?_
  refine r_iload_n rfl rfl ?_
  refine r_iadd rfl ?_
  refine r_iload_n rfl rfl ?_
  refine r_iconst (v := -1) rfl (by decide) ?_
  refine r_ic_ne 50 rfl (by decide) h (fun h => ?_) (fun h => ?_)
  · refine r_iconst (v := 0) rfl (by decide) ?_
    refine r_goto 57 rfl (by decide) ?_
    refine r_iast rfl h (fun M1 h => ?_)
    refine r_iconst (v := 1) rfl (by decide) ?_
    exact r_zret rfl rfl ⟨Nat.le_of_ble_eq_true rfl, Nat.le_of_ble_eq_true rfl⟩ h
  · refine r_iconst (v := 1) rfl (by decide) ?_
    refine r_iload_n rfl rfl ?_
    refine r_iadd rfl ?_
    refine r_iconst (v := 4) rfl (by decide) ?_
    refine r_iload_n rfl rfl ?_
    refine r_imul rfl ?_
    refine r_iadd rfl ?_
    refine r_iast rfl h (fun M2 h => ?_)
    refine r_iconst (v := 1) rfl (by decide) ?_
    exact r_zret rfl rfl ⟨Nat.le_of_ble_eq_true rfl, Nat.le_of_ble_eq_true rfl⟩ h
theorem s_X12_piece {d : Nat} {P : Int32 → Mem → Prop} {r0 : Option Nat} {i1 : Int32} {i2 : Int32} {i3 : Int32} {M : Mem} (h : FQ (f_X12_piece r0 i1 i2 i3 M) P) : Con Y_X12_piece (d + 2) 0 0 [va_rf r0, .int i1, .int i2, .int i3] M (QI P) := by
  refine Con.of [some (va_rf r0), some (.int i1), some (.int i2), some (.int i3)] (by decide +kernel) dk_X12_piece (by simp [Y_X12_piece, cat_rf, cat_i, cat_l]) (by simp [loE, Y_X12_piece, cat_rf, cat_i, cat_l, List.replicate]) ?_
  unfold f_X12_piece at h
  refine r_aload_n rfl rfl ?_
  refine r_iload_n rfl rfl ?_
  refine r_cv_i (vs := [.int i1]) rfl ml_12_155 rfl (rOk.of rfl) ⟨Nat.zero_le _, Nat.zero_le _⟩ rfl rfl rfl h s_X12_isPlace (fun v1 M1 h => ?_)
  refine r_if_eq 31 rfl (by decide) h (fun h => ?_) (fun h => ?_)
  · refine r_iconst (v := 0) rfl (by decide) ?_
    exact r_zret rfl rfl ⟨Nat.le_of_ble_eq_true rfl, Nat.le_of_ble_eq_true rfl⟩ h
  · refine r_iload_n rfl rfl ?_
    refine r_iconst (v := -1) rfl (by decide) ?_
    refine r_ic_eq 33 rfl (by decide) h (fun h => ?_) (fun h => ?_)
    · exact s_X12_piece_33 _ _ _ _ _ h
    · refine r_iload_n rfl rfl ?_
      refine r_iconst (v := 0) rfl (by decide) ?_
      refine r_iconst (v := 3) rfl (by decide) ?_
      refine r_cs_i (vs := [.int i2, .int (0 : Int32), .int (3 : Int32)]) rfl ml_12_151 (rOk.of rfl) ⟨Nat.zero_le _, Nat.zero_le _⟩ rfl rfl rfl h s_X12_in (fun v2 M2 h => ?_)
      refine r_if_eq 31 rfl (by decide) h (fun h => ?_) (fun h => ?_)
      · refine r_iconst (v := 0) rfl (by decide) ?_
        exact r_zret rfl rfl ⟨Nat.le_of_ble_eq_true rfl, Nat.le_of_ble_eq_true rfl⟩ h
      · refine r_iload_n rfl rfl ?_
        refine r_iconst (v := 0) rfl (by decide) ?_
        refine r_iconst (v := 1) rfl (by decide) ?_
        refine r_cs_i (vs := [.int i3, .int (0 : Int32), .int (1 : Int32)]) rfl ml_12_151 (rOk.of rfl) ⟨Nat.zero_le _, Nat.zero_le _⟩ rfl rfl rfl h s_X12_in (fun v3 M3 h => ?_)
        refine r_if_ne 33 rfl (by decide) h (fun h => ?_) (fun h => ?_)
        · refine r_iconst (v := 0) rfl (by decide) ?_
          exact r_zret rfl rfl ⟨Nat.le_of_ble_eq_true rfl, Nat.le_of_ble_eq_true rfl⟩ h
        · exact s_X12_piece_33 _ _ _ _ _ h
set_option maxRecDepth 20000 in
theorem dk_X12_keepsNow : ∀ pc i, L_X12_keepsNow[pc]? = some (some i) → decode prog_14_method_48_code pc = .ok i := dk_of (by decide +kernel)
theorem sb_X12_keepsNow_31 {d : Nat} {P : Unit → Mem → Prop} {q31 : Option Nat → Int32 → Mem → Option (Unit × Mem)} (hq31 : ∀ (r0 : Option Nat) (i1 : Int32) (M : Mem), FQ (q31 r0 i1 M) P → wp Y_X12_keepsNow (rmD d 0 0) (FM (QV P) 0 0) 0 0 31 [some (va_rf r0), some (.int i1)] [] M) (r0 : Option Nat) (i1 : Int32) (M : Mem) (h : FQ (b_X12_keepsNow_31 q31 r0 i1 M) P) : wp Y_X12_keepsNow (rmD d 0 0) (FM (QV P) 0 0) 0 0 31 [some (va_rf r0), some (.int i1)] [] M := by
  unfold b_X12_keepsNow_31 at h
  refine r_iload_n rfl rfl ?_
  refine r_bipush (v := 8) rfl (by decide) ?_
  refine r_ic_ge 58 rfl (by decide) h (fun h => ?_) (fun h => ?_)
  · refine r_aload_n rfl rfl ?_
    refine r_getR rfl fl_12_7 rfl h (fun v1 h => ?_)
    refine r_iconst (v := 0) rfl (by decide) ?_
    refine r_aload_n rfl rfl ?_
    refine r_getI rfl fl_12_355 rfl h (fun v2 h => ?_)
    refine r_iast rfl h (fun M1 h => ?_)
    exact r_vret rfl rfl ⟨Nat.le_of_ble_eq_true rfl, Nat.le_of_ble_eq_true rfl⟩ h
  · refine r_aload_n rfl rfl ?_
    refine r_getR rfl fl_12_7 rfl h (fun v3 h => ?_)
    refine r_bipush (v := 10) rfl (by decide) ?_
    refine r_iload_n rfl rfl ?_
    refine r_iadd rfl ?_
    refine r_aload_n rfl rfl ?_
    refine r_getR rfl fl_12_91 rfl h (fun v4 h => ?_)
    refine r_iload_n rfl rfl ?_
    refine r_iald rfl h (fun v5 h => ?_)
    refine r_iast rfl h (fun M2 h => ?_)
    refine r_iinc (v := 1) (lo' := [some (va_rf r0), some (.int (i1 + (1 : Int32)))]) rfl rfl rfl (by decide) (by simp [stOk, cat_rf]) rfl ?_
    refine r_goto 31 rfl (by decide) ?_
    exact hq31 _ _ _ h
theorem s_X12_keepsNow_31 {d : Nat} {P : Unit → Mem → Prop}   : ∀ (k : Nat) (r0 : Option Nat) (i1 : Int32) (M : Mem), FQ (f_X12_keepsNow_31  k r0 i1 M) P → wp Y_X12_keepsNow (rmD d 0 0) (FM (QV P) 0 0) 0 0 31 [some (va_rf r0), some (.int i1)] [] M
  | 0, _, _, _, h => h.no
  | k + 1, r0, i1, M, h => sb_X12_keepsNow_31  (s_X12_keepsNow_31  k) r0 i1 M h
theorem sb_X12_keepsNow_2 {d : Nat} {P : Unit → Mem → Prop} {q2 : Option Nat → Int32 → Mem → Option (Unit × Mem)} (hq2 : ∀ (r0 : Option Nat) (i1 : Int32) (M : Mem), FQ (q2 r0 i1 M) P → wp Y_X12_keepsNow (rmD d 0 0) (FM (QV P) 0 0) 0 0 2 [some (va_rf r0), some (.int i1)] [] M) (r0 : Option Nat) (i1 : Int32) (M : Mem) (h : FQ (b_X12_keepsNow_2 q2 r0 i1 M) P) : wp Y_X12_keepsNow (rmD d 0 0) (FM (QV P) 0 0) 0 0 2 [some (va_rf r0), some (.int i1)] [] M := by
  unfold b_X12_keepsNow_2 at h
  refine r_iload_n rfl rfl ?_
  refine r_bipush (v := 12) rfl (by decide) ?_
  refine r_ic_ge 29 rfl (by decide) h (fun h => ?_) (fun h => ?_)
  · refine r_iconst (v := 0) rfl (by decide) ?_
    refine r_istore_n (lo' := [some (va_rf r0), some (.int (0 : Int32))]) rfl rfl (by simp [stOk, cat_rf]) rfl ?_
    exact s_X12_keepsNow_31 FU _ _ _ h
  · refine r_aload_n rfl rfl ?_
    refine r_getR rfl fl_12_7 rfl h (fun v1 h => ?_)
    refine r_bipush (v := 20) rfl (by decide) ?_
    refine r_iload_n rfl rfl ?_
    refine r_iadd rfl ?_
    refine r_aload_n rfl rfl ?_
    refine r_getR rfl fl_12_88 rfl h (fun v2 h => ?_)
    refine r_iload_n rfl rfl ?_
    refine r_iald rfl h (fun v3 h => ?_)
    refine r_iast rfl h (fun M1 h => ?_)
    refine r_iinc (v := 1) (lo' := [some (va_rf r0), some (.int (i1 + (1 : Int32)))]) rfl rfl rfl (by decide) (by simp [stOk, cat_rf]) rfl ?_
    refine r_goto 2 rfl (by decide) ?_
    exact hq2 _ _ _ h
theorem s_X12_keepsNow_2 {d : Nat} {P : Unit → Mem → Prop}   : ∀ (k : Nat) (r0 : Option Nat) (i1 : Int32) (M : Mem), FQ (f_X12_keepsNow_2  k r0 i1 M) P → wp Y_X12_keepsNow (rmD d 0 0) (FM (QV P) 0 0) 0 0 2 [some (va_rf r0), some (.int i1)] [] M
  | 0, _, _, _, h => h.no
  | k + 1, r0, i1, M, h => sb_X12_keepsNow_2  (s_X12_keepsNow_2  k) r0 i1 M h
theorem s_X12_keepsNow {d : Nat} {P : Unit → Mem → Prop} {r0 : Option Nat} {M : Mem} (h : FQ (f_X12_keepsNow r0 M) P) : Con Y_X12_keepsNow d 0 0 [va_rf r0] M (QV P) := by
  refine Con.of [some (va_rf r0), none] (by decide +kernel) dk_X12_keepsNow (by simp [Y_X12_keepsNow, cat_rf, cat_i, cat_l]) (by simp [loE, Y_X12_keepsNow, cat_rf, cat_i, cat_l, List.replicate]) ?_
  unfold f_X12_keepsNow at h
  refine r_iconst (v := 0) rfl (by decide) ?_
  refine r_istore_n (lo' := [some (va_rf r0), some (.int (0 : Int32))]) rfl rfl (by simp [stOk, cat_rf]) rfl ?_
  exact s_X12_keepsNow_2 FU _ _ _ h
set_option maxRecDepth 20000 in
theorem dk_X12_play : ∀ pc i, L_X12_play[pc]? = some (some i) → decode prog_14_method_70_code pc = .ok i := dk_of (by decide +kernel)
theorem s_X12_play {d : Nat} {P : Int32 → Mem → Prop} {r0 : Option Nat} {i1 : Int32} {i2 : Int32} {i3 : Int32} {i4 : Int32} {i5 : Int32} {M : Mem} (h : FQ (f_X12_play r0 i1 i2 i3 i4 i5 M) P) : Con Y_X12_play (d + 7) 0 0 [va_rf r0, .int i1, .int i2, .int i3, .int i4, .int i5] M (QI P) := by
  refine Con.of [some (va_rf r0), some (.int i1), some (.int i2), some (.int i3), some (.int i4), some (.int i5)] (by decide +kernel) dk_X12_play (by simp [Y_X12_play, cat_rf, cat_i, cat_l]) (by simp [loE, Y_X12_play, cat_rf, cat_i, cat_l, List.replicate]) ?_
  unfold f_X12_play at h
  refine r_aload_n rfl rfl ?_
  refine r_cv_v (vs := []) rfl ml_12_410 rfl (rOk.of rfl) ⟨Nat.zero_le _, Nat.zero_le _⟩ rfl rfl rfl h s_X12_laysNow (fun _ M1 h => ?_)
  refine r_aload_n rfl rfl ?_
  refine r_cv_v (vs := []) rfl ml_12_422 rfl (rOk.of rfl) ⟨Nat.zero_le _, Nat.zero_le _⟩ rfl rfl rfl h s_X12_laysMoves (fun _ M2 h => ?_)
  refine r_aload_n rfl rfl ?_
  refine r_iload_n rfl rfl ?_
  refine r_iload_n rfl rfl ?_
  refine r_iload_n rfl rfl ?_
  refine r_iload rfl rfl ?_
  refine r_iload rfl rfl ?_
  refine r_cv_i (vs := [.int i1, .int i2, .int i3, .int i4, .int i5]) rfl ml_12_432 rfl (rOk.of rfl) ⟨Nat.zero_le _, Nat.zero_le _⟩ rfl rfl rfl h s_X12_canPly (fun v1 M3 h => ?_)
  refine r_if_ne 24 rfl (by decide) h (fun h => ?_) (fun h => ?_)
  · refine r_iconst (v := 0) rfl (by decide) ?_
    exact r_zret rfl rfl ⟨Nat.le_of_ble_eq_true rfl, Nat.le_of_ble_eq_true rfl⟩ h
  · refine r_aload_n rfl rfl ?_
    refine r_iload rfl rfl ?_
    refine r_iload rfl rfl ?_
    refine r_cv_v (vs := [.int i4, .int i5]) rfl ml_12_436 rfl (rOk.of rfl) ⟨Nat.zero_le _, Nat.zero_le _⟩ rfl rfl rfl h s_X12_plays (fun _ M4 h => ?_)
    refine r_aload_n rfl rfl ?_
    refine r_cv_v (vs := []) rfl ml_12_439 rfl (rOk.of rfl) ⟨Nat.zero_le _, Nat.zero_le _⟩ rfl rfl rfl h s_X12_keepsNow (fun _ M5 h => ?_)
    refine r_iconst (v := 1) rfl (by decide) ?_
    exact r_zret rfl rfl ⟨Nat.le_of_ble_eq_true rfl, Nat.le_of_ble_eq_true rfl⟩ h
set_option maxRecDepth 20000 in
theorem dk_X12_ply : ∀ pc i, L_X12_ply[pc]? = some (some i) → decode prog_14_method_79_code pc = .ok i := dk_of (by decide +kernel)
theorem s_X12_ply {d : Nat} {P : Int32 → Mem → Prop} {r0 : Option Nat} {i1 : Int32} {i2 : Int32} {i3 : Int32} {i4 : Int32} {i5 : Int32} {M : Mem} (h : FQ (f_X12_ply r0 i1 i2 i3 i4 i5 M) P) : Con Y_X12_ply (d + 2) 0 0 [va_rf r0, .int i1, .int i2, .int i3, .int i4, .int i5] M (QI P) := by
  refine Con.of [some (va_rf r0), some (.int i1), some (.int i2), some (.int i3), some (.int i4), some (.int i5), none] (by decide +kernel) dk_X12_ply (by simp [Y_X12_ply, cat_rf, cat_i, cat_l]) (by simp [loE, Y_X12_ply, cat_rf, cat_i, cat_l, List.replicate]) ?_
  unfold f_X12_ply at h
  refine r_iload_n rfl rfl ?_
  refine r_iconst (v := -1) rfl (by decide) ?_
  refine r_ic_ne 14 rfl (by decide) h (fun h => ?_) (fun h => ?_)
  · refine r_aload_n rfl rfl ?_
    refine r_getR rfl fl_12_7 rfl h (fun v1 h => ?_)
    refine r_iconst (v := 5) rfl (by decide) ?_
    refine r_iconst (v := 0) rfl (by decide) ?_
    refine r_iast rfl h (fun M1 h => ?_)
    refine r_iconst (v := 0) rfl (by decide) ?_
    exact r_iret rfl rfl ⟨Nat.le_of_ble_eq_true rfl, Nat.le_of_ble_eq_true rfl⟩ h
  · refine r_iload_n rfl rfl ?_
    refine r_cs_i (vs := [.int i1]) rfl ml_12_159 (rOk.of rfl) ⟨Nat.zero_le _, Nat.zero_le _⟩ rfl rfl rfl h s_X12_isMove (fun v2 M2 h => ?_)
    refine r_if_eq 62 rfl (by decide) h (fun h => ?_) (fun h => ?_)
    · refine r_iconst (v := -1) rfl (by decide) ?_
      exact r_iret rfl rfl ⟨Nat.le_of_ble_eq_true rfl, Nat.le_of_ble_eq_true rfl⟩ h
    · refine r_iload_n rfl rfl ?_
      refine r_cs_i (vs := [.int i2]) rfl ml_12_159 (rOk.of rfl) ⟨Nat.zero_le _, Nat.zero_le _⟩ rfl rfl rfl h s_X12_isMove (fun v3 M3 h => ?_)
      refine r_if_eq 62 rfl (by decide) h (fun h => ?_) (fun h => ?_)
      · refine r_iconst (v := -1) rfl (by decide) ?_
        exact r_iret rfl rfl ⟨Nat.le_of_ble_eq_true rfl, Nat.le_of_ble_eq_true rfl⟩ h
      · refine r_iload_n rfl rfl ?_
        refine r_cs_i (vs := [.int i3]) rfl ml_12_159 (rOk.of rfl) ⟨Nat.zero_le _, Nat.zero_le _⟩ rfl rfl rfl h s_X12_isMove (fun v4 M4 h => ?_)
        refine r_if_eq 62 rfl (by decide) h (fun h => ?_) (fun h => ?_)
        · refine r_iconst (v := -1) rfl (by decide) ?_
          exact r_iret rfl rfl ⟨Nat.le_of_ble_eq_true rfl, Nat.le_of_ble_eq_true rfl⟩ h
        · refine r_iload rfl rfl ?_
          refine r_cs_i (vs := [.int i4]) rfl ml_12_159 (rOk.of rfl) ⟨Nat.zero_le _, Nat.zero_le _⟩ rfl rfl rfl h s_X12_isMove (fun v5 M5 h => ?_)
          refine r_if_eq 62 rfl (by decide) h (fun h => ?_) (fun h => ?_)
          · refine r_iconst (v := -1) rfl (by decide) ?_
            exact r_iret rfl rfl ⟨Nat.le_of_ble_eq_true rfl, Nat.le_of_ble_eq_true rfl⟩ h
          · refine r_iload rfl rfl ?_
            refine r_cs_i (vs := [.int i5]) rfl ml_12_159 (rOk.of rfl) ⟨Nat.zero_le _, Nat.zero_le _⟩ rfl rfl rfl h s_X12_isMove (fun v6 M6 h => ?_)
            refine r_if_eq 62 rfl (by decide) h (fun h => ?_) (fun h => ?_)
            · refine r_iconst (v := -1) rfl (by decide) ?_
              exact r_iret rfl rfl ⟨Nat.le_of_ble_eq_true rfl, Nat.le_of_ble_eq_true rfl⟩ h
            · refine r_aload_n rfl rfl ?_
              refine r_getR rfl fl_12_7 rfl h (fun v7 h => ?_)
              refine r_iconst (v := 5) rfl (by decide) ?_
              refine r_iald rfl h (fun v8 h => ?_)
              refine r_bipush (v := 40) rfl (by decide) ?_
              refine r_ic_ne 64 rfl (by decide) h (fun h => ?_) (fun h => ?_)
              · refine r_iconst (v := -1) rfl (by decide) ?_
                exact r_iret rfl rfl ⟨Nat.le_of_ble_eq_true rfl, Nat.le_of_ble_eq_true rfl⟩ h
              · refine r_bipush (v := 40) rfl (by decide) ?_
                refine r_iconst (v := 5) rfl (by decide) ?_
                refine r_aload_n rfl rfl ?_
                refine r_getR rfl fl_12_7 rfl h (fun v9 h => ?_)
                refine r_iconst (v := 5) rfl (by decide) ?_
                refine r_iald rfl h (fun v10 h => ?_)
                refine r_imul rfl ?_
                refine r_iadd rfl ?_
                refine r_istore (lo' := [some (va_rf r0), some (.int i1), some (.int i2), some (.int i3), some (.int i4), some (.int i5), some (.int ((40 : Int32) + ((5 : Int32) * v10)))]) rfl rfl rfl rfl ?_
                refine r_aload_n rfl rfl ?_
                refine r_getR rfl fl_12_7 rfl h (fun v11 h => ?_)
                refine r_iload rfl rfl ?_
                refine r_iload_n rfl rfl ?_
                refine r_iast rfl h (fun M7 h => ?_)
                refine r_aload_n rfl rfl ?_
                refine r_getR rfl fl_12_7 rfl h (fun v12 h => ?_)
                refine r_iload rfl rfl ?_
                refine r_iconst (v := 1) rfl (by decide) ?_
                refine r_iadd rfl ?_
                refine r_iload_n rfl rfl ?_
                refine r_iast rfl h (fun M8 h => ?_)
                refine r_aload_n rfl rfl ?_
                refine r_getR rfl fl_12_7 rfl h (fun v13 h => ?_)
                refine r_iload rfl rfl ?_
                refine r_iconst (v := 2) rfl (by decide) ?_
                refine r_iadd rfl ?_
                refine r_iload_n rfl rfl ?_
                refine r_iast rfl h (fun M9 h => ?_)
                refine r_aload_n rfl rfl ?_
                refine r_getR rfl fl_12_7 rfl h (fun v14 h => ?_)
                refine r_iload rfl rfl ?_
                refine r_iconst (v := 3) rfl (by decide) ?_
                refine r_iadd rfl ?_
                refine r_iload rfl rfl ?_
                refine r_iast rfl h (fun M10 h => ?_)
                refine r_aload_n rfl rfl ?_
                refine r_getR rfl fl_12_7 rfl h (fun v15 h => ?_)
                refine r_iload rfl rfl ?_
                refine r_iconst (v := 4) rfl (by decide) ?_
                refine r_iadd rfl ?_
                refine r_iload rfl rfl ?_
                refine r_iast rfl h (fun M11 h => ?_)
                refine r_aload_n rfl rfl ?_
                refine r_getR rfl fl_12_7 rfl h (fun v16 h => ?_)
                refine r_iconst (v := 5) rfl (by decide) ?_
                refine r_dup2 rfl rfl (cat_rf _) ?_
                refine r_iald rfl h (fun v17 h => ?_)
                refine r_iconst (v := 1) rfl (by decide) ?_
                refine r_iadd rfl ?_
                refine r_iast rfl h (fun M12 h => ?_)
                refine r_aload_n rfl rfl ?_
                refine r_getR rfl fl_12_7 rfl h (fun v18 h => ?_)
                refine r_iconst (v := 5) rfl (by decide) ?_
                refine r_iald rfl h (fun v19 h => ?_)
                exact r_iret rfl rfl ⟨Nat.le_of_ble_eq_true rfl, Nat.le_of_ble_eq_true rfl⟩ h
set_option maxRecDepth 20000 in
theorem dk_X12_run : ∀ pc i, L_X12_run[pc]? = some (some i) → decode prog_14_method_77_code pc = .ok i := dk_of (by decide +kernel)
theorem s_X12_run {d : Nat} {P : Int32 → Mem → Prop} {r0 : Option Nat} {i1 : Int32} {M : Mem} (h : FQ (f_X12_run r0 i1 M) P) : Con Y_X12_run (d + 8) 0 0 [va_rf r0, .int i1] M (QI P) := by
  refine Con.of [some (va_rf r0), some (.int i1), none] (by decide +kernel) dk_X12_run (by simp [Y_X12_run, cat_rf, cat_i, cat_l]) (by simp [loE, Y_X12_run, cat_rf, cat_i, cat_l, List.replicate]) ?_
  unfold f_X12_run at h
  refine r_iload_n rfl rfl ?_
  refine r_iconst (v := 1) rfl (by decide) ?_
  refine r_bipush (v := 99) rfl (by decide) ?_
  refine r_cs_i (vs := [.int i1, .int (1 : Int32), .int (99 : Int32)]) rfl ml_12_151 (rOk.of rfl) ⟨Nat.zero_le _, Nat.zero_le _⟩ rfl rfl rfl h s_X12_in (fun v1 M1 h => ?_)
  refine r_if_ne 12 rfl (by decide) h (fun h => ?_) (fun h => ?_)
  · refine r_iconst (v := -1) rfl (by decide) ?_
    exact r_iret rfl rfl ⟨Nat.le_of_ble_eq_true rfl, Nat.le_of_ble_eq_true rfl⟩ h
  · refine r_aload_n rfl rfl ?_
    refine r_cv_v (vs := []) rfl ml_12_410 rfl (rOk.of rfl) ⟨Nat.zero_le _, Nat.zero_le _⟩ rfl rfl rfl h s_X12_laysNow (fun _ M2 h => ?_)
    refine r_aload_n rfl rfl ?_
    refine r_iload_n rfl rfl ?_
    refine r_cv_i (vs := [.int i1]) rfl ml_12_462 rfl (rOk.of rfl) ⟨Nat.zero_le _, Nat.zero_le _⟩ rfl rfl rfl h s_X12_goesFor (fun v2 M3 h => ?_)
    refine r_istore_n (lo' := [some (va_rf r0), some (.int i1), some (.int v2)]) rfl rfl rfl rfl ?_
    refine r_aload_n rfl rfl ?_
    refine r_cv_v (vs := []) rfl ml_12_439 rfl (rOk.of rfl) ⟨Nat.zero_le _, Nat.zero_le _⟩ rfl rfl rfl h s_X12_keepsNow (fun _ M4 h => ?_)
    refine r_iload_n rfl rfl ?_
    exact r_iret rfl rfl ⟨Nat.le_of_ble_eq_true rfl, Nat.le_of_ble_eq_true rfl⟩ h
set_option maxRecDepth 20000 in
theorem dk_X12_goesOnFrom : ∀ pc i, L_X12_goesOnFrom[pc]? = some (some i) → decode prog_14_method_109_code pc = .ok i := dk_of (by decide +kernel)
theorem sb_X12_goesOnFrom_2 {d : Nat} {P : Int32 → Mem → Prop} {q2 : Option Nat → Int32 → Int32 → Mem → Option (Int32 × Mem)} (hq2 : ∀ (r0 : Option Nat) (i1 : Int32) (i2 : Int32) (M : Mem), FQ (q2 r0 i1 i2 M) P → wp Y_X12_goesOnFrom (rmD d 0 0) (FM (QI P) 0 0) 0 0 2 [some (va_rf r0), some (.int i1), some (.int i2), none] [] M) (r0 : Option Nat) (i1 : Int32) (i2 : Int32) (M : Mem) (h : FQ (b_X12_goesOnFrom_2 q2 r0 i1 i2 M) P) : wp Y_X12_goesOnFrom (rmD d 0 0) (FM (QI P) 0 0) 0 0 2 [some (va_rf r0), some (.int i1), some (.int i2), none] [] M := by
  unfold b_X12_goesOnFrom_2 at h
  refine r_iload_n rfl rfl ?_
  refine r_bipush (v := 64) rfl (by decide) ?_
  refine r_ic_ge 42 rfl (by decide) h (fun h => ?_) (fun h => ?_)
  · refine r_iconst (v := 0) rfl (by decide) ?_
    exact r_zret rfl rfl ⟨Nat.le_of_ble_eq_true rfl, Nat.le_of_ble_eq_true rfl⟩ h
  · refine r_aload_n rfl rfl ?_
    refine r_getR rfl fl_12_119 rfl h (fun v1 h => ?_)
    refine r_bipush (v := 64) rfl (by decide) ?_
    refine r_iload_n rfl rfl ?_
    refine r_imul rfl ?_
    refine r_iload_n rfl rfl ?_
    refine r_iadd rfl ?_
    refine r_iald rfl h (fun v2 h => ?_)
    refine r_istore_n (lo' := [some (va_rf r0), some (.int i1), some (.int i2), some (.int v2)]) rfl rfl rfl rfl ?_
    refine r_iload_n rfl rfl ?_
    refine r_iconst (v := -1) rfl (by decide) ?_
    refine r_ic_eq 36 rfl (by decide) h (fun h => ?_) (fun h => ?_)
    · refine r_iinc (v := 1) (lo' := [some (va_rf r0), some (.int i1), some (.int (i2 + (1 : Int32))), some (.int v2)]) rfl rfl rfl (by decide) rfl rfl ?_
      refine r_goto 2 rfl (by decide) ?_
      refine r_msk [true, true, true, false] rfl ?_
      exact hq2 _ _ _ _ h
    · refine r_aload_n rfl rfl ?_
      refine r_getR rfl fl_12_134 rfl h (fun v3 h => ?_)
      refine r_iload_n rfl rfl ?_
      refine r_zald rfl h (fun v4 h => ?_)
      refine r_if_ne 36 rfl (by decide) h (fun h => ?_) (fun h => ?_)
      · refine r_iconst (v := 1) rfl (by decide) ?_
        exact r_zret rfl rfl ⟨Nat.le_of_ble_eq_true rfl, Nat.le_of_ble_eq_true rfl⟩ h
      · refine r_iinc (v := 1) (lo' := [some (va_rf r0), some (.int i1), some (.int (i2 + (1 : Int32))), some (.int v2)]) rfl rfl rfl (by decide) rfl rfl ?_
        refine r_goto 2 rfl (by decide) ?_
        refine r_msk [true, true, true, false] rfl ?_
        exact hq2 _ _ _ _ h
theorem s_X12_goesOnFrom_2 {d : Nat} {P : Int32 → Mem → Prop}   : ∀ (k : Nat) (r0 : Option Nat) (i1 : Int32) (i2 : Int32) (M : Mem), FQ (f_X12_goesOnFrom_2  k r0 i1 i2 M) P → wp Y_X12_goesOnFrom (rmD d 0 0) (FM (QI P) 0 0) 0 0 2 [some (va_rf r0), some (.int i1), some (.int i2), none] [] M
  | 0, _, _, _, _, h => h.no
  | k + 1, r0, i1, i2, M, h => sb_X12_goesOnFrom_2  (s_X12_goesOnFrom_2  k) r0 i1 i2 M h
theorem s_X12_goesOnFrom {d : Nat} {P : Int32 → Mem → Prop} {r0 : Option Nat} {i1 : Int32} {M : Mem} (h : FQ (f_X12_goesOnFrom r0 i1 M) P) : Con Y_X12_goesOnFrom d 0 0 [va_rf r0, .int i1] M (QI P) := by
  refine Con.of [some (va_rf r0), some (.int i1), none, none] (by decide +kernel) dk_X12_goesOnFrom (by simp [Y_X12_goesOnFrom, cat_rf, cat_i, cat_l]) (by simp [loE, Y_X12_goesOnFrom, cat_rf, cat_i, cat_l, List.replicate]) ?_
  unfold f_X12_goesOnFrom at h
  refine r_iconst (v := 0) rfl (by decide) ?_
  refine r_istore_n (lo' := [some (va_rf r0), some (.int i1), some (.int (0 : Int32)), none]) rfl rfl rfl rfl ?_
  exact s_X12_goesOnFrom_2 FU _ _ _ _ h
