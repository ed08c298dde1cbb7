/-! walked by program (wip/gen): X10_pick X11_offers X11_piece X11_play X11_ply X11_run X0_hasCircle X11_runs X11_states X5_isDigit -/
def L_X10_pick : List (Option (Instr × Nat)) := [some (.iload_n 2, 1), some (.iconst (-1), 1), some (.if_icmp .ne 11, 3), none, none, some (.aload_n 0, 1), some (.iload_n 1, 1), some (.invokevirtual 15, 3), none, none, some (.goto 12, 3), none, none, some (.aload_n 0, 1), some (.iload_n 1, 1), some (.iload_n 2, 1), some (.invokevirtual 19, 3), none, none, some (.invokestatic 23, 3), none, none, some (.ireturn, 1)]
def Y_X10_pick : YM := (⟨RX10, "pick", "(II)I"⟩, prog_12_method_5_code, L_X10_pick, 3, some .int)
def f_X10_pick (r0 : Option Nat) (i1 : Int32) (i2 : Int32) (M : Mem) : Option (Int32 × Mem) :=
(if i2 = (-1 : Int32) then
cR M r0 (1, 10) (cA (f_X10_count r0 i1 M) fun v1 M1 =>
some (v1, M1))
else
cR M r0 (1, 10) (cA (f_X10_nth r0 i1 i2 M) fun v2 M2 =>
cA (f_X10_asTold v2 M2) fun v3 M3 =>
some (v3, M3)))
def L_X11_offers : List (Option (Instr × Nat)) := [some (.aload_n 0, 1), some (.getfield 83, 3), none, none, some (.aload_n 0, 1), some (.getfield 10, 3), none, none, some (.getfield 114, 3), none, none, some (.aload_n 0, 1), some (.aload_n 0, 1), some (.getfield 10, 3), none, none, some (.getfield 156, 3), none, none, some (.invokevirtual 162, 3), none, none, some (.aload_n 0, 1), some (.getfield 10, 3), none, none, some (.getfield 114, 3), none, none, some (.invokevirtual 182, 3), none, none, some (.invokevirtual 166, 3), none, none, some (.aload_n 0, 1), some (.getfield 40, 3), none, none, some (.aload_n 0, 1), some (.getfield 83, 3), none, none, some (.getfield 170, 3), none, none, some (.iload_n 1, 1), some (.invokevirtual 186, 3), none, none, some (.ireturn, 1)]
def Y_X11_offers : YM := (⟨RX11, "offers", "(I)I"⟩, prog_1_method_12_code, L_X11_offers, 2, some .int)
def f_X11_offers (r0 : Option Nat) (i1 : Int32) (M : Mem) : Option (Int32 × Mem) :=
gR M r0 11 8 fun v1 =>
gR M r0 11 2 fun v2 =>
gR M v2 7 0 fun v3 =>
gR M r0 11 2 fun v4 =>
gI M v4 7 5 fun v5 =>
cR M r0 (1, 11) (cA (f_X11_rules r0 v5 M) fun v6 M1 =>
gR M1 r0 11 2 fun v7 =>
gR M1 v7 7 0 fun v8 =>
cR M1 v8 (1, 4) (cA (f_X4_stock v8 M1) fun v9 M2 =>
cR M2 v1 (1, 2) (cA (f_X2_look v1 v3 v6 v9 M2) fun _ M3 =>
gR M3 r0 11 7 fun v10 =>
gR M3 r0 11 8 fun v11 =>
gI M3 v11 2 3 fun v12 =>
cR M3 v10 (1, 10) (cA (f_X10_pick v10 v12 i1 M3) fun v13 M4 =>
some (v13, M4)))))
def L_X11_piece : List (Option (Instr × Nat)) := [some (.iload_n 1, 1), some (.ifCond .lt 16, 3), none, none, some (.iload_n 1, 1), some (.aload_n 0, 1), some (.getfield 68, 3), none, none, some (.aload_n 0, 1), some (.getfield 72, 3), none, none, some (.imul, 1), some (.if_icmp .lt 5, 3), none, none, some (.iconst 0, 1), some (.ireturn, 1), some (.iload_n 2, 1), some (.iconst (-1), 1), some (.if_icmp .ne 17, 3), none, none, some (.aload_n 0, 1), some (.getfield 10, 3), none, none, some (.getfield 114, 3), none, none, some (.iload_n 1, 1), some (.iconst 0, 1), some (.invokevirtual 117, 3), none, none, some (.iconst 1, 1), some (.ireturn, 1), some (.iload_n 2, 1), some (.ifCond .lt 15, 3), none, none, some (.iload_n 2, 1), some (.iconst 4, 1), some (.if_icmp .ge 10, 3), none, none, some (.iload_n 3, 1), some (.invokestatic 121, 3), none, none, some (.ifCond .ne 5, 3), none, none, some (.iconst 0, 1), some (.ireturn, 1), some (.aload_n 0, 1), some (.getfield 10, 3), none, none, some (.getfield 114, 3), none, none, some (.iload_n 1, 1), some (.iconst 1, 1), some (.iload_n 2, 1), some (.iadd, 1), some (.iconst 4, 1), some (.iload_n 3, 1), some (.imul, 1), some (.iadd, 1), some (.invokevirtual 117, 3), none, none, some (.iconst 1, 1), some (.ireturn, 1)]
def Y_X11_piece : YM := (⟨RX11, "piece", "(III)Z"⟩, prog_1_method_2_code, L_X11_piece, 4, some .boolean)
def f_X11_piece (r0 : Option Nat) (i1 : Int32) (i2 : Int32) (i3 : Int32) (M : Mem) : Option (Int32 × Mem) :=
(if i1 < 0 then
tv (0 : Int32) (some ((0 : Int32), M))
else
gI M r0 11 0 fun v1 =>
gI M r0 11 1 fun v2 =>
(if i1 < (v1 * v2) then
(if i2 = (-1 : Int32) then
gR M r0 11 2 fun v3 =>
gR M v3 7 0 fun v4 =>
cR M v4 (1, 4) (cA (f_X4_setCell v4 i1 (0 : Int32) M) fun _ M1 =>
tv (1 : Int32) (some ((1 : Int32), M1)))
else
(if i2 < 0 then
tv (0 : Int32) (some ((0 : Int32), M))
else
(if (4 : Int32) ≤ i2 then
tv (0 : Int32) (some ((0 : Int32), M))
else
cA (f_X11_isSide i3 M) fun v5 M2 =>
(if v5 = 0 then
tv (0 : Int32) (some ((0 : Int32), M2))
else
gR M2 r0 11 2 fun v6 =>
gR M2 v6 7 0 fun v7 =>
cR M2 v7 (1, 4) (cA (f_X4_setCell v7 i1 (((1 : Int32) + i2) + ((4 : Int32) * i3)) M2) fun _ M3 =>
tv (1 : Int32) (some ((1 : Int32), M3)))))))
else
tv (0 : Int32) (some ((0 : Int32), M))))
def L_X11_play : List (Option (Instr × Nat)) := [some (.aload_n 0, 1), some (.aload_n 0, 1), some (.getfield 10, 3), none, none, some (.getfield 114, 3), none, none, some (.iload_n 1, 1), some (.iload_n 2, 1), some (.iload_n 3, 1), some (.invokestatic 189, 3), none, none, some (.iload 4, 2), none, some (.iload 5, 2), none, some (.invokevirtual 193, 3), none, none, some (.ireturn, 1)]
def Y_X11_play : YM := (⟨RX11, "play", "(IIIII)Z"⟩, prog_1_method_13_code, L_X11_play, 6, some .boolean)
def f_X11_play (r0 : Option Nat) (i1 : Int32) (i2 : Int32) (i3 : Int32) (i4 : Int32) (i5 : Int32) (M : Mem) : Option (Int32 × Mem) :=
gR M r0 11 2 fun v1 =>
gR M v1 7 0 fun v2 =>
cA (f_X10_bitsOf i1 i2 i3 M) fun v3 M1 =>
cR M1 r0 (1, 11) (cA (f_X11_told r0 v2 v3 i4 i5 M1) fun v4 M2 =>
tv v4 (some (v4, M2)))
def L_X11_ply : List (Option (Instr × Nat)) := [some (.iload_n 1, 1), some (.iconst (-1), 1), some (.if_icmp .ne 13, 3), none, none, some (.aload_n 0, 1), some (.getfield 10, 3), none, none, some (.iconst 0, 1), some (.putfield 205, 3), none, none, some (.iconst 0, 1), some (.ireturn, 1), some (.iload_n 1, 1), some (.invokestatic 125, 3), none, none, some (.ifCond .eq 37, 3), none, none, some (.iload_n 2, 1), some (.invokestatic 125, 3), none, none, some (.ifCond .eq 30, 3), none, none, some (.iload_n 3, 1), some (.invokestatic 125, 3), none, none, some (.ifCond .eq 23, 3), none, none, some (.iload 4, 2), none, some (.invokestatic 125, 3), none, none, some (.ifCond .eq 15, 3), none, none, some (.iload 5, 2), none, some (.invokestatic 125, 3), none, none, some (.ifCond .eq 7, 3), none, none, some (.iconst 1, 1), some (.goto 4, 3), none, none, some (.iconst 0, 1), some (.istore 6, 2), none, some (.iload 6, 2), none, some (.ifCond .eq 15, 3), none, none, some (.aload_n 0, 1), some (.getfield 10, 3), none, none, some (.getfield 205, 3), none, none, some (.bipush 40, 2), none, some (.if_icmp .lt 5, 3), none, none, some (.iconst (-1), 1), some (.ireturn, 1), some (.aload_n 0, 1), some (.getfield 10, 3), none, none, some (.getfield 205, 3), none, none, some (.iconst 5, 1), some (.imul, 1), some (.istore 7, 2), none, some (.aload_n 0, 1), some (.getfield 10, 3), none, none, some (.getfield 208, 3), none, none, some (.iload 7, 2), none, some (.iload_n 1, 1), some (.iastore, 1), some (.aload_n 0, 1), some (.getfield 10, 3), none, none, some (.getfield 208, 3), none, none, some (.iload 7, 2), none, some (.iconst 1, 1), some (.iadd, 1), some (.iload_n 2, 1), some (.iastore, 1), some (.aload_n 0, 1), some (.getfield 10, 3), none, none, some (.getfield 208, 3), none, none, some (.iload 7, 2), none, some (.iconst 2, 1), some (.iadd, 1), some (.iload_n 3, 1), some (.iastore, 1), some (.aload_n 0, 1), some (.getfield 10, 3), none, none, some (.getfield 208, 3), none, none, some (.iload 7, 2), none, some (.iconst 3, 1), some (.iadd, 1), some (.iload 4, 2), none, some (.iastore, 1), some (.aload_n 0, 1), some (.getfield 10, 3), none, none, some (.getfield 208, 3), none, none, some (.iload 7, 2), none, some (.iconst 4, 1), some (.iadd, 1), some (.iload 5, 2), none, some (.iastore, 1), some (.aload_n 0, 1), some (.getfield 10, 3), none, none, some (.dup, 1), some (.getfield 205, 3), none, none, some (.iconst 1, 1), some (.iadd, 1), some (.putfield 205, 3), none, none, some (.aload_n 0, 1), some (.getfield 10, 3), none, none, some (.getfield 205, 3), none, none, some (.ireturn, 1)]
def Y_X11_ply : YM := (⟨RX11, "ply", "(IIIII)I"⟩, prog_1_method_16_code, L_X11_ply, 8, some .int)
def f_X11_ply_57  (r0 : Option Nat) (i1 : Int32) (i2 : Int32) (i3 : Int32) (i4 : Int32) (i5 : Int32) (si0 : Int32) (M : Mem) : Option (Int32 × Mem) :=
(if si0 = 0 then
some ((-1 : Int32), M)
else
gR M r0 11 2 fun v1 =>
gI M v1 7 3 fun v2 =>
(if v2 < (40 : Int32) then
gR M r0 11 2 fun v3 =>
gI M v3 7 3 fun v4 =>
gR M r0 11 2 fun v5 =>
gR M v5 7 2 fun v6 =>
wI M v6 2 (v4 * (5 : Int32)) i1 fun M1 =>
gR M1 r0 11 2 fun v7 =>
gR M1 v7 7 2 fun v8 =>
wI M1 v8 2 ((v4 * (5 : Int32)) + (1 : Int32)) i2 fun M2 =>
gR M2 r0 11 2 fun v9 =>
gR M2 v9 7 2 fun v10 =>
wI M2 v10 2 ((v4 * (5 : Int32)) + (2 : Int32)) i3 fun M3 =>
gR M3 r0 11 2 fun v11 =>
gR M3 v11 7 2 fun v12 =>
wI M3 v12 2 ((v4 * (5 : Int32)) + (3 : Int32)) i4 fun M4 =>
gR M4 r0 11 2 fun v13 =>
gR M4 v13 7 2 fun v14 =>
wI M4 v14 2 ((v4 * (5 : Int32)) + (4 : Int32)) i5 fun M5 =>
gR M5 r0 11 2 fun v15 =>
gI M5 v15 7 3 fun v16 =>
pI M5 v15 7 3 (v16 + (1 : Int32)) fun M6 =>
gR M6 r0 11 2 fun v17 =>
gI M6 v17 7 3 fun v18 =>
some (v18, M6)
else
some ((-1 : Int32), M)))
def f_X11_ply (r0 : Option Nat) (i1 : Int32) (i2 : Int32) (i3 : Int32) (i4 : Int32) (i5 : Int32) (M : Mem) : Option (Int32 × Mem) :=
(if i1 = (-1 : Int32) then
gR M r0 11 2 fun v1 =>
pI M v1 7 3 (0 : Int32) fun M1 =>
some ((0 : Int32), M1)
else
cA (f_X11_isMove i1 M) fun v2 M2 =>
(if v2 = 0 then
f_X11_ply_57 r0 i1 i2 i3 i4 i5 (0 : Int32) M2
else
cA (f_X11_isMove i2 M2) fun v3 M3 =>
(if v3 = 0 then
f_X11_ply_57 r0 i1 i2 i3 i4 i5 (0 : Int32) M3
else
cA (f_X11_isMove i3 M3) fun v4 M4 =>
(if v4 = 0 then
f_X11_ply_57 r0 i1 i2 i3 i4 i5 (0 : Int32) M4
else
cA (f_X11_isMove i4 M4) fun v5 M5 =>
(if v5 = 0 then
f_X11_ply_57 r0 i1 i2 i3 i4 i5 (0 : Int32) M5
else
cA (f_X11_isMove i5 M5) fun v6 M6 =>
(if v6 = 0 then
f_X11_ply_57 r0 i1 i2 i3 i4 i5 (0 : Int32) M6
else
f_X11_ply_57 r0 i1 i2 i3 i4 i5 (1 : Int32) M6))))))
def L_X11_run : List (Option (Instr × Nat)) := [some (.iload_n 1, 1), some (.iconst 1, 1), some (.if_icmp .lt 9, 3), none, none, some (.iload_n 1, 1), some (.bipush 99, 2), none, some (.if_icmp .le 7, 3), none, none, some (.iconst (-1), 1), some (.goto 15, 3), none, none, some (.aload_n 0, 1), some (.aload_n 0, 1), some (.getfield 10, 3), none, none, some (.getfield 114, 3), none, none, some (.iload_n 1, 1), some (.invokevirtual 197, 3), none, none, some (.ireturn, 1)]
def Y_X11_run : YM := (⟨RX11, "run", "(I)I"⟩, prog_1_method_14_code, L_X11_run, 2, some .int)
def f_X11_run (r0 : Option Nat) (i1 : Int32) (M : Mem) : Option (Int32 × Mem) :=
(if i1 < (1 : Int32) then
some ((-1 : Int32), M)
else
(if i1 ≤ (99 : Int32) then
gR M r0 11 2 fun v1 =>
gR M v1 7 0 fun v2 =>
cR M r0 (1, 11) (cA (f_X11_byWays r0 v2 i1 M) fun v3 M1 =>
some (v3, M1))
else
some ((-1 : Int32), M)))
def L_X0_hasCircle : List (Option (Instr × Nat)) := [some (.aload_n 0, 1), some (.iconst 0, 1), some (.putfield 50, 3), none, none, some (.iconst 0, 1), some (.istore_n 1, 1), some (.iload_n 1, 1), some (.aload_n 0, 1), some (.getfield 42, 3), none, none, some (.getfield 57, 3), none, none, some (.if_icmp .ge 57, 3), none, none, some (.aload_n 0, 1), some (.getfield 42, 3), none, none, some (.getfield 60, 3), none, none, some (.iload_n 1, 1), some (.iaload, 1), some (.invokestatic 126, 3), none, none, some (.istore_n 2, 1), some (.aload_n 0, 1), some (.getfield 39, 3), none, none, some (.iload_n 1, 1), some (.iload_n 2, 1), some (.iload_n 2, 1), some (.iconst 1, 1), some (.isub, 1), some (.imul, 1), some (.iastore, 1), some (.iload_n 2, 1), some (.ifCond .ne 23, 3), none, none, some (.aload_n 0, 1), some (.getfield 33, 3), none, none, some (.aload_n 0, 1), some (.getfield 50, 3), none, none, some (.iload_n 1, 1), some (.iastore, 1), some (.aload_n 0, 1), some (.dup, 1), some (.getfield 50, 3), none, none, some (.iconst 1, 1), some (.iadd, 1), some (.putfield 50, 3), none, none, some (.iinc 1 1, 3), none, none, some (.goto (-62), 3), none, none, some (.iconst 0, 1), some (.istore_n 1, 1), some (.iload_n 1, 1), some (.aload_n 0, 1), some (.getfield 33, 3), none, none, some (.arraylength, 1), some (.if_icmp .ge 118, 3), none, none, some (.iload_n 1, 1), some (.aload_n 0, 1), some (.getfield 50, 3), none, none, some (.if_icmp .ge 110, 3), none, none, some (.aload_n 0, 1), some (.getfield 26, 3), none, none, some (.aload_n 0, 1), some (.getfield 33, 3), none, none, some (.iload_n 1, 1), some (.iaload, 1), some (.iaload, 1), some (.istore_n 2, 1), some (.iconst 0, 1), some (.istore_n 3, 1), some (.iload_n 3, 1), some (.aload_n 0, 1), some (.getfield 30, 3), none, none, some (.arraylength, 1), some (.if_icmp .ge 81, 3), none, none, some (.iload_n 2, 1), some (.iconst (-1), 1), some (.if_icmp .eq 76, 3), none, none, some (.iload_n 2, 1), some (.bipush 64, 2), none, some (.idiv, 1), some (.istore 4, 2), none, some (.aload_n 0, 1), some (.getfield 39, 3), none, none, some (.iload 4, 2), none, some (.dup2, 1), some (.iaload, 1), some (.iconst 1, 1), some (.isub, 1), some (.iastore, 1), some (.aload_n 0, 1), some (.getfield 39, 3), none, none, some (.iload 4, 2), none, some (.iaload, 1), some (.ifCond .ne 36, 3), none, none, some (.aload_n 0, 1), some (.getfield 50, 3), none, none, some (.aload_n 0, 1), some (.getfield 33, 3), none, none, some (.arraylength, 1), some (.if_icmp .ge 24, 3), none, none, some (.aload_n 0, 1), some (.getfield 33, 3), none, none, some (.aload_n 0, 1), some (.getfield 50, 3), none, none, some (.iload 4, 2), none, some (.iastore, 1), some (.aload_n 0, 1), some (.dup, 1), some (.getfield 50, 3), none, none, some (.iconst 1, 1), some (.iadd, 1), some (.putfield 50, 3), none, none, some (.aload_n 0, 1), some (.getfield 30, 3), none, none, some (.iload_n 2, 1), some (.iaload, 1), some (.istore_n 2, 1), some (.iinc 3 1, 3), none, none, some (.goto (-84), 3), none, none, some (.iinc 1 1, 3), none, none, some (.goto (-121), 3), none, none, some (.aload_n 0, 1), some (.getfield 50, 3), none, none, some (.aload_n 0, 1), some (.getfield 42, 3), none, none, some (.getfield 57, 3), none, none, some (.if_icmp .ge 7, 3), none, none, some (.iconst 1, 1), some (.goto 4, 3), none, none, some (.iconst 0, 1), some (.ireturn, 1)]
def Y_X0_hasCircle : YM := (⟨RX0, "hasCircle", "()Z"⟩, prog_2_method_17_code, L_X0_hasCircle, 5, some .boolean)
def b_X0_hasCircle_105 (q74 : Option Nat → Int32 → Mem → Option (Int32 × Mem)) (q105 : Option Nat → Int32 → Int32 → Int32 → Mem → Option (Int32 × Mem)) (r0 : Option Nat) (i1 : Int32) (i2 : Int32) (i3 : Int32) (M : Mem) : Option (Int32 × Mem) :=
gR M r0 0 7 fun v1 =>
aN M v1 fun v2 =>
(if v2 ≤ i3 then
q74 r0 (i1 + (1 : Int32)) M
else
(if i2 = (-1 : Int32) then
q74 r0 (i1 + (1 : Int32)) M
else
nzI (64 : Int32) (
gR M r0 0 10 fun v3 =>
aI M v3 2 (i2 / (64 : Int32)) fun v4 =>
wI M v3 2 (i2 / (64 : Int32)) (v4 - (1 : Int32)) fun M1 =>
gR M1 r0 0 10 fun v5 =>
aI M1 v5 2 (i2 / (64 : Int32)) fun v6 =>
(if v6 = 0 then
gI M1 r0 0 11 fun v7 =>
gR M1 r0 0 8 fun v8 =>
aN M1 v8 fun v9 =>
(if v9 ≤ v7 then
gR M1 r0 0 7 fun v10 =>
aI M1 v10 2 i2 fun v11 =>
q105 r0 i1 v11 (i3 + (1 : Int32)) M1
else
gR M1 r0 0 8 fun v12 =>
gI M1 r0 0 11 fun v13 =>
wI M1 v12 2 v13 (i2 / (64 : Int32)) fun M2 =>
gI M2 r0 0 11 fun v14 =>
pI M2 r0 0 11 (v14 + (1 : Int32)) fun M3 =>
gR M3 r0 0 7 fun v15 =>
aI M3 v15 2 i2 fun v16 =>
q105 r0 i1 v16 (i3 + (1 : Int32)) M3)
else
gR M1 r0 0 7 fun v17 =>
aI M1 v17 2 i2 fun v18 =>
q105 r0 i1 v18 (i3 + (1 : Int32)) M1))))
def f_X0_hasCircle_105 (q74 : Option Nat → Int32 → Mem → Option (Int32 × Mem)) (n : Nat) : Option Nat → Int32 → Int32 → Int32 → Mem → Option (Int32 × Mem) := lpN (fun _ _ _ _ _ => none) (b_X0_hasCircle_105 q74) n
def b_X0_hasCircle_74 (q74 : Option Nat → Int32 → Mem → Option (Int32 × Mem)) (r0 : Option Nat) (i1 : Int32) (M : Mem) : Option (Int32 × Mem) :=
gR M r0 0 8 fun v1 =>
aN M v1 fun v2 =>
(if v2 ≤ i1 then
gI M r0 0 11 fun v3 =>
gR M r0 0 2 fun v4 =>
gI M v4 8 2 fun v5 =>
(if v5 ≤ v3 then
tv (0 : Int32) (some ((0 : Int32), M))
else
tv (1 : Int32) (some ((1 : Int32), M)))
else
gI M r0 0 11 fun v6 =>
(if v6 ≤ i1 then
gI M r0 0 11 fun v7 =>
gR M r0 0 2 fun v8 =>
gI M v8 8 2 fun v9 =>
(if v9 ≤ v7 then
tv (0 : Int32) (some ((0 : Int32), M))
else
tv (1 : Int32) (some ((1 : Int32), M)))
else
gR M r0 0 6 fun v10 =>
gR M r0 0 8 fun v11 =>
aI M v11 2 i1 fun v12 =>
aI M v10 2 v12 fun v13 =>
f_X0_hasCircle_105 q74 FU r0 i1 v13 (0 : Int32) M))
def f_X0_hasCircle_74 (n : Nat) : Option Nat → Int32 → Mem → Option (Int32 × Mem) := lpN (fun _ _ _ => none) (b_X0_hasCircle_74 ) n
def b_X0_hasCircle_7 (q7 : Option Nat → Int32 → Mem → Option (Int32 × Mem)) (r0 : Option Nat) (i1 : Int32) (M : Mem) : Option (Int32 × Mem) :=
gR M r0 0 2 fun v1 =>
gI M v1 8 2 fun v2 =>
(if v2 ≤ i1 then
f_X0_hasCircle_74 FU r0 (0 : Int32) M
else
gR M r0 0 2 fun v3 =>
gR M v3 8 0 fun v4 =>
aI M v4 2 i1 fun v5 =>
cA (f_J6_bitCount_0f7a4 v5 M) fun v6 M1 =>
gR M1 r0 0 10 fun v7 =>
wI M1 v7 2 i1 (v6 * (v6 - (1 : Int32))) fun M2 =>
(if v6 = 0 then
gR M2 r0 0 8 fun v8 =>
gI M2 r0 0 11 fun v9 =>
wI M2 v8 2 v9 i1 fun M3 =>
gI M3 r0 0 11 fun v10 =>
pI M3 r0 0 11 (v10 + (1 : Int32)) fun M4 =>
q7 r0 (i1 + (1 : Int32)) M4
else
q7 r0 (i1 + (1 : Int32)) M2))
def f_X0_hasCircle_7 (n : Nat) : Option Nat → Int32 → Mem → Option (Int32 × Mem) := lpN (fun _ _ _ => none) (b_X0_hasCircle_7 ) n
def f_X0_hasCircle (r0 : Option Nat) (M : Mem) : Option (Int32 × Mem) :=
pI M r0 0 11 (0 : Int32) fun M1 =>
f_X0_hasCircle_7 FU r0 (0 : Int32) M1
def L_X11_runs : List (Option (Instr × Nat)) := [some (.aload_n 0, 1), some (.aload_n 0, 1), some (.getfield 10, 3), none, none, some (.getfield 114, 3), none, none, some (.invokevirtual 230, 3), none, none, some (.ifCond .ne 6, 3), none, none, some (.bipush (-2), 2), none, some (.ireturn, 1), some (.aload_n 0, 1), some (.getfield 110, 3), none, none, some (.invokevirtual 255, 3), none, none, some (.ifCond .eq 7, 3), none, none, some (.iconst 1, 1), some (.goto 4, 3), none, none, some (.iconst 0, 1), some (.ireturn, 1)]
def Y_X11_runs : YM := (⟨RX11, "runs", "()I"⟩, prog_1_method_26_code, L_X11_runs, 1, some .int)
def f_X11_runs (r0 : Option Nat) (M : Mem) : Option (Int32 × Mem) :=
gR M r0 11 2 fun v1 =>
gR M v1 7 0 fun v2 =>
cR M r0 (1, 11) (cA (f_X11_solved r0 v2 M) fun v3 M1 =>
(if v3 = 0 then
some ((-2 : Int32), M1)
else
gR M1 r0 11 11 fun v4 =>
cR M1 v4 (1, 0) (cA (f_X0_hasCircle v4 M1) fun v5 M2 =>
(if v5 = 0 then
some ((0 : Int32), M2)
else
some ((1 : Int32), M2)))))
def L_X11_states : List (Option (Instr × Nat)) := [some (.aload_n 0, 1), some (.aload_n 0, 1), some (.getfield 10, 3), none, none, some (.getfield 114, 3), none, none, some (.invokevirtual 230, 3), none, none, some (.ifCond .eq 13, 3), none, none, some (.aload_n 0, 1), some (.getfield 101, 3), none, none, some (.getfield 234, 3), none, none, some (.goto 5, 3), none, none, some (.bipush (-2), 2), none, some (.ireturn, 1)]
def Y_X11_states : YM := (⟨RX11, "states", "()I"⟩, prog_1_method_21_code, L_X11_states, 1, some .int)
def f_X11_states (r0 : Option Nat) (M : Mem) : Option (Int32 × Mem) :=
gR M r0 11 2 fun v1 =>
gR M v1 7 0 fun v2 =>
cR M r0 (1, 11) (cA (f_X11_solved r0 v2 M) fun v3 M1 =>
(if v3 = 0 then
some ((-2 : Int32), M1)
else
gR M1 r0 11 10 fun v4 =>
gI M1 v4 8 2 fun v5 =>
some (v5, M1)))
def L_X5_isDigit : List (Option (Instr × Nat)) := [some (.iload_n 0, 1), some (.bipush 48, 2), none, some (.if_icmp .lt 13, 3), none, none, some (.iload_n 0, 1), some (.bipush 57, 2), none, some (.if_icmp .gt 7, 3), none, none, some (.iconst 1, 1), some (.goto 4, 3), none, none, some (.iconst 0, 1), some (.ireturn, 1)]
def Y_X5_isDigit : YM := (⟨RX5, "isDigit", "(I)Z"⟩, prog_7_method_16_code, L_X5_isDigit, 1, some .boolean)
def f_X5_isDigit (i0 : Int32) (M : Mem) : Option (Int32 × Mem) :=
(if i0 < (48 : Int32) then
tv (0 : Int32) (some ((0 : Int32), M))
else
(if (57 : Int32) < i0 then
tv (0 : Int32) (some ((0 : Int32), M))
else
tv (1 : Int32) (some ((1 : Int32), M))))
theorem ml_10_15 : MLv RX10 15 Y_X10_count 1 := ⟨(gw_in 783 (by decide +kernel) (by decide +kernel)), (gw_in 784 (by decide +kernel) (by decide +kernel)), (gw_in 785 (by decide +kernel) (by decide +kernel)), ok_X10_count, by decide +kernel⟩
theorem ml_10_19 : MLv RX10 19 Y_X10_nth 2 := ⟨(gw_in 787 (by decide +kernel) (by decide +kernel)), (gw_in 788 (by decide +kernel) (by decide +kernel)), (gw_in 789 (by decide +kernel) (by decide +kernel)), ok_X10_nth, by decide +kernel⟩
theorem ml_10_23 : MLs RX10 23 Y_X10_asTold 1 := ⟨(gw_in 791 (by decide +kernel) (by decide +kernel)), (gw_in 792 (by decide +kernel) (by decide +kernel)), ok_X10_asTold, by decide +kernel⟩
set_option maxRecDepth 30000 in
theorem ok_X10_pick : okY Y_X10_pick := ⟨(gw_in 782 rfl rfl), (gw_in 7 (by decide +kernel) (by decide +kernel)), by decide +kernel, by decide +kernel⟩
theorem ml_11_186 : MLv RX11 186 Y_X10_pick 2 := ⟨(gw_in 779 (by decide +kernel) (by decide +kernel)), (gw_in 780 (by decide +kernel) (by decide +kernel)), (gw_in 781 (by decide +kernel) (by decide +kernel)), ok_X10_pick, by decide +kernel⟩
theorem ml_11_117 : MLv RX11 117 Y_X4_setCell 2 := ⟨(gw_in 454 (by decide +kernel) (by decide +kernel)), (gw_in 455 (by decide +kernel) (by decide +kernel)), (gw_in 456 (by decide +kernel) (by decide +kernel)), ok_X4_setCell, by decide +kernel⟩
theorem ml_0_126 : MLs RX0 126 Y_J6_bitCount_0f7a4 1 := ⟨(gw_in 1066 (by decide +kernel) (by decide +kernel)), (gw_in 817 (by decide +kernel) (by decide +kernel)), ok_J6_bitCount_0f7a4, by decide +kernel⟩
set_option maxRecDepth 30000 in
theorem ok_X0_hasCircle : okY Y_X0_hasCircle := ⟨(gw_in 1065 rfl rfl), (gw_in 13 (by decide +kernel) (by decide +kernel)), by decide +kernel, by decide +kernel⟩
theorem ml_11_255 : MLv RX11 255 Y_X0_hasCircle 0 := ⟨(gw_in 1062 (by decide +kernel) (by decide +kernel)), (gw_in 1063 (by decide +kernel) (by decide +kernel)), (gw_in 1064 (by decide +kernel) (by decide +kernel)), ok_X0_hasCircle, by decide +kernel⟩
theorem fl_11_234 : FLk RX11 234 8 2 false := ⟨_, rfl, by decide, (gw_in 316 (by decide +kernel) (by decide +kernel)), rfl⟩
set_option maxRecDepth 20000 in
theorem dk_X10_pick : ∀ pc i, L_X10_pick[pc]? = some (some i) → decode prog_12_method_5_code pc = .ok i := dk_of (by decide +kernel)
theorem s_X10_pick {d : Nat} {P : Int32 → Mem → Prop} {r0 : Option Nat} {i1 : Int32} {i2 : Int32} {M : Mem} (h : FQ (f_X10_pick r0 i1 i2 M) P) : Con Y_X10_pick (d + 2) 0 0 [va_rf r0, .int i1, .int i2] M (QI P) := by
  refine Con.of [some (va_rf r0), some (.int i1), some (.int i2)] (by decide +kernel) dk_X10_pick (by simp [Y_X10_pick, cat_rf, cat_i, cat_l]) (by simp [loE, Y_X10_pick, cat_rf, cat_i, cat_l, List.replicate]) ?_
  unfold f_X10_pick at h
  refine r_iload_n rfl rfl ?_
  refine r_iconst (v := -1) rfl (by decide) ?_
  refine r_ic_ne 13 rfl (by decide) h (fun h => ?_) (fun h => ?_)
  · refine r_aload_n rfl rfl ?_
    refine r_iload_n rfl rfl ?_
    refine r_cv_i (vs := [.int i1]) rfl ml_10_15 rfl (rOk.of rfl) ⟨Nat.zero_le _, Nat.zero_le _⟩ rfl rfl rfl h s_X10_count (fun v1 M1 h => ?_)
    refine r_goto 22 rfl (by decide) ?_
    exact r_iret rfl rfl ⟨Nat.le_of_ble_eq_true rfl, Nat.le_of_ble_eq_true rfl⟩ h
  · refine r_aload_n rfl rfl ?_
    refine r_iload_n rfl rfl ?_
    refine r_iload_n rfl rfl ?_
    refine r_cv_i (vs := [.int i1, .int i2]) rfl ml_10_19 rfl (rOk.of rfl) ⟨Nat.zero_le _, Nat.zero_le _⟩ rfl rfl rfl h s_X10_nth (fun v2 M2 h => ?_)
    refine r_cs_i (vs := [.int v2]) rfl ml_10_23 (rOk.of rfl) ⟨Nat.zero_le _, Nat.zero_le _⟩ rfl rfl rfl h s_X10_asTold (fun v3 M3 h => ?_)
    exact r_iret rfl rfl ⟨Nat.le_of_ble_eq_true rfl, Nat.le_of_ble_eq_true rfl⟩ h
set_option maxRecDepth 20000 in
theorem dk_X11_offers : ∀ pc i, L_X11_offers[pc]? = some (some i) → decode prog_1_method_12_code pc = .ok i := dk_of (by decide +kernel)
theorem s_X11_offers {d : Nat} {P : Int32 → Mem → Prop} {r0 : Option Nat} {i1 : Int32} {M : Mem} (h : FQ (f_X11_offers r0 i1 M) P) : Con Y_X11_offers (d + 4) 0 0 [va_rf r0, .int i1] M (QI P) := by
  refine Con.of [some (va_rf r0), some (.int i1)] (by decide +kernel) dk_X11_offers (by simp [Y_X11_offers, cat_rf, cat_i, cat_l]) (by simp [loE, Y_X11_offers, cat_rf, cat_i, cat_l, List.replicate]) ?_
  unfold f_X11_offers at h
  refine r_aload_n rfl rfl ?_
  refine r_getR rfl fl_11_83 rfl h (fun v1 h => ?_)
  refine r_aload_n rfl rfl ?_
  refine r_getR rfl fl_11_10 rfl h (fun v2 h => ?_)
  refine r_getR rfl fl_11_114 rfl h (fun v3 h => ?_)
  refine r_aload_n rfl rfl ?_
  refine r_aload_n rfl rfl ?_
  refine r_getR rfl fl_11_10 rfl h (fun v4 h => ?_)
  refine r_getI rfl fl_11_156 rfl h (fun v5 h => ?_)
  refine r_cv_r (vs := [.int v5]) rfl ml_11_162 rfl (rOk.of rfl) ⟨Nat.zero_le _, Nat.zero_le _⟩ rfl rfl rfl h s_X11_rules (fun v6 M1 h => ?_)
  refine r_aload_n rfl rfl ?_
  refine r_getR rfl fl_11_10 rfl h (fun v7 h => ?_)
  refine r_getR rfl fl_11_114 rfl h (fun v8 h => ?_)
  refine r_cv_i (vs := []) rfl ml_11_182 rfl (rOk.of rfl) ⟨Nat.zero_le _, Nat.zero_le _⟩ rfl rfl rfl h s_X4_stock (fun v9 M2 h => ?_)
  refine r_cv_v (vs := [va_rf v3, va_rf v6, .int v9]) rfl ml_11_166 rfl (rOk.of rfl) ⟨Nat.zero_le _, Nat.zero_le _⟩ rfl rfl rfl h s_X2_look (fun _ M3 h => ?_)
  refine r_aload_n rfl rfl ?_
  refine r_getR rfl fl_11_40 rfl h (fun v10 h => ?_)
  refine r_aload_n rfl rfl ?_
  refine r_getR rfl fl_11_83 rfl h (fun v11 h => ?_)
  refine r_getI rfl fl_11_170 rfl h (fun v12 h => ?_)
  refine r_iload_n rfl rfl ?_
  refine r_cv_i (vs := [.int v12, .int i1]) rfl ml_11_186 rfl (rOk.of rfl) ⟨Nat.zero_le _, Nat.zero_le _⟩ rfl rfl rfl h s_X10_pick (fun v13 M4 h => ?_)
  exact r_iret rfl rfl ⟨Nat.le_of_ble_eq_true rfl, Nat.le_of_ble_eq_true rfl⟩ h
set_option maxRecDepth 20000 in
theorem dk_X11_piece : ∀ pc i, L_X11_piece[pc]? = some (some i) → decode prog_1_method_2_code pc = .ok i := dk_of (by decide +kernel)
theorem s_X11_piece {d : Nat} {P : Int32 → Mem → Prop} {r0 : Option Nat} {i1 : Int32} {i2 : Int32} {i3 : Int32} {M : Mem} (h : FQ (f_X11_piece r0 i1 i2 i3 M) P) : Con Y_X11_piece (d + 1) 0 0 [va_rf r0, .int i1, .int i2, .int i3] M (QI P) := by
  refine Con.of [some (va_rf r0), some (.int i1), some (.int i2), some (.int i3)] (by decide +kernel) dk_X11_piece (by simp [Y_X11_piece, cat_rf, cat_i, cat_l]) (by simp [loE, Y_X11_piece, cat_rf, cat_i, cat_l, List.replicate]) ?_
  unfold f_X11_piece at h
  refine r_iload_n rfl rfl ?_
  refine r_if_lt 17 rfl (by decide) h (fun h => ?_) (fun h => ?_)
  · refine r_iconst (v := 0) rfl (by decide) ?_
    exact r_zret rfl rfl ⟨Nat.le_of_ble_eq_true rfl, Nat.le_of_ble_eq_true rfl⟩ h
  · refine r_iload_n rfl rfl ?_
    refine r_aload_n rfl rfl ?_
    refine r_getI rfl fl_11_68 rfl h (fun v1 h => ?_)
    refine r_aload_n rfl rfl ?_
    refine r_getI rfl fl_11_72 rfl h (fun v2 h => ?_)
    refine r_imul rfl ?_
    refine r_ic_lt 19 rfl (by decide) h (fun h => ?_) (fun h => ?_)
    · refine r_iload_n rfl rfl ?_
      refine r_iconst (v := -1) rfl (by decide) ?_
      refine r_ic_ne 38 rfl (by decide) h (fun h => ?_) (fun h => ?_)
      · refine r_aload_n rfl rfl ?_
        refine r_getR rfl fl_11_10 rfl h (fun v3 h => ?_)
        refine r_getR rfl fl_11_114 rfl h (fun v4 h => ?_)
        refine r_iload_n rfl rfl ?_
        refine r_iconst (v := 0) rfl (by decide) ?_
        refine r_cv_v (vs := [.int i1, .int (0 : Int32)]) rfl ml_11_117 rfl (rOk.of rfl) ⟨Nat.zero_le _, Nat.zero_le _⟩ rfl rfl rfl h s_X4_setCell (fun _ M1 h => ?_)
        refine r_iconst (v := 1) rfl (by decide) ?_
        exact r_zret rfl rfl ⟨Nat.le_of_ble_eq_true rfl, Nat.le_of_ble_eq_true rfl⟩ h
      · refine r_iload_n rfl rfl ?_
        refine r_if_lt 54 rfl (by decide) h (fun h => ?_) (fun h => ?_)
        · refine r_iconst (v := 0) rfl (by decide) ?_
          exact r_zret rfl rfl ⟨Nat.le_of_ble_eq_true rfl, Nat.le_of_ble_eq_true rfl⟩ h
        · refine r_iload_n rfl rfl ?_
          refine r_iconst (v := 4) rfl (by decide) ?_
          refine r_ic_ge 54 rfl (by decide) h (fun h => ?_) (fun h => ?_)
          · refine r_iconst (v := 0) rfl (by decide) ?_
            exact r_zret rfl rfl ⟨Nat.le_of_ble_eq_true rfl, Nat.le_of_ble_eq_true rfl⟩ h
          · refine r_iload_n rfl rfl ?_
            refine r_cs_i (vs := [.int i3]) rfl ml_11_121 (rOk.of rfl) ⟨Nat.zero_le _, Nat.zero_le _⟩ rfl rfl rfl h s_X11_isSide (fun v5 M2 h => ?_)
            refine r_if_ne 56 rfl (by decide) h (fun h => ?_) (fun h => ?_)
            · refine r_iconst (v := 0) rfl (by decide) ?_
              exact r_zret rfl rfl ⟨Nat.le_of_ble_eq_true rfl, Nat.le_of_ble_eq_true rfl⟩ h
            · refine r_aload_n rfl rfl ?_
              refine r_getR rfl fl_11_10 rfl h (fun v6 h => ?_)
              refine r_getR rfl fl_11_114 rfl h (fun v7 h => ?_)
              refine r_iload_n rfl rfl ?_
              refine r_iconst (v := 1) rfl (by decide) ?_
              refine r_iload_n rfl rfl ?_
              refine r_iadd rfl ?_
              refine r_iconst (v := 4) rfl (by decide) ?_
              refine r_iload_n rfl rfl ?_
              refine r_imul rfl ?_
              refine r_iadd rfl ?_
              refine r_cv_v (vs := [.int i1, .int (((1 : Int32) + i2) + ((4 : Int32) * i3))]) rfl ml_11_117 rfl (rOk.of rfl) ⟨Nat.zero_le _, Nat.zero_le _⟩ rfl rfl rfl h s_X4_setCell (fun _ M3 h => ?_)
              refine r_iconst (v := 1) rfl (by decide) ?_
              exact r_zret rfl rfl ⟨Nat.le_of_ble_eq_true rfl, Nat.le_of_ble_eq_true rfl⟩ h
    · refine r_iconst (v := 0) rfl (by decide) ?_
      exact r_zret rfl rfl ⟨Nat.le_of_ble_eq_true rfl, Nat.le_of_ble_eq_true rfl⟩ h
set_option maxRecDepth 20000 in
theorem dk_X11_play : ∀ pc i, L_X11_play[pc]? = some (some i) → decode prog_1_method_13_code pc = .ok i := dk_of (by decide +kernel)
theorem s_X11_play {d : Nat} {P : Int32 → Mem → Prop} {r0 : Option Nat} {i1 : Int32} {i2 : Int32} {i3 : Int32} {i4 : Int32} {i5 : Int32} {M : Mem} (h : FQ (f_X11_play r0 i1 i2 i3 i4 i5 M) P) : Con Y_X11_play (d + 6) 0 0 [va_rf r0, .int i1, .int i2, .int i3, .int i4, .int i5] M (QI P) := by
  refine Con.of [some (va_rf r0), some (.int i1), some (.int i2), some (.int i3), some (.int i4), some (.int i5)] (by decide +kernel) dk_X11_play (by simp [Y_X11_play, cat_rf, cat_i, cat_l]) (by simp [loE, Y_X11_play, cat_rf, cat_i, cat_l, List.replicate]) ?_
  unfold f_X11_play at h
  refine r_aload_n rfl rfl ?_
  refine r_aload_n rfl rfl ?_
  refine r_getR rfl fl_11_10 rfl h (fun v1 h => ?_)
  refine r_getR rfl fl_11_114 rfl h (fun v2 h => ?_)
  refine r_iload_n rfl rfl ?_
  refine r_iload_n rfl rfl ?_
  refine r_iload_n rfl rfl ?_
  refine r_cs_i (vs := [.int i1, .int i2, .int i3]) rfl ml_11_189 (rOk.of rfl) ⟨Nat.zero_le _, Nat.zero_le _⟩ rfl rfl rfl h s_X10_bitsOf (fun v3 M1 h => ?_)
  refine r_iload rfl rfl ?_
  refine r_iload rfl rfl ?_
  refine r_cv_i (vs := [va_rf v2, .int v3, .int i4, .int i5]) rfl ml_11_193 rfl (rOk.of rfl) ⟨Nat.zero_le _, Nat.zero_le _⟩ rfl rfl rfl h s_X11_told (fun v4 M2 h => ?_)
  exact r_zret rfl rfl ⟨Nat.le_of_ble_eq_true rfl, Nat.le_of_ble_eq_true rfl⟩ h
set_option maxRecDepth 20000 in
theorem dk_X11_ply : ∀ pc i, L_X11_ply[pc]? = some (some i) → decode prog_1_method_16_code pc = .ok i := dk_of (by decide +kernel)
theorem s_X11_ply_57 {d : Nat} {P : Int32 → Mem → Prop}   (r0 : Option Nat) (i1 : Int32) (i2 : Int32) (i3 : Int32) (i4 : Int32) (i5 : Int32) (si0 : Int32) (M : Mem) (h : FQ (f_X11_ply_57  r0 i1 i2 i3 i4 i5 si0 M) P) : wp Y_X11_ply (rmD (d + 1) 0 0) (FM (QI P) 0 0) 0 0 57 [some (va_rf r0), some (.int i1), some (.int i2), some (.int i3), some (.int i4), some (.int i5), none, none] [.int si0] M := by
  unfold f_X11_ply_57 at h
  refine r_istore (lo' := [some (va_rf r0), some (.int i1), some (.int i2), some (.int i3), some (.int i4), some (.int i5), some (.int si0), none]) rfl rfl rfl rfl ?_
  refine r_iload rfl rfl ?_
  refine r_if_eq 76 rfl (by decide) h (fun h => ?_) (fun h => ?_)
  · refine r_iconst (v := -1) rfl (by decide) ?_
    exact r_iret rfl rfl ⟨Nat.le_of_ble_eq_true rfl, Nat.le_of_ble_eq_true rfl⟩ h
  · refine r_aload_n rfl rfl ?_
    refine r_getR rfl fl_11_10 rfl h (fun v1 h => ?_)
    refine r_getI rfl fl_11_205 rfl h (fun v2 h => ?_)
    refine r_bipush (v := 40) rfl (by decide) ?_
    refine r_ic_lt 78 rfl (by decide) h (fun h => ?_) (fun h => ?_)
    · refine r_aload_n rfl rfl ?_
      refine r_getR rfl fl_11_10 rfl h (fun v3 h => ?_)
      refine r_getI rfl fl_11_205 rfl h (fun v4 h => ?_)
      refine r_iconst (v := 5) rfl (by decide) ?_
      refine r_imul rfl ?_
      refine r_istore (lo' := [some (va_rf r0), some (.int i1), some (.int i2), some (.int i3), some (.int i4), some (.int i5), some (.int si0), some (.int (v4 * (5 : Int32)))]) rfl rfl rfl rfl ?_
      refine r_aload_n rfl rfl ?_
      refine r_getR rfl fl_11_10 rfl h (fun v5 h => ?_)
      refine r_getR rfl fl_11_208 rfl h (fun v6 h => ?_)
      refine r_iload rfl rfl ?_
      refine r_iload_n rfl rfl ?_
      refine r_iast rfl h (fun M1 h => ?_)
      refine r_aload_n rfl rfl ?_
      refine r_getR rfl fl_11_10 rfl h (fun v7 h => ?_)
      refine r_getR rfl fl_11_208 rfl h (fun v8 h => ?_)
      refine r_iload rfl rfl ?_
      refine r_iconst (v := 1) rfl (by decide) ?_
      refine r_iadd rfl ?_
      refine r_iload_n rfl rfl ?_
      refine r_iast rfl h (fun M2 h => ?_)
      refine r_aload_n rfl rfl ?_
      refine r_getR rfl fl_11_10 rfl h (fun v9 h => ?_)
      refine r_getR rfl fl_11_208 rfl h (fun v10 h => ?_)
      refine r_iload rfl rfl ?_
      refine r_iconst (v := 2) rfl (by decide) ?_
      refine r_iadd rfl ?_
      refine r_iload_n rfl rfl ?_
      refine r_iast rfl h (fun M3 h => ?_)
      refine r_aload_n rfl rfl ?_
      refine r_getR rfl fl_11_10 rfl h (fun v11 h => ?_)
      refine r_getR rfl fl_11_208 rfl h (fun v12 h => ?_)
      refine r_iload rfl rfl ?_
      refine r_iconst (v := 3) rfl (by decide) ?_
      refine r_iadd rfl ?_
      refine r_iload rfl rfl ?_
      refine r_iast rfl h (fun M4 h => ?_)
      refine r_aload_n rfl rfl ?_
      refine r_getR rfl fl_11_10 rfl h (fun v13 h => ?_)
      refine r_getR rfl fl_11_208 rfl h (fun v14 h => ?_)
      refine r_iload rfl rfl ?_
      refine r_iconst (v := 4) rfl (by decide) ?_
      refine r_iadd rfl ?_
      refine r_iload rfl rfl ?_
      refine r_iast rfl h (fun M5 h => ?_)
      refine r_aload_n rfl rfl ?_
      refine r_getR rfl fl_11_10 rfl h (fun v15 h => ?_)
      refine r_dup rfl (cat_rf _) ?_
      refine r_getI rfl fl_11_205 rfl h (fun v16 h => ?_)
      refine r_iconst (v := 1) rfl (by decide) ?_
      refine r_iadd rfl ?_
      refine r_putI rfl fl_11_205 (fun z => by cases z) rfl h (fun M6 h => ?_)
      refine r_aload_n rfl rfl ?_
      refine r_getR rfl fl_11_10 rfl h (fun v17 h => ?_)
      refine r_getI rfl fl_11_205 rfl h (fun v18 h => ?_)
      exact r_iret rfl rfl ⟨Nat.le_of_ble_eq_true rfl, Nat.le_of_ble_eq_true rfl⟩ h
    · refine r_iconst (v := -1) rfl (by decide) ?_
      exact r_iret rfl rfl ⟨Nat.le_of_ble_eq_true rfl, Nat.le_of_ble_eq_true rfl⟩ h
theorem s_X11_ply {d : Nat} {P : Int32 → Mem → Prop} {r0 : Option Nat} {i1 : Int32} {i2 : Int32} {i3 : Int32} {i4 : Int32} {i5 : Int32} {M : Mem} (h : FQ (f_X11_ply r0 i1 i2 i3 i4 i5 M) P) : Con Y_X11_ply (d + 1) 0 0 [va_rf r0, .int i1, .int i2, .int i3, .int i4, .int i5] M (QI P) := by
  refine Con.of [some (va_rf r0), some (.int i1), some (.int i2), some (.int i3), some (.int i4), some (.int i5), none, none] (by decide +kernel) dk_X11_ply (by simp [Y_X11_ply, cat_rf, cat_i, cat_l]) (by simp [loE, Y_X11_ply, cat_rf, cat_i, cat_l, List.replicate]) ?_
  unfold f_X11_ply at h
  refine r_iload_n rfl rfl ?_
  refine r_iconst (v := -1) rfl (by decide) ?_
  refine r_ic_ne 15 rfl (by decide) h (fun h => ?_) (fun h => ?_)
  · refine r_aload_n rfl rfl ?_
    refine r_getR rfl fl_11_10 rfl h (fun v1 h => ?_)
    refine r_iconst (v := 0) rfl (by decide) ?_
    refine r_putI rfl fl_11_205 (fun z => by cases z) rfl h (fun M1 h => ?_)
    refine r_iconst (v := 0) rfl (by decide) ?_
    exact r_iret rfl rfl ⟨Nat.le_of_ble_eq_true rfl, Nat.le_of_ble_eq_true rfl⟩ h
  · refine r_iload_n rfl rfl ?_
    refine r_cs_i (vs := [.int i1]) rfl ml_11_125 (rOk.of rfl) ⟨Nat.zero_le _, Nat.zero_le _⟩ rfl rfl rfl h s_X11_isMove (fun v2 M2 h => ?_)
    refine r_if_eq 56 rfl (by decide) h (fun h => ?_) (fun h => ?_)
    · refine r_iconst (v := 0) rfl (by decide) ?_
      exact s_X11_ply_57 _ _ _ _ _ _ _ _ h
    · refine r_iload_n rfl rfl ?_
      refine r_cs_i (vs := [.int i2]) rfl ml_11_125 (rOk.of rfl) ⟨Nat.zero_le _, Nat.zero_le _⟩ rfl rfl rfl h s_X11_isMove (fun v3 M3 h => ?_)
      refine r_if_eq 56 rfl (by decide) h (fun h => ?_) (fun h => ?_)
      · refine r_iconst (v := 0) rfl (by decide) ?_
        exact s_X11_ply_57 _ _ _ _ _ _ _ _ h
      · refine r_iload_n rfl rfl ?_
        refine r_cs_i (vs := [.int i3]) rfl ml_11_125 (rOk.of rfl) ⟨Nat.zero_le _, Nat.zero_le _⟩ rfl rfl rfl h s_X11_isMove (fun v4 M4 h => ?_)
        refine r_if_eq 56 rfl (by decide) h (fun h => ?_) (fun h => ?_)
        · refine r_iconst (v := 0) rfl (by decide) ?_
          exact s_X11_ply_57 _ _ _ _ _ _ _ _ h
        · refine r_iload rfl rfl ?_
          refine r_cs_i (vs := [.int i4]) rfl ml_11_125 (rOk.of rfl) ⟨Nat.zero_le _, Nat.zero_le _⟩ rfl rfl rfl h s_X11_isMove (fun v5 M5 h => ?_)
          refine r_if_eq 56 rfl (by decide) h (fun h => ?_) (fun h => ?_)
          · refine r_iconst (v := 0) rfl (by decide) ?_
            exact s_X11_ply_57 _ _ _ _ _ _ _ _ h
          · refine r_iload rfl rfl ?_
            refine r_cs_i (vs := [.int i5]) rfl ml_11_125 (rOk.of rfl) ⟨Nat.zero_le _, Nat.zero_le _⟩ rfl rfl rfl h s_X11_isMove (fun v6 M6 h => ?_)
            refine r_if_eq 56 rfl (by decide) h (fun h => ?_) (fun h => ?_)
            · refine r_iconst (v := 0) rfl (by decide) ?_
              exact s_X11_ply_57 _ _ _ _ _ _ _ _ h
            · refine r_iconst (v := 1) rfl (by decide) ?_
              refine r_goto 57 rfl (by decide) ?_
              exact s_X11_ply_57 _ _ _ _ _ _ _ _ h
set_option maxRecDepth 20000 in
theorem dk_X11_run : ∀ pc i, L_X11_run[pc]? = some (some i) → decode prog_1_method_14_code pc = .ok i := dk_of (by decide +kernel)
theorem s_X11_run {d : Nat} {P : Int32 → Mem → Prop} {r0 : Option Nat} {i1 : Int32} {M : Mem} (h : FQ (f_X11_run r0 i1 M) P) : Con Y_X11_run (d + 7) 0 0 [va_rf r0, .int i1] M (QI P) := by
  refine Con.of [some (va_rf r0), some (.int i1)] (by decide +kernel) dk_X11_run (by simp [Y_X11_run, cat_rf, cat_i, cat_l]) (by simp [loE, Y_X11_run, cat_rf, cat_i, cat_l, List.replicate]) ?_
  unfold f_X11_run at h
  refine r_iload_n rfl rfl ?_
  refine r_iconst (v := 1) rfl (by decide) ?_
  refine r_ic_lt 11 rfl (by decide) h (fun h => ?_) (fun h => ?_)
  · refine r_iconst (v := -1) rfl (by decide) ?_
    refine r_goto 27 rfl (by decide) ?_
    exact r_iret rfl rfl ⟨Nat.le_of_ble_eq_true rfl, Nat.le_of_ble_eq_true rfl⟩ h
  · refine r_iload_n rfl rfl ?_
    refine r_bipush (v := 99) rfl (by decide) ?_
    refine r_ic_le 15 rfl (by decide) h (fun h => ?_) (fun h => ?_)
    · refine r_aload_n rfl rfl ?_
      refine r_aload_n rfl rfl ?_
      refine r_getR rfl fl_11_10 rfl h (fun v1 h => ?_)
      refine r_getR rfl fl_11_114 rfl h (fun v2 h => ?_)
      refine r_iload_n rfl rfl ?_
      refine r_cv_i (vs := [va_rf v2, .int i1]) rfl ml_11_197 rfl (rOk.of rfl) ⟨Nat.zero_le _, Nat.zero_le _⟩ rfl rfl rfl h s_X11_byWays (fun v3 M1 h => ?_)
      exact r_iret rfl rfl ⟨Nat.le_of_ble_eq_true rfl, Nat.le_of_ble_eq_true rfl⟩ h
    · refine r_iconst (v := -1) rfl (by decide) ?_
      refine r_goto 27 rfl (by decide) ?_
      exact r_iret rfl rfl ⟨Nat.le_of_ble_eq_true rfl, Nat.le_of_ble_eq_true rfl⟩ h
set_option maxRecDepth 20000 in
theorem dk_X0_hasCircle : ∀ pc i, L_X0_hasCircle[pc]? = some (some i) → decode prog_2_method_17_code pc = .ok i := dk_of (by decide +kernel)
theorem sb_X0_hasCircle_105 {d : Nat} {P : Int32 → Mem → Prop} {q74 : Option Nat → Int32 → Mem → Option (Int32 × Mem)} {q105 : Option Nat → Int32 → Int32 → Int32 → Mem → Option (Int32 × Mem)} (hq74 : ∀ (r0 : Option Nat) (i1 : Int32) (M : Mem), FQ (q74 r0 i1 M) P → wp Y_X0_hasCircle (rmD (d + 1) 0 0) (FM (QI P) 0 0) 0 0 74 [some (va_rf r0), some (.int i1), none, none, none] [] M) (hq105 : ∀ (r0 : Option Nat) (i1 : Int32) (i2 : Int32) (i3 : Int32) (M : Mem), FQ (q105 r0 i1 i2 i3 M) P → wp Y_X0_hasCircle (rmD (d + 1) 0 0) (FM (QI P) 0 0) 0 0 105 [some (va_rf r0), some (.int i1), some (.int i2), some (.int i3), none] [] M) (r0 : Option Nat) (i1 : Int32) (i2 : Int32) (i3 : Int32) (M : Mem) (h : FQ (b_X0_hasCircle_105 q74 q105 r0 i1 i2 i3 M) P) : wp Y_X0_hasCircle (rmD (d + 1) 0 0) (FM (QI P) 0 0) 0 0 105 [some (va_rf r0), some (.int i1), some (.int i2), some (.int i3), none] [] M := by
  unfold b_X0_hasCircle_105 at h
  refine r_iload_n rfl rfl ?_
  refine r_aload_n rfl rfl ?_
  refine r_getR rfl fl_0_30 rfl h (fun v1 h => ?_)
  refine r_alen rfl h (fun v2 h => ?_)
  refine r_ic_ge 192 rfl (by decide) h (fun h => ?_) (fun h => ?_)
  · refine r_iinc (v := 1) (lo' := [some (va_rf r0), some (.int (i1 + (1 : Int32))), some (.int i2), some (.int i3), none]) rfl rfl rfl (by decide) (by simp [stOk, cat_rf]) rfl ?_
    refine r_goto 74 rfl (by decide) ?_
    refine r_msk [true, true, false, false, true] rfl ?_
    exact hq74 _ _ _ h
  · refine r_iload_n rfl rfl ?_
    refine r_iconst (v := -1) rfl (by decide) ?_
    refine r_ic_eq 192 rfl (by decide) h (fun h => ?_) (fun h => ?_)
    · refine r_iinc (v := 1) (lo' := [some (va_rf r0), some (.int (i1 + (1 : Int32))), some (.int i2), some (.int i3), none]) rfl rfl rfl (by decide) (by simp [stOk, cat_rf]) rfl ?_
      refine r_goto 74 rfl (by decide) ?_
      refine r_msk [true, true, false, false, true] rfl ?_
      exact hq74 _ _ _ h
    · refine r_iload_n rfl rfl ?_
      refine r_bipush (v := 64) rfl (by decide) ?_
      refine r_idiv rfl h (fun h => ?_)
      refine r_istore (lo' := [some (va_rf r0), some (.int i1), some (.int i2), some (.int i3), some (.int (i2 / (64 : Int32)))]) rfl rfl rfl rfl ?_
      refine r_aload_n rfl rfl ?_
      refine r_getR rfl fl_0_39 rfl h (fun v3 h => ?_)
      refine r_iload rfl rfl ?_
      refine r_dup2 rfl rfl (cat_rf _) ?_
      refine r_iald rfl h (fun v4 h => ?_)
      refine r_iconst (v := 1) rfl (by decide) ?_
      refine r_isub rfl ?_
      refine r_iast rfl h (fun M1 h => ?_)
      refine r_aload_n rfl rfl ?_
      refine r_getR rfl fl_0_39 rfl h (fun v5 h => ?_)
      refine r_iload rfl rfl ?_
      refine r_iald rfl h (fun v6 h => ?_)
      refine r_if_ne 179 rfl (by decide) h (fun h => ?_) (fun h => ?_)
      · refine r_aload_n rfl rfl ?_
        refine r_getI rfl fl_0_50 rfl h (fun v7 h => ?_)
        refine r_aload_n rfl rfl ?_
        refine r_getR rfl fl_0_33 rfl h (fun v8 h => ?_)
        refine r_alen rfl h (fun v9 h => ?_)
        refine r_ic_ge 179 rfl (by decide) h (fun h => ?_) (fun h => ?_)
        · refine r_aload_n rfl rfl ?_
          refine r_getR rfl fl_0_30 rfl h (fun v10 h => ?_)
          refine r_iload_n rfl rfl ?_
          refine r_iald rfl h (fun v11 h => ?_)
          refine r_istore_n (lo' := [some (va_rf r0), some (.int i1), some (.int v11), some (.int i3), some (.int (i2 / (64 : Int32)))]) rfl rfl rfl rfl ?_
          refine r_iinc (v := 1) (lo' := [some (va_rf r0), some (.int i1), some (.int v11), some (.int (i3 + (1 : Int32))), some (.int (i2 / (64 : Int32)))]) rfl rfl rfl (by decide) rfl rfl ?_
          refine r_goto 105 rfl (by decide) ?_
          refine r_msk [true, true, true, true, false] rfl ?_
          exact hq105 _ _ _ _ _ h
        · refine r_aload_n rfl rfl ?_
          refine r_getR rfl fl_0_33 rfl h (fun v12 h => ?_)
          refine r_aload_n rfl rfl ?_
          refine r_getI rfl fl_0_50 rfl h (fun v13 h => ?_)
          refine r_iload rfl rfl ?_
          refine r_iast rfl h (fun M2 h => ?_)
          refine r_aload_n rfl rfl ?_
          refine r_dup rfl (cat_rf _) ?_
          refine r_getI rfl fl_0_50 rfl h (fun v14 h => ?_)
          refine r_iconst (v := 1) rfl (by decide) ?_
          refine r_iadd rfl ?_
          refine r_putI rfl fl_0_50 (fun z => by cases z) rfl h (fun M3 h => ?_)
          refine r_aload_n rfl rfl ?_
          refine r_getR rfl fl_0_30 rfl h (fun v15 h => ?_)
          refine r_iload_n rfl rfl ?_
          refine r_iald rfl h (fun v16 h => ?_)
          refine r_istore_n (lo' := [some (va_rf r0), some (.int i1), some (.int v16), some (.int i3), some (.int (i2 / (64 : Int32)))]) rfl rfl rfl rfl ?_
          refine r_iinc (v := 1) (lo' := [some (va_rf r0), some (.int i1), some (.int v16), some (.int (i3 + (1 : Int32))), some (.int (i2 / (64 : Int32)))]) rfl rfl rfl (by decide) rfl rfl ?_
          refine r_goto 105 rfl (by decide) ?_
          refine r_msk [true, true, true, true, false] rfl ?_
          exact hq105 _ _ _ _ _ h
      · refine r_aload_n rfl rfl ?_
        refine r_getR rfl fl_0_30 rfl h (fun v17 h => ?_)
        refine r_iload_n rfl rfl ?_
        refine r_iald rfl h (fun v18 h => ?_)
        refine r_istore_n (lo' := [some (va_rf r0), some (.int i1), some (.int v18), some (.int i3), some (.int (i2 / (64 : Int32)))]) rfl rfl rfl rfl ?_
        refine r_iinc (v := 1) (lo' := [some (va_rf r0), some (.int i1), some (.int v18), some (.int (i3 + (1 : Int32))), some (.int (i2 / (64 : Int32)))]) rfl rfl rfl (by decide) rfl rfl ?_
        refine r_goto 105 rfl (by decide) ?_
        refine r_msk [true, true, true, true, false] rfl ?_
        exact hq105 _ _ _ _ _ h
theorem s_X0_hasCircle_105 {d : Nat} {P : Int32 → Mem → Prop} {q74 : Option Nat → Int32 → Mem → Option (Int32 × Mem)} (hq74 : ∀ (r0 : Option Nat) (i1 : Int32) (M : Mem), FQ (q74 r0 i1 M) P → wp Y_X0_hasCircle (rmD (d + 1) 0 0) (FM (QI P) 0 0) 0 0 74 [some (va_rf r0), some (.int i1), none, none, none] [] M) : ∀ (k : Nat) (r0 : Option Nat) (i1 : Int32) (i2 : Int32) (i3 : Int32) (M : Mem), FQ (f_X0_hasCircle_105 q74 k r0 i1 i2 i3 M) P → wp Y_X0_hasCircle (rmD (d + 1) 0 0) (FM (QI P) 0 0) 0 0 105 [some (va_rf r0), some (.int i1), some (.int i2), some (.int i3), none] [] M
  | 0, _, _, _, _, _, h => h.no
  | k + 1, r0, i1, i2, i3, M, h => sb_X0_hasCircle_105 hq74 (s_X0_hasCircle_105 hq74 k) r0 i1 i2 i3 M h
theorem sb_X0_hasCircle_74 {d : Nat} {P : Int32 → Mem → Prop} {q74 : Option Nat → Int32 → Mem → Option (Int32 × Mem)} (hq74 : ∀ (r0 : Option Nat) (i1 : Int32) (M : Mem), FQ (q74 r0 i1 M) P → wp Y_X0_hasCircle (rmD (d + 1) 0 0) (FM (QI P) 0 0) 0 0 74 [some (va_rf r0), some (.int i1), none, none, none] [] M) (r0 : Option Nat) (i1 : Int32) (M : Mem) (h : FQ (b_X0_hasCircle_74 q74 r0 i1 M) P) : wp Y_X0_hasCircle (rmD (d + 1) 0 0) (FM (QI P) 0 0) 0 0 74 [some (va_rf r0), some (.int i1), none, none, none] [] M := by
  unfold b_X0_hasCircle_74 at h
  refine r_iload_n rfl rfl ?_
  refine r_aload_n rfl rfl ?_
  refine r_getR rfl fl_0_33 rfl h (fun v1 h => ?_)
  refine r_alen rfl h (fun v2 h => ?_)
  refine r_ic_ge 198 rfl (by decide) h (fun h => ?_) (fun h => ?_)
  · refine r_aload_n rfl rfl ?_
    refine r_getI rfl fl_0_50 rfl h (fun v3 h => ?_)
    refine r_aload_n rfl rfl ?_
    refine r_getR rfl fl_0_42 rfl h (fun v4 h => ?_)
    refine r_getI rfl fl_0_57 rfl h (fun v5 h => ?_)
    refine r_ic_ge 216 rfl (by decide) h (fun h => ?_) (fun h => ?_)
    · refine r_iconst (v := 0) rfl (by decide) ?_
      exact r_zret rfl rfl ⟨Nat.le_of_ble_eq_true rfl, Nat.le_of_ble_eq_true rfl⟩ h
    · refine r_iconst (v := 1) rfl (by decide) ?_
      refine r_goto 217 rfl (by decide) ?_
      exact r_zret rfl rfl ⟨Nat.le_of_ble_eq_true rfl, Nat.le_of_ble_eq_true rfl⟩ h
  · refine r_iload_n rfl rfl ?_
    refine r_aload_n rfl rfl ?_
    refine r_getI rfl fl_0_50 rfl h (fun v6 h => ?_)
    refine r_ic_ge 198 rfl (by decide) h (fun h => ?_) (fun h => ?_)
    · refine r_aload_n rfl rfl ?_
      refine r_getI rfl fl_0_50 rfl h (fun v7 h => ?_)
      refine r_aload_n rfl rfl ?_
      refine r_getR rfl fl_0_42 rfl h (fun v8 h => ?_)
      refine r_getI rfl fl_0_57 rfl h (fun v9 h => ?_)
      refine r_ic_ge 216 rfl (by decide) h (fun h => ?_) (fun h => ?_)
      · refine r_iconst (v := 0) rfl (by decide) ?_
        exact r_zret rfl rfl ⟨Nat.le_of_ble_eq_true rfl, Nat.le_of_ble_eq_true rfl⟩ h
      · refine r_iconst (v := 1) rfl (by decide) ?_
        refine r_goto 217 rfl (by decide) ?_
        exact r_zret rfl rfl ⟨Nat.le_of_ble_eq_true rfl, Nat.le_of_ble_eq_true rfl⟩ h
    · refine r_aload_n rfl rfl ?_
      refine r_getR rfl fl_0_26 rfl h (fun v10 h => ?_)
      refine r_aload_n rfl rfl ?_
      refine r_getR rfl fl_0_33 rfl h (fun v11 h => ?_)
      refine r_iload_n rfl rfl ?_
      refine r_iald rfl h (fun v12 h => ?_)
      refine r_iald rfl h (fun v13 h => ?_)
      refine r_istore_n (lo' := [some (va_rf r0), some (.int i1), some (.int v13), none, none]) rfl rfl rfl rfl ?_
      refine r_iconst (v := 0) rfl (by decide) ?_
      refine r_istore_n (lo' := [some (va_rf r0), some (.int i1), some (.int v13), some (.int (0 : Int32)), none]) rfl rfl rfl rfl ?_
      exact s_X0_hasCircle_105 hq74 FU _ _ _ _ _ h
theorem s_X0_hasCircle_74 {d : Nat} {P : Int32 → Mem → Prop}   : ∀ (k : Nat) (r0 : Option Nat) (i1 : Int32) (M : Mem), FQ (f_X0_hasCircle_74  k r0 i1 M) P → wp Y_X0_hasCircle (rmD (d + 1) 0 0) (FM (QI P) 0 0) 0 0 74 [some (va_rf r0), some (.int i1), none, none, none] [] M
  | 0, _, _, _, h => h.no
  | k + 1, r0, i1, M, h => sb_X0_hasCircle_74  (s_X0_hasCircle_74  k) r0 i1 M h
theorem sb_X0_hasCircle_7 {d : Nat} {P : Int32 → Mem → Prop} {q7 : Option Nat → Int32 → Mem → Option (Int32 × Mem)} (hq7 : ∀ (r0 : Option Nat) (i1 : Int32) (M : Mem), FQ (q7 r0 i1 M) P → wp Y_X0_hasCircle (rmD (d + 1) 0 0) (FM (QI P) 0 0) 0 0 7 [some (va_rf r0), some (.int i1), none, none, none] [] M) (r0 : Option Nat) (i1 : Int32) (M : Mem) (h : FQ (b_X0_hasCircle_7 q7 r0 i1 M) P) : wp Y_X0_hasCircle (rmD (d + 1) 0 0) (FM (QI P) 0 0) 0 0 7 [some (va_rf r0), some (.int i1), none, none, none] [] M := by
  unfold b_X0_hasCircle_7 at h
  refine r_iload_n rfl rfl ?_
  refine r_aload_n rfl rfl ?_
  refine r_getR rfl fl_0_42 rfl h (fun v1 h => ?_)
  refine r_getI rfl fl_0_57 rfl h (fun v2 h => ?_)
  refine r_ic_ge 72 rfl (by decide) h (fun h => ?_) (fun h => ?_)
  · refine r_iconst (v := 0) rfl (by decide) ?_
    refine r_istore_n (lo' := [some (va_rf r0), some (.int (0 : Int32)), none, none, none]) rfl rfl (by simp [stOk, cat_rf]) rfl ?_
    exact s_X0_hasCircle_74 FU _ _ _ h
  · refine r_aload_n rfl rfl ?_
    refine r_getR rfl fl_0_42 rfl h (fun v3 h => ?_)
    refine r_getR rfl fl_0_60 rfl h (fun v4 h => ?_)
    refine r_iload_n rfl rfl ?_
    refine r_iald rfl h (fun v5 h => ?_)
    refine r_cs_i (vs := [.int v5]) rfl ml_0_126 (rOk.of rfl) ⟨Nat.zero_le _, Nat.zero_le _⟩ rfl rfl rfl h s_J6_bitCount_0f7a4 (fun v6 M1 h => ?_)
    refine r_istore_n (lo' := [some (va_rf r0), some (.int i1), some (.int v6), none, none]) rfl rfl rfl rfl ?_
    refine r_aload_n rfl rfl ?_
    refine r_getR rfl fl_0_39 rfl h (fun v7 h => ?_)
    refine r_iload_n rfl rfl ?_
    refine r_iload_n rfl rfl ?_
    refine r_iload_n rfl rfl ?_
    refine r_iconst (v := 1) rfl (by decide) ?_
    refine r_isub rfl ?_
    refine r_imul rfl ?_
    refine r_iast rfl h (fun M2 h => ?_)
    refine r_iload_n rfl rfl ?_
    refine r_if_ne 66 rfl (by decide) h (fun h => ?_) (fun h => ?_)
    · refine r_aload_n rfl rfl ?_
      refine r_getR rfl fl_0_33 rfl h (fun v8 h => ?_)
      refine r_aload_n rfl rfl ?_
      refine r_getI rfl fl_0_50 rfl h (fun v9 h => ?_)
      refine r_iload_n rfl rfl ?_
      refine r_iast rfl h (fun M3 h => ?_)
      refine r_aload_n rfl rfl ?_
      refine r_dup rfl (cat_rf _) ?_
      refine r_getI rfl fl_0_50 rfl h (fun v10 h => ?_)
      refine r_iconst (v := 1) rfl (by decide) ?_
      refine r_iadd rfl ?_
      refine r_putI rfl fl_0_50 (fun z => by cases z) rfl h (fun M4 h => ?_)
      refine r_iinc (v := 1) (lo' := [some (va_rf r0), some (.int (i1 + (1 : Int32))), some (.int v6), none, none]) rfl rfl rfl (by decide) (by simp [stOk, cat_rf]) rfl ?_
      refine r_goto 7 rfl (by decide) ?_
      refine r_msk [true, true, false, true, true] rfl ?_
      exact hq7 _ _ _ h
    · refine r_iinc (v := 1) (lo' := [some (va_rf r0), some (.int (i1 + (1 : Int32))), some (.int v6), none, none]) rfl rfl rfl (by decide) (by simp [stOk, cat_rf]) rfl ?_
      refine r_goto 7 rfl (by decide) ?_
      refine r_msk [true, true, false, true, true] rfl ?_
      exact hq7 _ _ _ h
theorem s_X0_hasCircle_7 {d : Nat} {P : Int32 → Mem → Prop}   : ∀ (k : Nat) (r0 : Option Nat) (i1 : Int32) (M : Mem), FQ (f_X0_hasCircle_7  k r0 i1 M) P → wp Y_X0_hasCircle (rmD (d + 1) 0 0) (FM (QI P) 0 0) 0 0 7 [some (va_rf r0), some (.int i1), none, none, none] [] M
  | 0, _, _, _, h => h.no
  | k + 1, r0, i1, M, h => sb_X0_hasCircle_7  (s_X0_hasCircle_7  k) r0 i1 M h
theorem s_X0_hasCircle {d : Nat} {P : Int32 → Mem → Prop} {r0 : Option Nat} {M : Mem} (h : FQ (f_X0_hasCircle r0 M) P) : Con Y_X0_hasCircle (d + 1) 0 0 [va_rf r0] M (QI P) := by
  refine Con.of [some (va_rf r0), none, none, none, none] (by decide +kernel) dk_X0_hasCircle (by simp [Y_X0_hasCircle, cat_rf, cat_i, cat_l]) (by simp [loE, Y_X0_hasCircle, cat_rf, cat_i, cat_l, List.replicate]) ?_
  unfold f_X0_hasCircle at h
  refine r_aload_n rfl rfl ?_
  refine r_iconst (v := 0) rfl (by decide) ?_
  refine r_putI rfl fl_0_50 (fun z => by cases z) rfl h (fun M1 h => ?_)
  refine r_iconst (v := 0) rfl (by decide) ?_
  refine r_istore_n (lo' := [some (va_rf r0), some (.int (0 : Int32)), none, none, none]) rfl rfl (by simp [stOk, cat_rf]) rfl ?_
  exact s_X0_hasCircle_7 FU _ _ _ h
set_option maxRecDepth 20000 in
theorem dk_X11_runs : ∀ pc i, L_X11_runs[pc]? = some (some i) → decode prog_1_method_26_code pc = .ok i := dk_of (by decide +kernel)
theorem s_X11_runs {d : Nat} {P : Int32 → Mem → Prop} {r0 : Option Nat} {M : Mem} (h : FQ (f_X11_runs r0 M) P) : Con Y_X11_runs (d + 7) 0 0 [va_rf r0] M (QI P) := by
  refine Con.of [some (va_rf r0)] (by decide +kernel) dk_X11_runs (by simp [Y_X11_runs, cat_rf, cat_i, cat_l]) (by simp [loE, Y_X11_runs, cat_rf, cat_i, cat_l, List.replicate]) ?_
  unfold f_X11_runs at h
  refine r_aload_n rfl rfl ?_
  refine r_aload_n rfl rfl ?_
  refine r_getR rfl fl_11_10 rfl h (fun v1 h => ?_)
  refine r_getR rfl fl_11_114 rfl h (fun v2 h => ?_)
  refine r_cv_i (vs := [va_rf v2]) rfl ml_11_230 rfl (rOk.of rfl) ⟨Nat.zero_le _, Nat.zero_le _⟩ rfl rfl rfl h s_X11_solved (fun v3 M1 h => ?_)
  refine r_if_ne 17 rfl (by decide) h (fun h => ?_) (fun h => ?_)
  · refine r_bipush (v := -2) rfl (by decide) ?_
    exact r_iret rfl rfl ⟨Nat.le_of_ble_eq_true rfl, Nat.le_of_ble_eq_true rfl⟩ h
  · refine r_aload_n rfl rfl ?_
    refine r_getR rfl fl_11_110 rfl h (fun v4 h => ?_)
    refine r_cv_i (vs := []) rfl ml_11_255 rfl (rOk.of rfl) ⟨Nat.zero_le _, Nat.zero_le _⟩ rfl rfl rfl h s_X0_hasCircle (fun v5 M2 h => ?_)
    refine r_if_eq 31 rfl (by decide) h (fun h => ?_) (fun h => ?_)
    · refine r_iconst (v := 0) rfl (by decide) ?_
      exact r_iret rfl rfl ⟨Nat.le_of_ble_eq_true rfl, Nat.le_of_ble_eq_true rfl⟩ h
    · refine r_iconst (v := 1) rfl (by decide) ?_
      refine r_goto 32 rfl (by decide) ?_
      exact r_iret rfl rfl ⟨Nat.le_of_ble_eq_true rfl, Nat.le_of_ble_eq_true rfl⟩ h
set_option maxRecDepth 20000 in
theorem dk_X11_states : ∀ pc i, L_X11_states[pc]? = some (some i) → decode prog_1_method_21_code pc = .ok i := dk_of (by decide +kernel)
theorem s_X11_states {d : Nat} {P : Int32 → Mem → Prop} {r0 : Option Nat} {M : Mem} (h : FQ (f_X11_states r0 M) P) : Con Y_X11_states (d + 7) 0 0 [va_rf r0] M (QI P) := by
  refine Con.of [some (va_rf r0)] (by decide +kernel) dk_X11_states (by simp [Y_X11_states, cat_rf, cat_i, cat_l]) (by simp [loE, Y_X11_states, cat_rf, cat_i, cat_l, List.replicate]) ?_
  unfold f_X11_states at h
  refine r_aload_n rfl rfl ?_
  refine r_aload_n rfl rfl ?_
  refine r_getR rfl fl_11_10 rfl h (fun v1 h => ?_)
  refine r_getR rfl fl_11_114 rfl h (fun v2 h => ?_)
  refine r_cv_i (vs := [va_rf v2]) rfl ml_11_230 rfl (rOk.of rfl) ⟨Nat.zero_le _, Nat.zero_le _⟩ rfl rfl rfl h s_X11_solved (fun v3 M1 h => ?_)
  refine r_if_eq 24 rfl (by decide) h (fun h => ?_) (fun h => ?_)
  · refine r_bipush (v := -2) rfl (by decide) ?_
    exact r_iret rfl rfl ⟨Nat.le_of_ble_eq_true rfl, Nat.le_of_ble_eq_true rfl⟩ h
  · refine r_aload_n rfl rfl ?_
    refine r_getR rfl fl_11_101 rfl h (fun v4 h => ?_)
    refine r_getI rfl fl_11_234 rfl h (fun v5 h => ?_)
    refine r_goto 26 rfl (by decide) ?_
    exact r_iret rfl rfl ⟨Nat.le_of_ble_eq_true rfl, Nat.le_of_ble_eq_true rfl⟩ h
set_option maxRecDepth 20000 in
theorem dk_X5_isDigit : ∀ pc i, L_X5_isDigit[pc]? = some (some i) → decode prog_7_method_16_code pc = .ok i := dk_of (by decide +kernel)
theorem s_X5_isDigit {d : Nat} {P : Int32 → Mem → Prop} {i0 : Int32} {M : Mem} (h : FQ (f_X5_isDigit i0 M) P) : Con Y_X5_isDigit d 0 0 [.int i0] M (QI P) := by
  refine Con.of [some (.int i0)] (by decide +kernel) dk_X5_isDigit (by simp [Y_X5_isDigit, cat_rf, cat_i, cat_l]) (by simp [loE, Y_X5_isDigit, cat_rf, cat_i, cat_l, List.replicate]) ?_
  unfold f_X5_isDigit at h
  refine r_iload_n rfl rfl ?_
  refine r_bipush (v := 48) rfl (by decide) ?_
  refine r_ic_lt 16 rfl (by decide) h (fun h => ?_) (fun h => ?_)
  · refine r_iconst (v := 0) rfl (by decide) ?_
    exact r_zret rfl rfl ⟨Nat.le_of_ble_eq_true rfl, Nat.le_of_ble_eq_true rfl⟩ h
  · refine r_iload_n rfl rfl ?_
    refine r_bipush (v := 57) rfl (by decide) ?_
    refine r_ic_gt 16 rfl (by decide) h (fun h => ?_) (fun h => ?_)
    · refine r_iconst (v := 0) rfl (by decide) ?_
      exact r_zret rfl rfl ⟨Nat.le_of_ble_eq_true rfl, Nat.le_of_ble_eq_true rfl⟩ h
    · refine r_iconst (v := 1) rfl (by decide) ?_
      refine r_goto 17 rfl (by decide) ?_
      exact r_zret rfl rfl ⟨Nat.le_of_ble_eq_true rfl, Nat.le_of_ble_eq_true rfl⟩ h
