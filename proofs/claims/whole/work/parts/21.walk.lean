/-! walked by program (wip/gen): X2_goal X6_isSingle X6_singleOf X9_aim X9_joined X9_value -/
def L_X2_goal : List (Option (Instr × Nat)) := [some (.aload_n 2, 1), some (.getfield 106, 3), none, none, some (.bipush 10, 2), none, some (.if_icmp .ne 20, 3), none, none, some (.aload_n 2, 1), some (.getfield 109, 3), none, none, some (.aload_n 2, 1), some (.getfield 71, 3), none, none, some (.if_icmp .ne 7, 3), none, none, some (.iconst (-1), 1), some (.goto 4, 3), none, none, some (.iload_n 3, 1), some (.ireturn, 1), some (.aload_n 0, 1), some (.iload_n 3, 1), some (.aload_n 2, 1), some (.getfield 109, 3), none, none, some (.invokevirtual 112, 3), none, none, some (.istore 4, 2), none, some (.iload 4, 2), none, some (.iconst (-1), 1), some (.if_icmp .ne 5, 3), none, none, some (.iconst (-1), 1), some (.ireturn, 1), some (.aload_n 1, 1), some (.iload 4, 2), none, some (.invokevirtual 50, 3), none, none, some (.ifCond .ne 7, 3), none, none, some (.iconst 1, 1), some (.goto 4, 3), none, none, some (.iconst 0, 1), some (.istore 5, 2), none, some (.aload_n 2, 1), some (.getfield 106, 3), none, none, some (.bipush 7, 2), none, some (.if_icmp .ne 15, 3), none, none, some (.iload 5, 2), none, some (.ifCond .eq 8, 3), none, none, some (.iload 4, 2), none, some (.goto 4, 3), none, none, some (.iconst (-1), 1), some (.ireturn, 1), some (.aload_n 0, 1), some (.iload 4, 2), none, some (.aload_n 2, 1), some (.getfield 109, 3), none, none, some (.invokevirtual 112, 3), none, none, some (.istore 6, 2), none, some (.iload 5, 2), none, some (.ifCond .ne 18, 3), none, none, some (.iload 6, 2), none, some (.iconst (-1), 1), some (.if_icmp .eq 12, 3), none, none, some (.aload_n 1, 1), some (.iload 6, 2), none, some (.invokevirtual 50, 3), none, none, some (.ifCond .eq 5, 3), none, none, some (.iconst (-1), 1), some (.ireturn, 1), some (.aload_n 2, 1), some (.getfield 106, 3), none, none, some (.bipush 8, 2), none, some (.if_icmp .ne 8, 3), none, none, some (.iload 6, 2), none, some (.goto 5, 3), none, none, some (.iload 4, 2), none, some (.ireturn, 1)]
def Y_X2_goal : YM := (⟨RX2, "goal", "(LGameOfNoes$Position;LGameOfNoes$Clause;I)I"⟩, prog_4_method_5_code, L_X2_goal, 7, some .int)
def f_X2_goal_59  (r0 : Option Nat) (r1 : Option Nat) (r2 : Option Nat) (i4 : Int32) (si0 : Int32) (M : Mem) : Option (Int32 × Mem) :=
gI M r2 1 3 fun v1 =>
(if v1 = (7 : Int32) then
(if si0 = 0 then
some ((-1 : Int32), M)
else
some (i4, M))
else
gI M r2 1 5 fun v2 =>
cR M r0 (1, 2) (cA (f_X2_besideOf r0 i4 v2 M) fun v3 M1 =>
(if si0 = 0 then
(if v3 = (-1 : Int32) then
some ((-1 : Int32), M1)
else
cR M1 r1 (1, 4) (cA (f_X4_cell r1 v3 M1) fun v4 M2 =>
(if v4 = 0 then
gI M2 r2 1 3 fun v5 =>
(if v5 = (8 : Int32) then
some (v3, M2)
else
some (i4, M2))
else
some ((-1 : Int32), M2))))
else
some ((-1 : Int32), M1))))
def f_X2_goal (r0 : Option Nat) (r1 : Option Nat) (r2 : Option Nat) (i3 : Int32) (M : Mem) : Option (Int32 × Mem) :=
gI M r2 1 3 fun v1 =>
(if v1 = (10 : Int32) then
gI M r2 1 5 fun v2 =>
gI M r2 1 4 fun v3 =>
(if v2 = v3 then
some ((-1 : Int32), M)
else
some (i3, M))
else
gI M r2 1 5 fun v4 =>
cR M r0 (1, 2) (cA (f_X2_besideOf r0 i3 v4 M) fun v5 M1 =>
(if v5 = (-1 : Int32) then
some ((-1 : Int32), M1)
else
cR M1 r1 (1, 4) (cA (f_X4_cell r1 v5 M1) fun v6 M2 =>
(if v6 = 0 then
f_X2_goal_59 r0 r1 r2 v5 (1 : Int32) M2
else
f_X2_goal_59 r0 r1 r2 v5 (0 : Int32) M2)))))
def L_X6_isSingle : List (Option (Instr × Nat)) := [some (.iload_n 0, 1), some (.bipush 12, 2), none, some (.if_icmp .lt 13, 3), none, none, some (.iload_n 0, 1), some (.bipush 15, 2), none, some (.if_icmp .gt 7, 3), none, none, some (.iconst 1, 1), some (.goto 4, 3), none, none, some (.iconst 0, 1), some (.ireturn, 1)]
def Y_X6_isSingle : YM := (⟨RX6, "isSingle", "(I)Z"⟩, prog_8_method_3_code, L_X6_isSingle, 1, some .boolean)
def f_X6_isSingle (i0 : Int32) (M : Mem) : Option (Int32 × Mem) :=
(if i0 < (12 : Int32) then
tv (0 : Int32) (some ((0 : Int32), M))
else
(if (15 : Int32) < i0 then
tv (0 : Int32) (some ((0 : Int32), M))
else
tv (1 : Int32) (some ((1 : Int32), M))))
def L_X6_singleOf : List (Option (Instr × Nat)) := [some (.iload_n 1, 1), some (.invokestatic 37, 3), none, none, some (.ifCond .eq 15, 3), none, none, some (.aload_n 0, 1), some (.getfield 20, 3), none, none, some (.iload_n 1, 1), some (.bipush 12, 2), none, some (.isub, 1), some (.aaload, 1), some (.goto 4, 3), none, none, some (.aconst_null, 1), some (.areturn, 1)]
def Y_X6_singleOf : YM := (⟨RX6, "singleOf", "(I)LGameOfNoes$Clause;"⟩, prog_8_method_4_code, L_X6_singleOf, 2, some (.object "GameOfNoes$Clause"))
def f_X6_singleOf (r0 : Option Nat) (i1 : Int32) (M : Mem) : Option (Option Nat × Mem) :=
cA (f_X6_isSingle i1 M) fun v1 M1 =>
(if v1 = 0 then
some (none, M1)
else
gR M1 r0 6 2 fun v2 =>
aR M1 v2 6 (i1 - (12 : Int32)) fun v3 =>
some (v3, M1))
def L_X9_aim : List (Option (Instr × Nat)) := [some (.aload_n 0, 1), some (.getfield 9, 3), none, none, some (.iconst 0, 1), some (.iload_n 1, 1), some (.iastore, 1), some (.aload_n 0, 1), some (.getfield 9, 3), none, none, some (.iconst 1, 1), some (.iload_n 2, 1), some (.iastore, 1), some (.aload_n 0, 1), some (.getfield 9, 3), none, none, some (.iconst 2, 1), some (.iload_n 3, 1), some (.iastore, 1), some (.aload_n 0, 1), some (.getfield 9, 3), none, none, some (.iconst 3, 1), some (.iload 4, 2), none, some (.iastore, 1), some (.return_, 1)]
def Y_X9_aim : YM := (⟨RX9, "aim", "(IIII)V"⟩, prog_11_method_3_code, L_X9_aim, 5, none)
def f_X9_aim (r0 : Option Nat) (i1 : Int32) (i2 : Int32) (i3 : Int32) (i4 : Int32) (M : Mem) : Option (Unit × Mem) :=
gR M r0 9 0 fun v1 =>
wI M v1 2 (0 : Int32) i1 fun M1 =>
gR M1 r0 9 0 fun v2 =>
wI M1 v2 2 (1 : Int32) i2 fun M2 =>
gR M2 r0 9 0 fun v3 =>
wI M2 v3 2 (2 : Int32) i3 fun M3 =>
gR M3 r0 9 0 fun v4 =>
wI M3 v4 2 (3 : Int32) i4 fun M4 =>
some ((), M4)
def L_X9_joined : List (Option (Instr × Nat)) := [some (.iload_n 0, 1), some (.tableswitch 206 17 30 #[198, 206, 206, 206, 114, 128, 142, 156, 170, 184, 71, 80, 89, 98], 71), none, none, none, none, none, none, none, none, none, none, none, none, none, none, none, none, none, none, none, none, none, none, none, none, none, none, none, none, none, none, none, none, none, none, none, none, none, none, none, none, none, none, none, none, none, none, none, none, none, none, none, none, none, none, none, none, none, none, none, none, none, none, none, none, none, none, none, none, none, none, some (.iload_n 1, 1), some (.i2l, 1), some (.iload_n 2, 1), some (.i2l, 1), some (.ladd, 1), some (.lstore_n 3, 1), some (.goto 134, 3), none, none, some (.iload_n 1, 1), some (.i2l, 1), some (.iload_n 2, 1), some (.i2l, 1), some (.lsub, 1), some (.lstore_n 3, 1), some (.goto 125, 3), none, none, some (.iload_n 1, 1), some (.i2l, 1), some (.iload_n 2, 1), some (.i2l, 1), some (.lmul, 1), some (.lstore_n 3, 1), some (.goto 116, 3), none, none, some (.iload_n 2, 1), some (.ifCond .ne 7, 3), none, none, some (.lconst 0, 1), some (.goto 7, 3), none, none, some (.iload_n 1, 1), some (.iload_n 2, 1), some (.idiv, 1), some (.i2l, 1), some (.lstore_n 3, 1), some (.goto 100, 3), none, none, some (.iload_n 1, 1), some (.iload_n 2, 1), some (.if_icmp .ge 7, 3), none, none, some (.lconst 1, 1), some (.goto 4, 3), none, none, some (.lconst 0, 1), some (.lstore_n 3, 1), some (.goto 86, 3), none, none, some (.iload_n 1, 1), some (.iload_n 2, 1), some (.if_icmp .gt 7, 3), none, none, some (.lconst 1, 1), some (.goto 4, 3), none, none, some (.lconst 0, 1), some (.lstore_n 3, 1), some (.goto 72, 3), none, none, some (.iload_n 1, 1), some (.iload_n 2, 1), some (.if_icmp .le 7, 3), none, none, some (.lconst 1, 1), some (.goto 4, 3), none, none, some (.lconst 0, 1), some (.lstore_n 3, 1), some (.goto 58, 3), none, none, some (.iload_n 1, 1), some (.iload_n 2, 1), some (.if_icmp .lt 7, 3), none, none, some (.lconst 1, 1), some (.goto 4, 3), none, none, some (.lconst 0, 1), some (.lstore_n 3, 1), some (.goto 44, 3), none, none, some (.iload_n 1, 1), some (.iload_n 2, 1), some (.if_icmp .ne 7, 3), none, none, some (.lconst 1, 1), some (.goto 4, 3), none, none, some (.lconst 0, 1), some (.lstore_n 3, 1), some (.goto 30, 3), none, none, some (.iload_n 1, 1), some (.iload_n 2, 1), some (.if_icmp .eq 7, 3), none, none, some (.lconst 1, 1), some (.goto 4, 3), none, none, some (.lconst 0, 1), some (.lstore_n 3, 1), some (.goto 16, 3), none, none, some (.iload_n 1, 1), some (.iload_n 2, 1), some (.iand, 1), some (.i2l, 1), some (.lstore_n 3, 1), some (.goto 8, 3), none, none, some (.iload_n 1, 1), some (.iload_n 2, 1), some (.ior, 1), some (.i2l, 1), some (.lstore_n 3, 1), some (.lload_n 3, 1), some (.ldc2_w 45, 3), none, none, some (.lcmp, 1), some (.ifCond .le 8, 3), none, none, some (.ldc 47, 2), none, some (.goto 18, 3), none, none, some (.lload_n 3, 1), some (.ldc2_w 48, 3), none, none, some (.lcmp, 1), some (.ifCond .ge 8, 3), none, none, some (.ldc 50, 2), none, some (.goto 5, 3), none, none, some (.lload_n 3, 1), some (.l2i, 1), some (.ireturn, 1)]
def Y_X9_joined : YM := (⟨RX9, "joined", "(III)I"⟩, prog_11_method_5_code, L_X9_joined, 5, some .int)
def f_X9_joined_212  (l3 : Int64) (M : Mem) : Option (Int32 × Mem) :=
(if (lg_cmp l3 (1000000 : Int64)) ≤ 0 then
(if 0 ≤ (lg_cmp l3 (-1000000 : Int64)) then
some (l3.toInt32, M)
else
some ((-1000000 : Int32), M))
else
some ((1000000 : Int32), M))
def f_X9_joined (i0 : Int32) (i1 : Int32) (i2 : Int32) (M : Mem) : Option (Int32 × Mem) :=
(if i0 = (17 : Int32) then
f_X9_joined_212 (i1 &&& i2).toInt64 M
else
(if i0 = (18 : Int32) then
f_X9_joined_212 (i1 ||| i2).toInt64 M
else
(if i0 = (19 : Int32) then
f_X9_joined_212 (i1 ||| i2).toInt64 M
else
(if i0 = (20 : Int32) then
f_X9_joined_212 (i1 ||| i2).toInt64 M
else
(if i0 = (21 : Int32) then
(if i2 ≤ i1 then
f_X9_joined_212 (0 : Int64) M
else
f_X9_joined_212 (1 : Int64) M)
else
(if i0 = (22 : Int32) then
(if i2 < i1 then
f_X9_joined_212 (0 : Int64) M
else
f_X9_joined_212 (1 : Int64) M)
else
(if i0 = (23 : Int32) then
(if i1 ≤ i2 then
f_X9_joined_212 (0 : Int64) M
else
f_X9_joined_212 (1 : Int64) M)
else
(if i0 = (24 : Int32) then
(if i1 < i2 then
f_X9_joined_212 (0 : Int64) M
else
f_X9_joined_212 (1 : Int64) M)
else
(if i0 = (25 : Int32) then
(if i1 = i2 then
f_X9_joined_212 (1 : Int64) M
else
f_X9_joined_212 (0 : Int64) M)
else
(if i0 = (26 : Int32) then
(if i1 = i2 then
f_X9_joined_212 (0 : Int64) M
else
f_X9_joined_212 (1 : Int64) M)
else
(if i0 = (27 : Int32) then
f_X9_joined_212 (i1.toInt64 + i2.toInt64) M
else
(if i0 = (28 : Int32) then
f_X9_joined_212 (i1.toInt64 - i2.toInt64) M
else
(if i0 = (29 : Int32) then
f_X9_joined_212 (i1.toInt64 * i2.toInt64) M
else
(if i0 = (30 : Int32) then
(if i2 = 0 then
f_X9_joined_212 (0 : Int64) M
else
nzI i2 (
f_X9_joined_212 (i1 / i2).toInt64 M))
else
f_X9_joined_212 (i1 ||| i2).toInt64 M))))))))))))))
def L_X9_value : List (Option (Instr × Nat)) := [some (.iconst 0, 1), some (.istore_n 3, 1), some (.aload_n 2, 1), some (.getfield 28, 3), none, none, some (.istore 4, 2), none, some (.iload 4, 2), none, some (.aload_n 2, 1), some (.getfield 33, 3), none, none, some (.if_icmp .ge 182, 3), none, none, some (.iload 4, 2), none, some (.aload_n 1, 1), some (.getfield 36, 3), none, none, some (.arraylength, 1), some (.if_icmp .ge 172, 3), none, none, some (.aload_n 1, 1), some (.getfield 36, 3), none, none, some (.iload 4, 2), none, some (.iaload, 1), some (.sipush 10000, 3), none, none, some (.isub, 1), some (.istore 5, 2), none, some (.iload 5, 2), none, some (.bipush 6, 2), none, some (.if_icmp .gt 48, 3), none, none, some (.iload_n 3, 1), some (.aload_n 0, 1), some (.getfield 15, 3), none, none, some (.arraylength, 1), some (.if_icmp .lt 5, 3), none, none, some (.iconst 0, 1), some (.ireturn, 1), some (.aload_n 0, 1), some (.getfield 15, 3), none, none, some (.iload_n 3, 1), some (.iload 5, 2), none, some (.ifCond .ge 13, 3), none, none, some (.aload_n 1, 1), some (.getfield 36, 3), none, none, some (.iload 4, 2), none, some (.iaload, 1), some (.goto 10, 3), none, none, some (.aload_n 0, 1), some (.getfield 9, 3), none, none, some (.iload 5, 2), none, some (.iaload, 1), some (.iastore, 1), some (.iinc 3 1, 3), none, none, some (.goto 101, 3), none, none, some (.iload 5, 2), none, some (.bipush 19, 2), none, some (.if_icmp .eq 10, 3), none, none, some (.iload 5, 2), none, some (.bipush 37, 2), none, some (.if_icmp .ne 50, 3), none, none, some (.iload_n 3, 1), some (.iconst 1, 1), some (.if_icmp .ge 5, 3), none, none, some (.iconst 0, 1), some (.ireturn, 1), some (.aload_n 0, 1), some (.getfield 15, 3), none, none, some (.iload_n 3, 1), some (.iconst 1, 1), some (.isub, 1), some (.iload 5, 2), none, some (.bipush 19, 2), none, some (.if_icmp .ne 16, 3), none, none, some (.iconst 1, 1), some (.aload_n 0, 1), some (.getfield 15, 3), none, none, some (.iload_n 3, 1), some (.iconst 1, 1), some (.isub, 1), some (.iaload, 1), some (.isub, 1), some (.goto 12, 3), none, none, some (.aload_n 0, 1), some (.getfield 15, 3), none, none, some (.iload_n 3, 1), some (.iconst 1, 1), some (.isub, 1), some (.iaload, 1), some (.ineg, 1), some (.iastore, 1), some (.goto 40, 3), none, none, some (.iload_n 3, 1), some (.iconst 2, 1), some (.if_icmp .ge 5, 3), none, none, some (.iconst 0, 1), some (.ireturn, 1), some (.iinc 3 (-1), 3), none, none, some (.aload_n 0, 1), some (.getfield 15, 3), none, none, some (.iload_n 3, 1), some (.iconst 1, 1), some (.isub, 1), some (.iload 5, 2), none, some (.aload_n 0, 1), some (.getfield 15, 3), none, none, some (.iload_n 3, 1), some (.iconst 1, 1), some (.isub, 1), some (.iaload, 1), some (.aload_n 0, 1), some (.getfield 15, 3), none, none, some (.iload_n 3, 1), some (.iaload, 1), some (.invokestatic 41, 3), none, none, some (.iastore, 1), some (.iinc 4 1, 3), none, none, some (.goto (-185), 3), none, none, some (.iload_n 3, 1), some (.ifCond .le 14, 3), none, none, some (.aload_n 0, 1), some (.getfield 15, 3), none, none, some (.iload_n 3, 1), some (.iconst 1, 1), some (.isub, 1), some (.iaload, 1), some (.goto 4, 3), none, none, some (.iconst 0, 1), some (.ireturn, 1)]
def Y_X9_value : YM := (⟨RX9, "value", "(LGameOfNoes$Rules;LGameOfNoes$Clause;)I"⟩, prog_11_method_4_code, L_X9_value, 6, some .int)
def f_X9_value_106 (q8 : Option Nat → Option Nat → Option Nat → Int32 → Int32 → Mem → Option (Int32 × Mem)) (r0 : Option Nat) (r1 : Option Nat) (r2 : Option Nat) (i3 : Int32) (i4 : Int32) (i5 : Int32) (M : Mem) : Option (Int32 × Mem) :=
(if (1 : Int32) ≤ i3 then
gR M r0 9 1 fun v1 =>
(if i5 = (19 : Int32) then
gR M r0 9 1 fun v2 =>
aI M v2 2 (i3 - (1 : Int32)) fun v3 =>
wI M v1 2 (i3 - (1 : Int32)) ((1 : Int32) - v3) fun M1 =>
q8 r0 r1 r2 i3 (i4 + (1 : Int32)) M1
else
gR M r0 9 1 fun v4 =>
aI M v4 2 (i3 - (1 : Int32)) fun v5 =>
wI M v1 2 (i3 - (1 : Int32)) (-v5) fun M2 =>
q8 r0 r1 r2 i3 (i4 + (1 : Int32)) M2)
else
some ((0 : Int32), M))
def b_X9_value_8 (q8 : Option Nat → Option Nat → Option Nat → Int32 → Int32 → Mem → Option (Int32 × Mem)) (r0 : Option Nat) (r1 : Option Nat) (r2 : Option Nat) (i3 : Int32) (i4 : Int32) (M : Mem) : Option (Int32 × Mem) :=
gI M r2 1 7 fun v1 =>
(if v1 ≤ i4 then
(if i3 ≤ 0 then
some ((0 : Int32), M)
else
gR M r0 9 1 fun v2 =>
aI M v2 2 (i3 - (1 : Int32)) fun v3 =>
some (v3, M))
else
gR M r1 6 3 fun v4 =>
aN M v4 fun v5 =>
(if v5 ≤ i4 then
(if i3 ≤ 0 then
some ((0 : Int32), M)
else
gR M r0 9 1 fun v6 =>
aI M v6 2 (i3 - (1 : Int32)) fun v7 =>
some (v7, M))
else
gR M r1 6 3 fun v8 =>
aI M v8 2 i4 fun v9 =>
(if (6 : Int32) < (v9 - (10000 : Int32)) then
(if (v9 - (10000 : Int32)) = (19 : Int32) then
f_X9_value_106 q8 r0 r1 r2 i3 i4 (v9 - (10000 : Int32)) M
else
(if (v9 - (10000 : Int32)) = (37 : Int32) then
f_X9_value_106 q8 r0 r1 r2 i3 i4 (v9 - (10000 : Int32)) M
else
(if (2 : Int32) ≤ i3 then
gR M r0 9 1 fun v10 =>
gR M r0 9 1 fun v11 =>
aI M v11 2 ((i3 + (-1 : Int32)) - (1 : Int32)) fun v12 =>
gR M r0 9 1 fun v13 =>
aI M v13 2 (i3 + (-1 : Int32)) fun v14 =>
cA (f_X9_joined (v9 - (10000 : Int32)) v12 v14 M) fun v15 M1 =>
wI M1 v10 2 ((i3 + (-1 : Int32)) - (1 : Int32)) v15 fun M2 =>
q8 r0 r1 r2 (i3 + (-1 : Int32)) (i4 + (1 : Int32)) M2
else
some ((0 : Int32), M))))
else
gR M r0 9 1 fun v16 =>
aN M v16 fun v17 =>
(if i3 < v17 then
gR M r0 9 1 fun v18 =>
(if 0 ≤ (v9 - (10000 : Int32)) then
gR M r0 9 0 fun v19 =>
aI M v19 2 (v9 - (10000 : Int32)) fun v20 =>
wI M v18 2 i3 v20 fun M3 =>
q8 r0 r1 r2 (i3 + (1 : Int32)) (i4 + (1 : Int32)) M3
else
gR M r1 6 3 fun v21 =>
aI M v21 2 i4 fun v22 =>
wI M v18 2 i3 v22 fun M4 =>
q8 r0 r1 r2 (i3 + (1 : Int32)) (i4 + (1 : Int32)) M4)
else
some ((0 : Int32), M)))))
def f_X9_value_8 (n : Nat) : Option Nat → Option Nat → Option Nat → Int32 → Int32 → Mem → Option (Int32 × Mem) := lpN (fun _ _ _ _ _ _ => none) (b_X9_value_8 ) n
def f_X9_value (r0 : Option Nat) (r1 : Option Nat) (r2 : Option Nat) (M : Mem) : Option (Int32 × Mem) :=
gI M r2 1 6 fun v1 =>
f_X9_value_8 FU r0 r1 r2 (0 : Int32) v1 M
theorem fl_2_106 : FLk RX2 106 1 3 false := ⟨_, rfl, by decide, (gw_in 106 (by decide +kernel) (by decide +kernel)), rfl⟩
theorem fl_2_109 : FLk RX2 109 1 5 false := ⟨_, rfl, by decide, (gw_in 110 (by decide +kernel) (by decide +kernel)), rfl⟩
set_option maxRecDepth 30000 in
theorem ok_X2_besideOf : okY Y_X2_besideOf := ⟨(gw_in 745 rfl rfl), (gw_in 10 (by decide +kernel) (by decide +kernel)), by decide +kernel, by decide +kernel⟩
theorem ml_2_112 : MLv RX2 112 Y_X2_besideOf 2 := ⟨(gw_in 742 (by decide +kernel) (by decide +kernel)), (gw_in 744 (by decide +kernel) (by decide +kernel)), (gw_sel (n := 8) 16 (by decide +kernel) (by decide +kernel)), ok_X2_besideOf, by decide +kernel⟩
theorem ml_2_50 : MLv RX2 50 Y_X4_cell 1 := ⟨(gw_in 732 (by decide +kernel) (by decide +kernel)), (gw_in 726 (by decide +kernel) (by decide +kernel)), (gw_in 727 (by decide +kernel) (by decide +kernel)), ok_X4_cell, by decide +kernel⟩
theorem fl_2_71 : FLk RX2 71 1 4 false := ⟨_, rfl, by decide, (gw_in 108 (by decide +kernel) (by decide +kernel)), rfl⟩
set_option maxRecDepth 30000 in
theorem ok_X6_isSingle : okY Y_X6_isSingle := ⟨(gw_in 634 rfl rfl), (gw_in 4 (by decide +kernel) (by decide +kernel)), by decide +kernel, by decide +kernel⟩
theorem ml_6_37 : MLs RX6 37 Y_X6_isSingle 1 := ⟨(gw_in 643 (by decide +kernel) (by decide +kernel)), (gw_in 633 (by decide +kernel) (by decide +kernel)), ok_X6_isSingle, by decide +kernel⟩
theorem fl_6_20 : FLk RX6 20 6 2 true := ⟨_, rfl, by decide, (gw_in 144 (by decide +kernel) (by decide +kernel)), rfl⟩
theorem fl_9_9 : FLk RX9 9 9 0 true := ⟨_, rfl, by decide, (gw_in 227 (by decide +kernel) (by decide +kernel)), rfl⟩
theorem kl_9_45 : Jvm.Cond.constantLong RX9 45 (1000000) ∈ gw := gw_in 765 (by decide +kernel) (by decide +kernel)
theorem kl_9_48 : Jvm.Cond.constantLong RX9 48 (-1000000) ∈ gw := gw_in 767 (by decide +kernel) (by decide +kernel)
theorem kc_9_50 : Jvm.Cond.constant RX9 50 (-1000000) ∈ gw := gw_in 768 (by decide +kernel) (by decide +kernel)
theorem kc_9_47 : Jvm.Cond.constant RX9 47 (1000000) ∈ gw := gw_in 766 (by decide +kernel) (by decide +kernel)
theorem fl_9_15 : FLk RX9 15 9 1 true := ⟨_, rfl, by decide, (gw_in 228 (by decide +kernel) (by decide +kernel)), rfl⟩
theorem fl_9_33 : FLk RX9 33 1 7 false := ⟨_, rfl, by decide, (gw_in 116 (by decide +kernel) (by decide +kernel)), rfl⟩
theorem fl_9_36 : FLk RX9 36 6 3 true := ⟨_, rfl, by decide, (gw_in 146 (by decide +kernel) (by decide +kernel)), rfl⟩
set_option maxRecDepth 30000 in
theorem ok_X9_joined : okY Y_X9_joined := ⟨(gw_in 764 rfl rfl), (gw_in 9 (by decide +kernel) (by decide +kernel)), by decide +kernel, by decide +kernel⟩
theorem ml_9_41 : MLs RX9 41 Y_X9_joined 3 := ⟨(gw_in 762 (by decide +kernel) (by decide +kernel)), (gw_in 763 (by decide +kernel) (by decide +kernel)), ok_X9_joined, by decide +kernel⟩
theorem fl_9_28 : FLk RX9 28 1 6 false := ⟨_, rfl, by decide, (gw_in 113 (by decide +kernel) (by decide +kernel)), rfl⟩
set_option maxRecDepth 20000 in
theorem dk_X2_goal : ∀ pc i, L_X2_goal[pc]? = some (some i) → decode prog_4_method_5_code pc = .ok i := dk_of (by decide +kernel)
theorem s_X2_goal_59 {d : Nat} {P : Int32 → Mem → Prop}   (r0 : Option Nat) (r1 : Option Nat) (r2 : Option Nat) (i4 : Int32) (si0 : Int32) (M : Mem) (h : FQ (f_X2_goal_59  r0 r1 r2 i4 si0 M) P) : wp Y_X2_goal (rmD (d + 1) 0 0) (FM (QI P) 0 0) 0 0 59 [some (va_rf r0), some (va_rf r1), some (va_rf r2), none, some (.int i4), none, none] [.int si0] M := by
  unfold f_X2_goal_59 at h
  refine r_istore (lo' := [some (va_rf r0), some (va_rf r1), some (va_rf r2), none, some (.int i4), some (.int si0), none]) rfl rfl rfl rfl ?_
  refine r_aload_n rfl rfl ?_
  refine r_getI rfl fl_2_106 rfl h (fun v1 h => ?_)
  refine r_bipush (v := 7) rfl (by decide) ?_
  refine r_ic_ne 82 rfl (by decide) h (fun h => ?_) (fun h => ?_)
  · refine r_iload rfl rfl ?_
    refine r_if_eq 80 rfl (by decide) h (fun h => ?_) (fun h => ?_)
    · refine r_iconst (v := -1) rfl (by decide) ?_
      exact r_iret rfl rfl ⟨Nat.le_of_ble_eq_true rfl, Nat.le_of_ble_eq_true rfl⟩ h
    · refine r_iload rfl rfl ?_
      refine r_goto 81 rfl (by decide) ?_
      exact r_iret rfl rfl ⟨Nat.le_of_ble_eq_true rfl, Nat.le_of_ble_eq_true rfl⟩ h
  · refine r_aload_n rfl rfl ?_
    refine r_iload rfl rfl ?_
    refine r_aload_n rfl rfl ?_
    refine r_getI rfl fl_2_109 rfl h (fun v2 h => ?_)
    refine r_cv_i (vs := [.int i4, .int v2]) rfl ml_2_112 rfl (rOk.of rfl) ⟨Nat.zero_le _, Nat.zero_le _⟩ rfl rfl rfl h s_X2_besideOf (fun v3 M1 h => ?_)
    refine r_istore (lo' := [some (va_rf r0), some (va_rf r1), some (va_rf r2), none, some (.int i4), some (.int si0), some (.int v3)]) rfl rfl rfl rfl ?_
    refine r_iload rfl rfl ?_
    refine r_if_ne 114 rfl (by decide) h (fun h => ?_) (fun h => ?_)
    · refine r_iload rfl rfl ?_
      refine r_iconst (v := -1) rfl (by decide) ?_
      refine r_ic_eq 114 rfl (by decide) h (fun h => ?_) (fun h => ?_)
      · refine r_iconst (v := -1) rfl (by decide) ?_
        exact r_iret rfl rfl ⟨Nat.le_of_ble_eq_true rfl, Nat.le_of_ble_eq_true rfl⟩ h
      · refine r_aload_n rfl rfl ?_
        refine r_iload rfl rfl ?_
        refine r_cv_i (vs := [.int v3]) rfl ml_2_50 rfl (rOk.of rfl) ⟨Nat.zero_le _, Nat.zero_le _⟩ rfl rfl rfl h s_X4_cell (fun v4 M2 h => ?_)
        refine r_if_eq 116 rfl (by decide) h (fun h => ?_) (fun h => ?_)
        · refine r_aload_n rfl rfl ?_
          refine r_getI rfl fl_2_106 rfl h (fun v5 h => ?_)
          refine r_bipush (v := 8) rfl (by decide) ?_
          refine r_ic_ne 130 rfl (by decide) h (fun h => ?_) (fun h => ?_)
          · refine r_iload rfl rfl ?_
            refine r_goto 132 rfl (by decide) ?_
            exact r_iret rfl rfl ⟨Nat.le_of_ble_eq_true rfl, Nat.le_of_ble_eq_true rfl⟩ h
          · refine r_iload rfl rfl ?_
            exact r_iret rfl rfl ⟨Nat.le_of_ble_eq_true rfl, Nat.le_of_ble_eq_true rfl⟩ h
        · refine r_iconst (v := -1) rfl (by decide) ?_
          exact r_iret rfl rfl ⟨Nat.le_of_ble_eq_true rfl, Nat.le_of_ble_eq_true rfl⟩ h
    · refine r_iconst (v := -1) rfl (by decide) ?_
      exact r_iret rfl rfl ⟨Nat.le_of_ble_eq_true rfl, Nat.le_of_ble_eq_true rfl⟩ h
theorem s_X2_goal {d : Nat} {P : Int32 → Mem → Prop} {r0 : Option Nat} {r1 : Option Nat} {r2 : Option Nat} {i3 : Int32} {M : Mem} (h : FQ (f_X2_goal r0 r1 r2 i3 M) P) : Con Y_X2_goal (d + 1) 0 0 [va_rf r0, va_rf r1, va_rf r2, .int i3] M (QI P) := by
  refine Con.of [some (va_rf r0), some (va_rf r1), some (va_rf r2), some (.int i3), none, none, none] (by decide +kernel) dk_X2_goal (by simp [Y_X2_goal, cat_rf, cat_i, cat_l]) (by simp [loE, Y_X2_goal, cat_rf, cat_i, cat_l, List.replicate]) ?_
  unfold f_X2_goal at h
  refine r_aload_n rfl rfl ?_
  refine r_getI rfl fl_2_106 rfl h (fun v1 h => ?_)
  refine r_bipush (v := 10) rfl (by decide) ?_
  refine r_ic_ne 26 rfl (by decide) h (fun h => ?_) (fun h => ?_)
  · refine r_aload_n rfl rfl ?_
    refine r_getI rfl fl_2_109 rfl h (fun v2 h => ?_)
    refine r_aload_n rfl rfl ?_
    refine r_getI rfl fl_2_71 rfl h (fun v3 h => ?_)
    refine r_ic_ne 24 rfl (by decide) h (fun h => ?_) (fun h => ?_)
    · refine r_iconst (v := -1) rfl (by decide) ?_
      refine r_goto 25 rfl (by decide) ?_
      exact r_iret rfl rfl ⟨Nat.le_of_ble_eq_true rfl, Nat.le_of_ble_eq_true rfl⟩ h
    · refine r_iload_n rfl rfl ?_
      exact r_iret rfl rfl ⟨Nat.le_of_ble_eq_true rfl, Nat.le_of_ble_eq_true rfl⟩ h
  · refine r_aload_n rfl rfl ?_
    refine r_iload_n rfl rfl ?_
    refine r_aload_n rfl rfl ?_
    refine r_getI rfl fl_2_109 rfl h (fun v4 h => ?_)
    refine r_cv_i (vs := [.int i3, .int v4]) rfl ml_2_112 rfl (rOk.of rfl) ⟨Nat.zero_le _, Nat.zero_le _⟩ rfl rfl rfl h s_X2_besideOf (fun v5 M1 h => ?_)
    refine r_istore (lo' := [some (va_rf r0), some (va_rf r1), some (va_rf r2), some (.int i3), some (.int v5), none, none]) rfl rfl rfl rfl ?_
    refine r_iload rfl rfl ?_
    refine r_iconst (v := -1) rfl (by decide) ?_
    refine r_ic_ne 45 rfl (by decide) h (fun h => ?_) (fun h => ?_)
    · refine r_iconst (v := -1) rfl (by decide) ?_
      exact r_iret rfl rfl ⟨Nat.le_of_ble_eq_true rfl, Nat.le_of_ble_eq_true rfl⟩ h
    · refine r_aload_n rfl rfl ?_
      refine r_iload rfl rfl ?_
      refine r_cv_i (vs := [.int v5]) rfl ml_2_50 rfl (rOk.of rfl) ⟨Nat.zero_le _, Nat.zero_le _⟩ rfl rfl rfl h s_X4_cell (fun v6 M2 h => ?_)
      refine r_if_ne 58 rfl (by decide) h (fun h => ?_) (fun h => ?_)
      · refine r_iconst (v := 1) rfl (by decide) ?_
        refine r_goto 59 rfl (by decide) ?_
        refine r_msk [true, true, true, false, true, true, true] rfl ?_
        exact s_X2_goal_59 _ _ _ _ _ _ h
      · refine r_iconst (v := 0) rfl (by decide) ?_
        refine r_msk [true, true, true, false, true, true, true] rfl ?_
        exact s_X2_goal_59 _ _ _ _ _ _ h
set_option maxRecDepth 20000 in
theorem dk_X6_isSingle : ∀ pc i, L_X6_isSingle[pc]? = some (some i) → decode prog_8_method_3_code pc = .ok i := dk_of (by decide +kernel)
theorem s_X6_isSingle {d : Nat} {P : Int32 → Mem → Prop} {i0 : Int32} {M : Mem} (h : FQ (f_X6_isSingle i0 M) P) : Con Y_X6_isSingle d 0 0 [.int i0] M (QI P) := by
  refine Con.of [some (.int i0)] (by decide +kernel) dk_X6_isSingle (by simp [Y_X6_isSingle, cat_rf, cat_i, cat_l]) (by simp [loE, Y_X6_isSingle, cat_rf, cat_i, cat_l, List.replicate]) ?_
  unfold f_X6_isSingle at h
  refine r_iload_n rfl rfl ?_
  refine r_bipush (v := 12) rfl (by decide) ?_
  refine r_ic_lt 16 rfl (by decide) h (fun h => ?_) (fun h => ?_)
  · refine r_iconst (v := 0) rfl (by decide) ?_
    exact r_zret rfl rfl ⟨Nat.le_of_ble_eq_true rfl, Nat.le_of_ble_eq_true rfl⟩ h
  · refine r_iload_n rfl rfl ?_
    refine r_bipush (v := 15) rfl (by decide) ?_
    refine r_ic_gt 16 rfl (by decide) h (fun h => ?_) (fun h => ?_)
    · refine r_iconst (v := 0) rfl (by decide) ?_
      exact r_zret rfl rfl ⟨Nat.le_of_ble_eq_true rfl, Nat.le_of_ble_eq_true rfl⟩ h
    · refine r_iconst (v := 1) rfl (by decide) ?_
      refine r_goto 17 rfl (by decide) ?_
      exact r_zret rfl rfl ⟨Nat.le_of_ble_eq_true rfl, Nat.le_of_ble_eq_true rfl⟩ h
set_option maxRecDepth 20000 in
theorem dk_X6_singleOf : ∀ pc i, L_X6_singleOf[pc]? = some (some i) → decode prog_8_method_4_code pc = .ok i := dk_of (by decide +kernel)
theorem s_X6_singleOf {d : Nat} {P : Option Nat → Mem → Prop} {r0 : Option Nat} {i1 : Int32} {M : Mem} (h : FQ (f_X6_singleOf r0 i1 M) P) : Con Y_X6_singleOf (d + 1) 0 0 [va_rf r0, .int i1] M (QR P) := by
  refine Con.of [some (va_rf r0), some (.int i1)] (by decide +kernel) dk_X6_singleOf (by simp [Y_X6_singleOf, cat_rf, cat_i, cat_l]) (by simp [loE, Y_X6_singleOf, cat_rf, cat_i, cat_l, List.replicate]) ?_
  unfold f_X6_singleOf at h
  refine r_iload_n rfl rfl ?_
  refine r_cs_i (vs := [.int i1]) rfl ml_6_37 (rOk.of rfl) ⟨Nat.zero_le _, Nat.zero_le _⟩ rfl rfl rfl h s_X6_isSingle (fun v1 M1 h => ?_)
  refine r_if_eq 19 rfl (by decide) h (fun h => ?_) (fun h => ?_)
  · refine r_null rfl ?_
    exact r_aret rfl rfl ⟨Nat.le_of_ble_eq_true rfl, Nat.le_of_ble_eq_true rfl⟩ h
  · refine r_aload_n rfl rfl ?_
    refine r_getR rfl fl_6_20 rfl h (fun v2 h => ?_)
    refine r_iload_n rfl rfl ?_
    refine r_bipush (v := 12) rfl (by decide) ?_
    refine r_isub rfl ?_
    refine r_aald6 rfl h (fun v3 h => ?_)
    refine r_goto 20 rfl (by decide) ?_
    exact r_aret rfl rfl ⟨Nat.le_of_ble_eq_true rfl, Nat.le_of_ble_eq_true rfl⟩ h
set_option maxRecDepth 20000 in
theorem dk_X9_aim : ∀ pc i, L_X9_aim[pc]? = some (some i) → decode prog_11_method_3_code pc = .ok i := dk_of (by decide +kernel)
theorem s_X9_aim {d : Nat} {P : Unit → Mem → Prop} {r0 : Option Nat} {i1 : Int32} {i2 : Int32} {i3 : Int32} {i4 : Int32} {M : Mem} (h : FQ (f_X9_aim r0 i1 i2 i3 i4 M) P) : Con Y_X9_aim d 0 0 [va_rf r0, .int i1, .int i2, .int i3, .int i4] M (QV P) := by
  refine Con.of [some (va_rf r0), some (.int i1), some (.int i2), some (.int i3), some (.int i4)] (by decide +kernel) dk_X9_aim (by simp [Y_X9_aim, cat_rf, cat_i, cat_l]) (by simp [loE, Y_X9_aim, cat_rf, cat_i, cat_l, List.replicate]) ?_
  unfold f_X9_aim at h
  refine r_aload_n rfl rfl ?_
  refine r_getR rfl fl_9_9 rfl h (fun v1 h => ?_)
  refine r_iconst (v := 0) rfl (by decide) ?_
  refine r_iload_n rfl rfl ?_
  refine r_iast rfl h (fun M1 h => ?_)
  refine r_aload_n rfl rfl ?_
  refine r_getR rfl fl_9_9 rfl h (fun v2 h => ?_)
  refine r_iconst (v := 1) rfl (by decide) ?_
  refine r_iload_n rfl rfl ?_
  refine r_iast rfl h (fun M2 h => ?_)
  refine r_aload_n rfl rfl ?_
  refine r_getR rfl fl_9_9 rfl h (fun v3 h => ?_)
  refine r_iconst (v := 2) rfl (by decide) ?_
  refine r_iload_n rfl rfl ?_
  refine r_iast rfl h (fun M3 h => ?_)
  refine r_aload_n rfl rfl ?_
  refine r_getR rfl fl_9_9 rfl h (fun v4 h => ?_)
  refine r_iconst (v := 3) rfl (by decide) ?_
  refine r_iload rfl rfl ?_
  refine r_iast rfl h (fun M4 h => ?_)
  exact r_vret rfl rfl ⟨Nat.le_of_ble_eq_true rfl, Nat.le_of_ble_eq_true rfl⟩ h
set_option maxRecDepth 20000 in
theorem dk_X9_joined : ∀ pc i, L_X9_joined[pc]? = some (some i) → decode prog_11_method_5_code pc = .ok i := dk_of (by decide +kernel)
theorem s_X9_joined_212 {d : Nat} {P : Int32 → Mem → Prop}   (l3 : Int64) (M : Mem) (h : FQ (f_X9_joined_212  l3 M) P) : wp Y_X9_joined (rmD d 0 0) (FM (QI P) 0 0) 0 0 212 [none, none, none, some (.long l3), none] [] M := by
  unfold f_X9_joined_212 at h
  refine r_lload_n rfl rfl ?_
  refine r_ldc2 rfl kl_9_45 ?_
  refine r_lcmp rfl ?_
  refine r_if_le 225 rfl (by decide) h (fun h => ?_) (fun h => ?_)
  · refine r_lload_n rfl rfl ?_
    refine r_ldc2 rfl kl_9_48 ?_
    refine r_lcmp rfl ?_
    refine r_if_ge 238 rfl (by decide) h (fun h => ?_) (fun h => ?_)
    · refine r_lload_n rfl rfl ?_
      refine r_l2i rfl ?_
      exact r_iret rfl rfl ⟨Nat.le_of_ble_eq_true rfl, Nat.le_of_ble_eq_true rfl⟩ h
    · refine r_ldc rfl kc_9_50 ?_
      refine r_goto 240 rfl (by decide) ?_
      exact r_iret rfl rfl ⟨Nat.le_of_ble_eq_true rfl, Nat.le_of_ble_eq_true rfl⟩ h
  · refine r_ldc rfl kc_9_47 ?_
    refine r_goto 240 rfl (by decide) ?_
    exact r_iret rfl rfl ⟨Nat.le_of_ble_eq_true rfl, Nat.le_of_ble_eq_true rfl⟩ h
theorem s_X9_joined {d : Nat} {P : Int32 → Mem → Prop} {i0 : Int32} {i1 : Int32} {i2 : Int32} {M : Mem} (h : FQ (f_X9_joined i0 i1 i2 M) P) : Con Y_X9_joined d 0 0 [.int i0, .int i1, .int i2] M (QI P) := by
  refine Con.of [some (.int i0), some (.int i1), some (.int i2), none, none] (by decide +kernel) dk_X9_joined (by simp [Y_X9_joined, cat_rf, cat_i, cat_l]) (by simp [loE, Y_X9_joined, cat_rf, cat_i, cat_l, List.replicate]) ?_
  unfold f_X9_joined at h
  refine r_iload_n rfl rfl ?_
  refine r_table (ks := [(17, 199), (18, 207), (19, 207), (20, 207), (21, 115), (22, 129), (23, 143), (24, 157), (25, 171), (26, 185), (27, 72), (28, 81), (29, 90), (30, 99)]) (dt := 207) rfl (by decide) (by decide) ?_
  refine r_swc h (fun h => ?_) (fun h => ?_)
  · refine r_iload_n rfl rfl ?_
    refine r_iload_n rfl rfl ?_
    refine r_iand rfl ?_
    refine r_i2l rfl ?_
    refine r_lstore_n (lo' := [some (.int i0), some (.int i1), some (.int i2), some (.long (i1 &&& i2).toInt64), none]) rfl rfl rfl rfl ?_
    refine r_goto 212 rfl (by decide) ?_
    refine r_msk [false, false, false, true, true] rfl ?_
    exact s_X9_joined_212 _ _ h
  · refine r_swc h (fun h => ?_) (fun h => ?_)
    · refine r_iload_n rfl rfl ?_
      refine r_iload_n rfl rfl ?_
      refine r_ior rfl ?_
      refine r_i2l rfl ?_
      refine r_lstore_n (lo' := [some (.int i0), some (.int i1), some (.int i2), some (.long (i1 ||| i2).toInt64), none]) rfl rfl rfl rfl ?_
      refine r_msk [false, false, false, true, true] rfl ?_
      exact s_X9_joined_212 _ _ h
    · refine r_swc h (fun h => ?_) (fun h => ?_)
      · refine r_iload_n rfl rfl ?_
        refine r_iload_n rfl rfl ?_
        refine r_ior rfl ?_
        refine r_i2l rfl ?_
        refine r_lstore_n (lo' := [some (.int i0), some (.int i1), some (.int i2), some (.long (i1 ||| i2).toInt64), none]) rfl rfl rfl rfl ?_
        refine r_msk [false, false, false, true, true] rfl ?_
        exact s_X9_joined_212 _ _ h
      · refine r_swc h (fun h => ?_) (fun h => ?_)
        · refine r_iload_n rfl rfl ?_
          refine r_iload_n rfl rfl ?_
          refine r_ior rfl ?_
          refine r_i2l rfl ?_
          refine r_lstore_n (lo' := [some (.int i0), some (.int i1), some (.int i2), some (.long (i1 ||| i2).toInt64), none]) rfl rfl rfl rfl ?_
          refine r_msk [false, false, false, true, true] rfl ?_
          exact s_X9_joined_212 _ _ h
        · refine r_swc h (fun h => ?_) (fun h => ?_)
          · refine r_iload_n rfl rfl ?_
            refine r_iload_n rfl rfl ?_
            refine r_ic_ge 124 rfl (by decide) h (fun h => ?_) (fun h => ?_)
            · refine r_lconst (v := 0) rfl (by decide) ?_
              refine r_lstore_n (lo' := [some (.int i0), some (.int i1), some (.int i2), some (.long (0 : Int64)), none]) rfl rfl rfl rfl ?_
              refine r_goto 212 rfl (by decide) ?_
              refine r_msk [false, false, false, true, true] rfl ?_
              exact s_X9_joined_212 _ _ h
            · refine r_lconst (v := 1) rfl (by decide) ?_
              refine r_goto 125 rfl (by decide) ?_
              refine r_lstore_n (lo' := [some (.int i0), some (.int i1), some (.int i2), some (.long (1 : Int64)), none]) rfl rfl rfl rfl ?_
              refine r_goto 212 rfl (by decide) ?_
              refine r_msk [false, false, false, true, true] rfl ?_
              exact s_X9_joined_212 _ _ h
          · refine r_swc h (fun h => ?_) (fun h => ?_)
            · refine r_iload_n rfl rfl ?_
              refine r_iload_n rfl rfl ?_
              refine r_ic_gt 138 rfl (by decide) h (fun h => ?_) (fun h => ?_)
              · refine r_lconst (v := 0) rfl (by decide) ?_
                refine r_lstore_n (lo' := [some (.int i0), some (.int i1), some (.int i2), some (.long (0 : Int64)), none]) rfl rfl rfl rfl ?_
                refine r_goto 212 rfl (by decide) ?_
                refine r_msk [false, false, false, true, true] rfl ?_
                exact s_X9_joined_212 _ _ h
              · refine r_lconst (v := 1) rfl (by decide) ?_
                refine r_goto 139 rfl (by decide) ?_
                refine r_lstore_n (lo' := [some (.int i0), some (.int i1), some (.int i2), some (.long (1 : Int64)), none]) rfl rfl rfl rfl ?_
                refine r_goto 212 rfl (by decide) ?_
                refine r_msk [false, false, false, true, true] rfl ?_
                exact s_X9_joined_212 _ _ h
            · refine r_swc h (fun h => ?_) (fun h => ?_)
              · refine r_iload_n rfl rfl ?_
                refine r_iload_n rfl rfl ?_
                refine r_ic_le 152 rfl (by decide) h (fun h => ?_) (fun h => ?_)
                · refine r_lconst (v := 0) rfl (by decide) ?_
                  refine r_lstore_n (lo' := [some (.int i0), some (.int i1), some (.int i2), some (.long (0 : Int64)), none]) rfl rfl rfl rfl ?_
                  refine r_goto 212 rfl (by decide) ?_
                  refine r_msk [false, false, false, true, true] rfl ?_
                  exact s_X9_joined_212 _ _ h
                · refine r_lconst (v := 1) rfl (by decide) ?_
                  refine r_goto 153 rfl (by decide) ?_
                  refine r_lstore_n (lo' := [some (.int i0), some (.int i1), some (.int i2), some (.long (1 : Int64)), none]) rfl rfl rfl rfl ?_
                  refine r_goto 212 rfl (by decide) ?_
                  refine r_msk [false, false, false, true, true] rfl ?_
                  exact s_X9_joined_212 _ _ h
              · refine r_swc h (fun h => ?_) (fun h => ?_)
                · refine r_iload_n rfl rfl ?_
                  refine r_iload_n rfl rfl ?_
                  refine r_ic_lt 166 rfl (by decide) h (fun h => ?_) (fun h => ?_)
                  · refine r_lconst (v := 0) rfl (by decide) ?_
                    refine r_lstore_n (lo' := [some (.int i0), some (.int i1), some (.int i2), some (.long (0 : Int64)), none]) rfl rfl rfl rfl ?_
                    refine r_goto 212 rfl (by decide) ?_
                    refine r_msk [false, false, false, true, true] rfl ?_
                    exact s_X9_joined_212 _ _ h
                  · refine r_lconst (v := 1) rfl (by decide) ?_
                    refine r_goto 167 rfl (by decide) ?_
                    refine r_lstore_n (lo' := [some (.int i0), some (.int i1), some (.int i2), some (.long (1 : Int64)), none]) rfl rfl rfl rfl ?_
                    refine r_goto 212 rfl (by decide) ?_
                    refine r_msk [false, false, false, true, true] rfl ?_
                    exact s_X9_joined_212 _ _ h
                · refine r_swc h (fun h => ?_) (fun h => ?_)
                  · refine r_iload_n rfl rfl ?_
                    refine r_iload_n rfl rfl ?_
                    refine r_ic_ne 180 rfl (by decide) h (fun h => ?_) (fun h => ?_)
                    · refine r_lconst (v := 1) rfl (by decide) ?_
                      refine r_goto 181 rfl (by decide) ?_
                      refine r_lstore_n (lo' := [some (.int i0), some (.int i1), some (.int i2), some (.long (1 : Int64)), none]) rfl rfl rfl rfl ?_
                      refine r_goto 212 rfl (by decide) ?_
                      refine r_msk [false, false, false, true, true] rfl ?_
                      exact s_X9_joined_212 _ _ h
                    · refine r_lconst (v := 0) rfl (by decide) ?_
                      refine r_lstore_n (lo' := [some (.int i0), some (.int i1), some (.int i2), some (.long (0 : Int64)), none]) rfl rfl rfl rfl ?_
                      refine r_goto 212 rfl (by decide) ?_
                      refine r_msk [false, false, false, true, true] rfl ?_
                      exact s_X9_joined_212 _ _ h
                  · refine r_swc h (fun h => ?_) (fun h => ?_)
                    · refine r_iload_n rfl rfl ?_
                      refine r_iload_n rfl rfl ?_
                      refine r_ic_eq 194 rfl (by decide) h (fun h => ?_) (fun h => ?_)
                      · refine r_lconst (v := 0) rfl (by decide) ?_
                        refine r_lstore_n (lo' := [some (.int i0), some (.int i1), some (.int i2), some (.long (0 : Int64)), none]) rfl rfl rfl rfl ?_
                        refine r_goto 212 rfl (by decide) ?_
                        refine r_msk [false, false, false, true, true] rfl ?_
                        exact s_X9_joined_212 _ _ h
                      · refine r_lconst (v := 1) rfl (by decide) ?_
                        refine r_goto 195 rfl (by decide) ?_
                        refine r_lstore_n (lo' := [some (.int i0), some (.int i1), some (.int i2), some (.long (1 : Int64)), none]) rfl rfl rfl rfl ?_
                        refine r_goto 212 rfl (by decide) ?_
                        refine r_msk [false, false, false, true, true] rfl ?_
                        exact s_X9_joined_212 _ _ h
                    · refine r_swc h (fun h => ?_) (fun h => ?_)
                      · refine r_iload_n rfl rfl ?_
                        refine r_i2l rfl ?_
                        refine r_iload_n rfl rfl ?_
                        refine r_i2l rfl ?_
                        refine r_ladd rfl ?_
                        refine r_lstore_n (lo' := [some (.int i0), some (.int i1), some (.int i2), some (.long (i1.toInt64 + i2.toInt64)), none]) rfl rfl rfl rfl ?_
                        refine r_goto 212 rfl (by decide) ?_
                        refine r_msk [false, false, false, true, true] rfl ?_
                        exact s_X9_joined_212 _ _ h
                      · refine r_swc h (fun h => ?_) (fun h => ?_)
                        · refine r_iload_n rfl rfl ?_
                          refine r_i2l rfl ?_
                          refine r_iload_n rfl rfl ?_
                          refine r_i2l rfl ?_
                          refine r_lsub rfl ?_
                          refine r_lstore_n (lo' := [some (.int i0), some (.int i1), some (.int i2), some (.long (i1.toInt64 - i2.toInt64)), none]) rfl rfl rfl rfl ?_
                          refine r_goto 212 rfl (by decide) ?_
                          refine r_msk [false, false, false, true, true] rfl ?_
                          exact s_X9_joined_212 _ _ h
                        · refine r_swc h (fun h => ?_) (fun h => ?_)
                          · refine r_iload_n rfl rfl ?_
                            refine r_i2l rfl ?_
                            refine r_iload_n rfl rfl ?_
                            refine r_i2l rfl ?_
                            refine r_lmul rfl ?_
                            refine r_lstore_n (lo' := [some (.int i0), some (.int i1), some (.int i2), some (.long (i1.toInt64 * i2.toInt64)), none]) rfl rfl rfl rfl ?_
                            refine r_goto 212 rfl (by decide) ?_
                            refine r_msk [false, false, false, true, true] rfl ?_
                            exact s_X9_joined_212 _ _ h
                          · refine r_swc h (fun h => ?_) (fun h => ?_)
                            · refine r_iload_n rfl rfl ?_
                              refine r_if_ne 107 rfl (by decide) h (fun h => ?_) (fun h => ?_)
                              · refine r_lconst (v := 0) rfl (by decide) ?_
                                refine r_goto 111 rfl (by decide) ?_
                                refine r_lstore_n (lo' := [some (.int i0), some (.int i1), some (.int i2), some (.long (0 : Int64)), none]) rfl rfl rfl rfl ?_
                                refine r_goto 212 rfl (by decide) ?_
                                refine r_msk [false, false, false, true, true] rfl ?_
                                exact s_X9_joined_212 _ _ h
                              · refine r_iload_n rfl rfl ?_
                                refine r_iload_n rfl rfl ?_
                                refine r_idiv rfl h (fun h => ?_)
                                refine r_i2l rfl ?_
                                refine r_lstore_n (lo' := [some (.int i0), some (.int i1), some (.int i2), some (.long (i1 / i2).toInt64), none]) rfl rfl rfl rfl ?_
                                refine r_goto 212 rfl (by decide) ?_
                                refine r_msk [false, false, false, true, true] rfl ?_
                                exact s_X9_joined_212 _ _ h
                            · refine r_swd ?_
                              refine r_iload_n rfl rfl ?_
                              refine r_iload_n rfl rfl ?_
                              refine r_ior rfl ?_
                              refine r_i2l rfl ?_
                              refine r_lstore_n (lo' := [some (.int i0), some (.int i1), some (.int i2), some (.long (i1 ||| i2).toInt64), none]) rfl rfl rfl rfl ?_
                              refine r_msk [false, false, false, true, true] rfl ?_
                              exact s_X9_joined_212 _ _ h
set_option maxRecDepth 20000 in
theorem dk_X9_value : ∀ pc i, L_X9_value[pc]? = some (some i) → decode prog_11_method_4_code pc = .ok i := dk_of (by decide +kernel)
theorem s_X9_value_106 {d : Nat} {P : Int32 → Mem → Prop} {q8 : Option Nat → Option Nat → Option Nat → Int32 → Int32 → Mem → Option (Int32 × Mem)} (hq8 : ∀ (r0 : Option Nat) (r1 : Option Nat) (r2 : Option Nat) (i3 : Int32) (i4 : Int32) (M : Mem), FQ (q8 r0 r1 r2 i3 i4 M) P → wp Y_X9_value (rmD (d + 1) 0 0) (FM (QI P) 0 0) 0 0 8 [some (va_rf r0), some (va_rf r1), some (va_rf r2), some (.int i3), some (.int i4), none] [] M) (r0 : Option Nat) (r1 : Option Nat) (r2 : Option Nat) (i3 : Int32) (i4 : Int32) (i5 : Int32) (M : Mem) (h : FQ (f_X9_value_106 q8 r0 r1 r2 i3 i4 i5 M) P) : wp Y_X9_value (rmD (d + 1) 0 0) (FM (QI P) 0 0) 0 0 106 [some (va_rf r0), some (va_rf r1), some (va_rf r2), some (.int i3), some (.int i4), some (.int i5)] [] M := by
  unfold f_X9_value_106 at h
  refine r_iload_n rfl rfl ?_
  refine r_iconst (v := 1) rfl (by decide) ?_
  refine r_ic_ge 113 rfl (by decide) h (fun h => ?_) (fun h => ?_)
  · refine r_aload_n rfl rfl ?_
    refine r_getR rfl fl_9_15 rfl h (fun v1 h => ?_)
    refine r_iload_n rfl rfl ?_
    refine r_iconst (v := 1) rfl (by decide) ?_
    refine r_isub rfl ?_
    refine r_iload rfl rfl ?_
    refine r_bipush (v := 19) rfl (by decide) ?_
    refine r_ic_ne 140 rfl (by decide) h (fun h => ?_) (fun h => ?_)
    · refine r_iconst (v := 1) rfl (by decide) ?_
      refine r_aload_n rfl rfl ?_
      refine r_getR rfl fl_9_15 rfl h (fun v2 h => ?_)
      refine r_iload_n rfl rfl ?_
      refine r_iconst (v := 1) rfl (by decide) ?_
      refine r_isub rfl ?_
      refine r_iald rfl h (fun v3 h => ?_)
      refine r_isub rfl ?_
      refine r_goto 149 rfl (by decide) ?_
      refine r_iast rfl h (fun M1 h => ?_)
      refine r_goto 190 rfl (by decide) ?_
      refine r_iinc (v := 1) (lo' := [some (va_rf r0), some (va_rf r1), some (va_rf r2), some (.int i3), some (.int (i4 + (1 : Int32))), some (.int i5)]) rfl rfl rfl (by decide) rfl rfl ?_
      refine r_goto 8 rfl (by decide) ?_
      refine r_msk [true, true, true, true, true, false] rfl ?_
      exact hq8 _ _ _ _ _ _ h
    · refine r_aload_n rfl rfl ?_
      refine r_getR rfl fl_9_15 rfl h (fun v4 h => ?_)
      refine r_iload_n rfl rfl ?_
      refine r_iconst (v := 1) rfl (by decide) ?_
      refine r_isub rfl ?_
      refine r_iald rfl h (fun v5 h => ?_)
      refine r_ineg rfl ?_
      refine r_iast rfl h (fun M2 h => ?_)
      refine r_goto 190 rfl (by decide) ?_
      refine r_iinc (v := 1) (lo' := [some (va_rf r0), some (va_rf r1), some (va_rf r2), some (.int i3), some (.int (i4 + (1 : Int32))), some (.int i5)]) rfl rfl rfl (by decide) rfl rfl ?_
      refine r_goto 8 rfl (by decide) ?_
      refine r_msk [true, true, true, true, true, false] rfl ?_
      exact hq8 _ _ _ _ _ _ h
  · refine r_iconst (v := 0) rfl (by decide) ?_
    exact r_iret rfl rfl ⟨Nat.le_of_ble_eq_true rfl, Nat.le_of_ble_eq_true rfl⟩ h
theorem sb_X9_value_8 {d : Nat} {P : Int32 → Mem → Prop} {q8 : Option Nat → Option Nat → Option Nat → Int32 → Int32 → Mem → Option (Int32 × Mem)} (hq8 : ∀ (r0 : Option Nat) (r1 : Option Nat) (r2 : Option Nat) (i3 : Int32) (i4 : Int32) (M : Mem), FQ (q8 r0 r1 r2 i3 i4 M) P → wp Y_X9_value (rmD (d + 1) 0 0) (FM (QI P) 0 0) 0 0 8 [some (va_rf r0), some (va_rf r1), some (va_rf r2), some (.int i3), some (.int i4), none] [] M) (r0 : Option Nat) (r1 : Option Nat) (r2 : Option Nat) (i3 : Int32) (i4 : Int32) (M : Mem) (h : FQ (b_X9_value_8 q8 r0 r1 r2 i3 i4 M) P) : wp Y_X9_value (rmD (d + 1) 0 0) (FM (QI P) 0 0) 0 0 8 [some (va_rf r0), some (va_rf r1), some (va_rf r2), some (.int i3), some (.int i4), none] [] M := by
  unfold b_X9_value_8 at h
  refine r_iload rfl rfl ?_
  refine r_aload_n rfl rfl ?_
  refine r_getI rfl fl_9_33 rfl h (fun v1 h => ?_)
  refine r_ic_ge 196 rfl (by decide) h (fun h => ?_) (fun h => ?_)
  · refine r_iload_n rfl rfl ?_
    refine r_if_le 211 rfl (by decide) h (fun h => ?_) (fun h => ?_)
    · refine r_iconst (v := 0) rfl (by decide) ?_
      exact r_iret rfl rfl ⟨Nat.le_of_ble_eq_true rfl, Nat.le_of_ble_eq_true rfl⟩ h
    · refine r_aload_n rfl rfl ?_
      refine r_getR rfl fl_9_15 rfl h (fun v2 h => ?_)
      refine r_iload_n rfl rfl ?_
      refine r_iconst (v := 1) rfl (by decide) ?_
      refine r_isub rfl ?_
      refine r_iald rfl h (fun v3 h => ?_)
      refine r_goto 212 rfl (by decide) ?_
      exact r_iret rfl rfl ⟨Nat.le_of_ble_eq_true rfl, Nat.le_of_ble_eq_true rfl⟩ h
  · refine r_iload rfl rfl ?_
    refine r_aload_n rfl rfl ?_
    refine r_getR rfl fl_9_36 rfl h (fun v4 h => ?_)
    refine r_alen rfl h (fun v5 h => ?_)
    refine r_ic_ge 196 rfl (by decide) h (fun h => ?_) (fun h => ?_)
    · refine r_iload_n rfl rfl ?_
      refine r_if_le 211 rfl (by decide) h (fun h => ?_) (fun h => ?_)
      · refine r_iconst (v := 0) rfl (by decide) ?_
        exact r_iret rfl rfl ⟨Nat.le_of_ble_eq_true rfl, Nat.le_of_ble_eq_true rfl⟩ h
      · refine r_aload_n rfl rfl ?_
        refine r_getR rfl fl_9_15 rfl h (fun v6 h => ?_)
        refine r_iload_n rfl rfl ?_
        refine r_iconst (v := 1) rfl (by decide) ?_
        refine r_isub rfl ?_
        refine r_iald rfl h (fun v7 h => ?_)
        refine r_goto 212 rfl (by decide) ?_
        exact r_iret rfl rfl ⟨Nat.le_of_ble_eq_true rfl, Nat.le_of_ble_eq_true rfl⟩ h
    · refine r_aload_n rfl rfl ?_
      refine r_getR rfl fl_9_36 rfl h (fun v8 h => ?_)
      refine r_iload rfl rfl ?_
      refine r_iald rfl h (fun v9 h => ?_)
      refine r_sipush (v := 10000) rfl (by decide) ?_
      refine r_isub rfl ?_
      refine r_istore (lo' := [some (va_rf r0), some (va_rf r1), some (va_rf r2), some (.int i3), some (.int i4), some (.int (v9 - (10000 : Int32)))]) rfl rfl rfl rfl ?_
      refine r_iload rfl rfl ?_
      refine r_bipush (v := 6) rfl (by decide) ?_
      refine r_ic_gt 92 rfl (by decide) h (fun h => ?_) (fun h => ?_)
      · refine r_iload rfl rfl ?_
        refine r_bipush (v := 19) rfl (by decide) ?_
        refine r_ic_eq 106 rfl (by decide) h (fun h => ?_) (fun h => ?_)
        · exact s_X9_value_106 hq8 _ _ _ _ _ _ _ h
        · refine r_iload rfl rfl ?_
          refine r_bipush (v := 37) rfl (by decide) ?_
          refine r_ic_ne 153 rfl (by decide) h (fun h => ?_) (fun h => ?_)
          · exact s_X9_value_106 hq8 _ _ _ _ _ _ _ h
          · refine r_iload_n rfl rfl ?_
            refine r_iconst (v := 2) rfl (by decide) ?_
            refine r_ic_ge 160 rfl (by decide) h (fun h => ?_) (fun h => ?_)
            · refine r_iinc (v := -1) (lo' := [some (va_rf r0), some (va_rf r1), some (va_rf r2), some (.int (i3 + (-1 : Int32))), some (.int i4), some (.int (v9 - (10000 : Int32)))]) rfl rfl rfl (by decide) (by simp [stOk, cat_rf]) rfl ?_
              refine r_aload_n rfl rfl ?_
              refine r_getR rfl fl_9_15 rfl h (fun v10 h => ?_)
              refine r_iload_n rfl rfl ?_
              refine r_iconst (v := 1) rfl (by decide) ?_
              refine r_isub rfl ?_
              refine r_iload rfl rfl ?_
              refine r_aload_n rfl rfl ?_
              refine r_getR rfl fl_9_15 rfl h (fun v11 h => ?_)
              refine r_iload_n rfl rfl ?_
              refine r_iconst (v := 1) rfl (by decide) ?_
              refine r_isub rfl ?_
              refine r_iald rfl h (fun v12 h => ?_)
              refine r_aload_n rfl rfl ?_
              refine r_getR rfl fl_9_15 rfl h (fun v13 h => ?_)
              refine r_iload_n rfl rfl ?_
              refine r_iald rfl h (fun v14 h => ?_)
              refine r_cs_i (vs := [.int (v9 - (10000 : Int32)), .int v12, .int v14]) rfl ml_9_41 (rOk.of rfl) ⟨Nat.zero_le _, Nat.zero_le _⟩ rfl rfl rfl h s_X9_joined (fun v15 M1 h => ?_)
              refine r_iast rfl h (fun M2 h => ?_)
              refine r_iinc (v := 1) (lo' := [some (va_rf r0), some (va_rf r1), some (va_rf r2), some (.int (i3 + (-1 : Int32))), some (.int (i4 + (1 : Int32))), some (.int (v9 - (10000 : Int32)))]) rfl rfl rfl (by decide) rfl rfl ?_
              refine r_goto 8 rfl (by decide) ?_
              refine r_msk [true, true, true, true, true, false] rfl ?_
              exact hq8 _ _ _ _ _ _ h
            · refine r_iconst (v := 0) rfl (by decide) ?_
              exact r_iret rfl rfl ⟨Nat.le_of_ble_eq_true rfl, Nat.le_of_ble_eq_true rfl⟩ h
      · refine r_iload_n rfl rfl ?_
        refine r_aload_n rfl rfl ?_
        refine r_getR rfl fl_9_15 rfl h (fun v16 h => ?_)
        refine r_alen rfl h (fun v17 h => ?_)
        refine r_ic_lt 58 rfl (by decide) h (fun h => ?_) (fun h => ?_)
        · refine r_aload_n rfl rfl ?_
          refine r_getR rfl fl_9_15 rfl h (fun v18 h => ?_)
          refine r_iload_n rfl rfl ?_
          refine r_iload rfl rfl ?_
          refine r_if_ge 78 rfl (by decide) h (fun h => ?_) (fun h => ?_)
          · refine r_aload_n rfl rfl ?_
            refine r_getR rfl fl_9_9 rfl h (fun v19 h => ?_)
            refine r_iload rfl rfl ?_
            refine r_iald rfl h (fun v20 h => ?_)
            refine r_iast rfl h (fun M3 h => ?_)
            refine r_iinc (v := 1) (lo' := [some (va_rf r0), some (va_rf r1), some (va_rf r2), some (.int (i3 + (1 : Int32))), some (.int i4), some (.int (v9 - (10000 : Int32)))]) rfl rfl rfl (by decide) (by simp [stOk, cat_rf]) rfl ?_
            refine r_goto 190 rfl (by decide) ?_
            refine r_iinc (v := 1) (lo' := [some (va_rf r0), some (va_rf r1), some (va_rf r2), some (.int (i3 + (1 : Int32))), some (.int (i4 + (1 : Int32))), some (.int (v9 - (10000 : Int32)))]) rfl rfl rfl (by decide) rfl rfl ?_
            refine r_goto 8 rfl (by decide) ?_
            refine r_msk [true, true, true, true, true, false] rfl ?_
            exact hq8 _ _ _ _ _ _ h
          · refine r_aload_n rfl rfl ?_
            refine r_getR rfl fl_9_36 rfl h (fun v21 h => ?_)
            refine r_iload rfl rfl ?_
            refine r_iald rfl h (fun v22 h => ?_)
            refine r_goto 85 rfl (by decide) ?_
            refine r_iast rfl h (fun M4 h => ?_)
            refine r_iinc (v := 1) (lo' := [some (va_rf r0), some (va_rf r1), some (va_rf r2), some (.int (i3 + (1 : Int32))), some (.int i4), some (.int (v9 - (10000 : Int32)))]) rfl rfl rfl (by decide) (by simp [stOk, cat_rf]) rfl ?_
            refine r_goto 190 rfl (by decide) ?_
            refine r_iinc (v := 1) (lo' := [some (va_rf r0), some (va_rf r1), some (va_rf r2), some (.int (i3 + (1 : Int32))), some (.int (i4 + (1 : Int32))), some (.int (v9 - (10000 : Int32)))]) rfl rfl rfl (by decide) rfl rfl ?_
            refine r_goto 8 rfl (by decide) ?_
            refine r_msk [true, true, true, true, true, false] rfl ?_
            exact hq8 _ _ _ _ _ _ h
        · refine r_iconst (v := 0) rfl (by decide) ?_
          exact r_iret rfl rfl ⟨Nat.le_of_ble_eq_true rfl, Nat.le_of_ble_eq_true rfl⟩ h
theorem s_X9_value_8 {d : Nat} {P : Int32 → Mem → Prop}   : ∀ (k : Nat) (r0 : Option Nat) (r1 : Option Nat) (r2 : Option Nat) (i3 : Int32) (i4 : Int32) (M : Mem), FQ (f_X9_value_8  k r0 r1 r2 i3 i4 M) P → wp Y_X9_value (rmD (d + 1) 0 0) (FM (QI P) 0 0) 0 0 8 [some (va_rf r0), some (va_rf r1), some (va_rf r2), some (.int i3), some (.int i4), none] [] M
  | 0, _, _, _, _, _, _, h => h.no
  | k + 1, r0, r1, r2, i3, i4, M, h => sb_X9_value_8  (s_X9_value_8  k) r0 r1 r2 i3 i4 M h
theorem s_X9_value {d : Nat} {P : Int32 → Mem → Prop} {r0 : Option Nat} {r1 : Option Nat} {r2 : Option Nat} {M : Mem} (h : FQ (f_X9_value r0 r1 r2 M) P) : Con Y_X9_value (d + 1) 0 0 [va_rf r0, va_rf r1, va_rf r2] M (QI P) := by
  refine Con.of [some (va_rf r0), some (va_rf r1), some (va_rf r2), none, none, none] (by decide +kernel) dk_X9_value (by simp [Y_X9_value, cat_rf, cat_i, cat_l]) (by simp [loE, Y_X9_value, cat_rf, cat_i, cat_l, List.replicate]) ?_
  unfold f_X9_value at h
  refine r_iconst (v := 0) rfl (by decide) ?_
  refine r_istore_n (lo' := [some (va_rf r0), some (va_rf r1), some (va_rf r2), some (.int (0 : Int32)), none, none]) rfl rfl (by simp [stOk, cat_rf]) rfl ?_
  refine r_aload_n rfl rfl ?_
  refine r_getI rfl fl_9_28 rfl h (fun v1 h => ?_)
  refine r_istore (lo' := [some (va_rf r0), some (va_rf r1), some (va_rf r2), some (.int (0 : Int32)), some (.int v1), none]) rfl rfl rfl rfl ?_
  exact s_X9_value_8 FU _ _ _ _ _ _ h
