/-! walked by program (wip/gen): X2_consider X4_sideOf X4_pieces X9_look X2_look X2_tooFew X4_stock X11_isOver X4_setCell -/
def L_X2_consider : List (Option (Instr × Nat)) := [some (.aload_n 1, 1), some (.iload 4, 2), none, some (.invokevirtual 50, 3), none, none, some (.iconst 1, 1), some (.isub, 1), some (.iconst 4, 1), some (.irem, 1), some (.istore 5, 2), none, some (.aload_n 2, 1), some (.getfield 61, 3), none, none, some (.iload_n 3, 1), some (.aaload, 1), some (.astore 6, 2), none, some (.aload 6, 2), none, some (.ifnull 187, 3), none, none, some (.aload 6, 2), none, some (.getfield 71, 3), none, none, some (.iload 5, 2), none, some (.if_icmp .ne 15, 3), none, none, some (.aload_n 0, 1), some (.aload_n 1, 1), some (.aload 6, 2), none, some (.iload 4, 2), none, some (.invokevirtual 76, 3), none, none, some (.goto 4, 3), none, none, some (.iconst (-1), 1), some (.istore 7, 2), none, some (.iload 7, 2), none, some (.iconst (-1), 1), some (.if_icmp .ne 6, 3), none, none, some (.goto 143, 3), none, none, some (.aload_n 0, 1), some (.getfield 31, 3), none, none, some (.iload_n 3, 1), some (.aload_n 1, 1), some (.iload_n 3, 1), some (.invokevirtual 80, 3), none, none, some (.iload 4, 2), none, some (.iload 7, 2), none, some (.invokevirtual 83, 3), none, none, some (.aload 6, 2), none, some (.invokevirtual 87, 3), none, none, some (.ifCond .eq 19, 3), none, none, some (.aload_n 0, 1), some (.getfield 31, 3), none, none, some (.aload_n 2, 1), some (.aload 6, 2), none, some (.invokevirtual 91, 3), none, none, some (.ifCond .ne 6, 3), none, none, some (.goto 102, 3), none, none, some (.aload_n 2, 1), some (.bipush 12, 2), none, some (.invokevirtual 95, 3), none, none, some (.astore 8, 2), none, some (.aload 8, 2), none, some (.ifnonnull 7, 3), none, none, some (.iconst 0, 1), some (.goto 13, 3), none, none, some (.aload_n 0, 1), some (.getfield 31, 3), none, none, some (.aload_n 2, 1), some (.aload 8, 2), none, some (.invokevirtual 91, 3), none, none, some (.istore 9, 2), none, some (.aload_n 0, 1), some (.getfield 35, 3), none, none, some (.iconst 1, 1), some (.iload_n 3, 1), some (.ishl, 1), some (.iand, 1), some (.ifCond .eq 14, 3), none, none, some (.iload 9, 2), none, some (.aload_n 0, 1), some (.getfield 21, 3), none, none, some (.iload_n 3, 1), some (.iaload, 1), some (.if_icmp .le 50, 3), none, none, some (.aload_n 0, 1), some (.dup, 1), some (.getfield 35, 3), none, none, some (.iconst 1, 1), some (.iload_n 3, 1), some (.ishl, 1), some (.ior, 1), some (.putfield 35, 3), none, none, some (.aload_n 0, 1), some (.getfield 21, 3), none, none, some (.iload_n 3, 1), some (.iload 9, 2), none, some (.iastore, 1), some (.aload_n 0, 1), some (.getfield 9, 3), none, none, some (.iload_n 3, 1), some (.iload 4, 2), none, some (.iastore, 1), some (.aload_n 0, 1), some (.getfield 15, 3), none, none, some (.iload_n 3, 1), some (.iload 7, 2), none, some (.iastore, 1), some (.aload_n 0, 1), some (.getfield 18, 3), none, none, some (.iload_n 3, 1), some (.aload 6, 2), none, some (.getfield 99, 3), none, none, some (.iastore, 1), some (.return_, 1), some (.aload 6, 2), none, some (.getfield 102, 3), none, none, some (.astore 6, 2), none, some (.goto (-186), 3), none, none, some (.return_, 1)]
def Y_X2_consider : YM := (⟨RX2, "consider", "(LGameOfNoes$Position;LGameOfNoes$Rules;II)V"⟩, prog_4_method_4_code, L_X2_consider, 10, none)
def f_X2_consider_151  (r0 : Option Nat) (i3 : Int32) (i4 : Int32) (r6 : Option Nat) (i7 : Int32) (i9 : Int32) (M : Mem) : Option (Unit × Mem) :=
gI M r0 2 3 fun v1 =>
pI M r0 2 3 (v1 ||| ((1 : Int32) <<< (i3 &&& 31))) fun M1 =>
gR M1 r0 2 6 fun v2 =>
wI M1 v2 2 i3 i9 fun M2 =>
gR M2 r0 2 0 fun v3 =>
wI M2 v3 2 i3 i4 fun M3 =>
gR M3 r0 2 1 fun v4 =>
wI M3 v4 2 i3 i7 fun M4 =>
gR M4 r0 2 2 fun v5 =>
gI M4 r6 1 0 fun v6 =>
wI M4 v5 2 i3 v6 fun M5 =>
some ((), M5)
def f_X2_consider_127  (r0 : Option Nat) (i3 : Int32) (i4 : Int32) (r6 : Option Nat) (i7 : Int32) (si0 : Int32) (M : Mem) : Option (Unit × Mem) :=
gI M r0 2 3 fun v1 =>
(if (v1 &&& ((1 : Int32) <<< (i3 &&& 31))) = 0 then
f_X2_consider_151 r0 i3 i4 r6 i7 si0 M
else
gR M r0 2 6 fun v2 =>
aI M v2 2 i3 fun v3 =>
(if si0 ≤ v3 then
some ((), M)
else
f_X2_consider_151 r0 i3 i4 r6 i7 si0 M))
def f_X2_consider_100  (r0 : Option Nat) (r2 : Option Nat) (i3 : Int32) (i4 : Int32) (r6 : Option Nat) (i7 : Int32) (M : Mem) : Option (Unit × Mem) :=
cR M r2 (1, 6) (cA (f_X6_singleOf r2 (12 : Int32) M) fun v1 M1 =>
(if v1 = none then
f_X2_consider_127 r0 i3 i4 r6 i7 (0 : Int32) M1
else
gR M1 r0 2 7 fun v2 =>
cR M1 v2 (1, 9) (cA (f_X9_value v2 r2 v1 M1) fun v3 M2 =>
f_X2_consider_127 r0 i3 i4 r6 i7 v3 M2)))
def f_X2_consider_48 (q20 : Option Nat → Option Nat → Option Nat → Int32 → Int32 → Int32 → Option Nat → Mem → Option (Unit × Mem)) (r0 : Option Nat) (r1 : Option Nat) (r2 : Option Nat) (i3 : Int32) (i4 : Int32) (i5 : Int32) (r6 : Option Nat) (si0 : Int32) (M : Mem) : Option (Unit × Mem) :=
(if si0 = (-1 : Int32) then
gR M r6 1 8 fun v1 =>
q20 r0 r1 r2 i3 i4 i5 v1 M
else
gR M r0 2 7 fun v2 =>
cR M r1 (1, 4) (cA (f_X4_count r1 i3 M) fun v3 M1 =>
cR M1 v2 (1, 9) (cA (f_X9_aim v2 i3 v3 i4 si0 M1) fun _ M2 =>
cR M2 r6 (1, 1) (cA (f_X1_hasCode r6 M2) fun v4 M3 =>
(if v4 = 0 then
f_X2_consider_100 r0 r2 i3 i4 r6 si0 M3
else
gR M3 r0 2 7 fun v5 =>
cR M3 v5 (1, 9) (cA (f_X9_value v5 r2 r6 M3) fun v6 M4 =>
(if v6 = 0 then
gR M4 r6 1 8 fun v7 =>
q20 r0 r1 r2 i3 i4 i5 v7 M4
else
f_X2_consider_100 r0 r2 i3 i4 r6 si0 M4)))))))
def b_X2_consider_20 (q20 : Option Nat → Option Nat → Option Nat → Int32 → Int32 → Int32 → Option Nat → Mem → Option (Unit × Mem)) (r0 : Option Nat) (r1 : Option Nat) (r2 : Option Nat) (i3 : Int32) (i4 : Int32) (i5 : Int32) (r6 : Option Nat) (M : Mem) : Option (Unit × Mem) :=
(if r6 = none then
some ((), M)
else
gI M r6 1 4 fun v1 =>
(if v1 = i5 then
cR M r0 (1, 2) (cA (f_X2_goal r0 r1 r6 i4 M) fun v2 M1 =>
f_X2_consider_48 q20 r0 r1 r2 i3 i4 i5 r6 v2 M1)
else
f_X2_consider_48 q20 r0 r1 r2 i3 i4 i5 r6 (-1 : Int32) M))
def f_X2_consider_20 (n : Nat) : Option Nat → Option Nat → Option Nat → Int32 → Int32 → Int32 → Option Nat → Mem → Option (Unit × Mem) := lpN (fun _ _ _ _ _ _ _ _ => none) (b_X2_consider_20 ) n
def f_X2_consider (r0 : Option Nat) (r1 : Option Nat) (r2 : Option Nat) (i3 : Int32) (i4 : Int32) (M : Mem) : Option (Unit × Mem) :=
cR M r1 (1, 4) (cA (f_X4_cell r1 i4 M) fun v1 M1 =>
nzI (4 : Int32) (
gR M1 r2 6 1 fun v2 =>
aR M1 v2 6 i3 fun v3 =>
f_X2_consider_20 FU r0 r1 r2 i3 i4 ((v1 - (1 : Int32)) - (v1 - (1 : Int32)) / (4 : Int32) * (4 : Int32)) v3 M1))
def L_X4_sideOf : List (Option (Instr × Nat)) := [some (.iload_n 0, 1), some (.ifCond .ne 7, 3), none, none, some (.iconst (-1), 1), some (.goto 8, 3), none, none, some (.iload_n 0, 1), some (.iconst 1, 1), some (.isub, 1), some (.iconst 4, 1), some (.idiv, 1), some (.ireturn, 1)]
def Y_X4_sideOf : YM := (⟨RX4, "sideOf", "(I)I"⟩, prog_6_method_7_code, L_X4_sideOf, 1, some .int)
def f_X4_sideOf (i0 : Int32) (M : Mem) : Option (Int32 × Mem) :=
(if i0 = 0 then
some ((-1 : Int32), M)
else
nzI (4 : Int32) (
some (((i0 - (1 : Int32)) / (4 : Int32)), M)))
def L_X4_pieces : List (Option (Instr × Nat)) := [some (.iconst 0, 1), some (.istore_n 2, 1), some (.iconst 0, 1), some (.istore_n 3, 1), some (.iload_n 3, 1), some (.bipush 12, 2), none, some (.if_icmp .ge 24, 3), none, none, some (.aload_n 0, 1), some (.iload_n 3, 1), some (.invokevirtual 28, 3), none, none, some (.invokestatic 32, 3), none, none, some (.iload_n 1, 1), some (.if_icmp .ne 6, 3), none, none, some (.iinc 2 1, 3), none, none, some (.iinc 3 1, 3), none, none, some (.goto (-24), 3), none, none, some (.iload_n 2, 1), some (.ireturn, 1)]
def Y_X4_pieces : YM := (⟨RX4, "pieces", "(I)I"⟩, prog_6_method_8_code, L_X4_pieces, 4, some .int)
def b_X4_pieces_4 (q4 : Option Nat → Int32 → Int32 → Int32 → Mem → Option (Int32 × Mem)) (r0 : Option Nat) (i1 : Int32) (i2 : Int32) (i3 : Int32) (M : Mem) : Option (Int32 × Mem) :=
(if (12 : Int32) ≤ i3 then
some (i2, M)
else
cR M r0 (1, 4) (cA (f_X4_cell r0 i3 M) fun v1 M1 =>
cA (f_X4_sideOf v1 M1) fun v2 M2 =>
(if v2 = i1 then
q4 r0 i1 (i2 + (1 : Int32)) (i3 + (1 : Int32)) M2
else
q4 r0 i1 i2 (i3 + (1 : Int32)) M2)))
def f_X4_pieces_4 (n : Nat) : Option Nat → Int32 → Int32 → Int32 → Mem → Option (Int32 × Mem) := lpN (fun _ _ _ _ _ => none) (b_X4_pieces_4 ) n
def f_X4_pieces (r0 : Option Nat) (i1 : Int32) (M : Mem) : Option (Int32 × Mem) :=
f_X4_pieces_4 FU r0 i1 (0 : Int32) (0 : Int32) M
def L_X9_look : List (Option (Instr × Nat)) := [some (.aload_n 0, 1), some (.getfield 9, 3), none, none, some (.bipush 6, 2), none, some (.aload_n 1, 1), some (.getfield 18, 3), none, none, some (.iastore, 1), some (.aload_n 0, 1), some (.getfield 9, 3), none, none, some (.iconst 4, 1), some (.aload_n 1, 1), some (.aload_n 1, 1), some (.getfield 18, 3), none, none, some (.invokevirtual 24, 3), none, none, some (.iastore, 1), some (.aload_n 0, 1), some (.getfield 9, 3), none, none, some (.iconst 5, 1), some (.aload_n 1, 1), some (.iconst 1, 1), some (.aload_n 1, 1), some (.getfield 18, 3), none, none, some (.isub, 1), some (.invokevirtual 24, 3), none, none, some (.iastore, 1), some (.return_, 1)]
def Y_X9_look : YM := (⟨RX9, "look", "(LGameOfNoes$Position;)V"⟩, prog_11_method_2_code, L_X9_look, 2, none)
def f_X9_look (r0 : Option Nat) (r1 : Option Nat) (M : Mem) : Option (Unit × Mem) :=
gR M r0 9 0 fun v1 =>
gI M r1 4 2 fun v2 =>
wI M v1 2 (6 : Int32) v2 fun M1 =>
gR M1 r0 9 0 fun v3 =>
gI M1 r1 4 2 fun v4 =>
cR M1 r1 (1, 4) (cA (f_X4_pieces r1 v4 M1) fun v5 M2 =>
wI M2 v3 2 (4 : Int32) v5 fun M3 =>
gR M3 r0 9 0 fun v6 =>
gI M3 r1 4 2 fun v7 =>
cR M3 r1 (1, 4) (cA (f_X4_pieces r1 ((1 : Int32) - v7) M3) fun v8 M4 =>
wI M4 v6 2 (5 : Int32) v8 fun M5 =>
some ((), M5)))
def L_X2_look : List (Option (Instr × Nat)) := [some (.aload_n 0, 1), some (.iconst 0, 1), some (.putfield 35, 3), none, none, some (.aload_n 0, 1), some (.getfield 31, 3), none, none, some (.aload_n 1, 1), some (.invokevirtual 44, 3), none, none, some (.iconst 0, 1), some (.istore 4, 2), none, some (.iload 4, 2), none, some (.aload_n 0, 1), some (.getfield 24, 3), none, none, some (.if_icmp .ge 73, 3), none, none, some (.aload_n 1, 1), some (.iload 4, 2), none, some (.invokevirtual 50, 3), none, none, some (.invokestatic 55, 3), none, none, some (.aload_n 1, 1), some (.getfield 58, 3), none, none, some (.if_icmp .eq 6, 3), none, none, some (.goto 48, 3), none, none, some (.iconst 0, 1), some (.istore 5, 2), none, some (.iload 5, 2), none, some (.bipush 8, 2), none, some (.if_icmp .ge 38, 3), none, none, some (.iload_n 3, 1), some (.iconst 1, 1), some (.iload 5, 2), none, some (.ishl, 1), some (.iand, 1), some (.ifCond .eq 23, 3), none, none, some (.aload_n 2, 1), some (.getfield 61, 3), none, none, some (.iload 5, 2), none, some (.aaload, 1), some (.ifnull 13, 3), none, none, some (.aload_n 0, 1), some (.aload_n 1, 1), some (.aload_n 2, 1), some (.iload 5, 2), none, some (.iload 4, 2), none, some (.invokevirtual 67, 3), none, none, some (.iinc 5 1, 3), none, none, some (.goto (-39), 3), none, none, some (.iinc 4 1, 3), none, none, some (.goto (-76), 3), none, none, some (.return_, 1)]
def Y_X2_look : YM := (⟨RX2, "look", "(LGameOfNoes$Position;LGameOfNoes$Rules;I)V"⟩, prog_4_method_3_code, L_X2_look, 6, none)
def b_X2_look_47 (q16 : Option Nat → Option Nat → Option Nat → Int32 → Int32 → Mem → Option (Unit × Mem)) (q47 : Option Nat → Option Nat → Option Nat → Int32 → Int32 → Int32 → Mem → Option (Unit × Mem)) (r0 : Option Nat) (r1 : Option Nat) (r2 : Option Nat) (i3 : Int32) (i4 : Int32) (i5 : Int32) (M : Mem) : Option (Unit × Mem) :=
(if (8 : Int32) ≤ i5 then
q16 r0 r1 r2 i3 (i4 + (1 : Int32)) M
else
(if (i3 &&& ((1 : Int32) <<< (i5 &&& 31))) = 0 then
q47 r0 r1 r2 i3 i4 (i5 + (1 : Int32)) M
else
gR M r2 6 1 fun v1 =>
aR M v1 6 i5 fun v2 =>
(if v2 = none then
q47 r0 r1 r2 i3 i4 (i5 + (1 : Int32)) M
else
cR M r0 (1, 2) (cA (f_X2_consider r0 r1 r2 i5 i4 M) fun _ M1 =>
q47 r0 r1 r2 i3 i4 (i5 + (1 : Int32)) M1))))
def f_X2_look_47 (q16 : Option Nat → Option Nat → Option Nat → Int32 → Int32 → Mem → Option (Unit × Mem)) (n : Nat) : Option Nat → Option Nat → Option Nat → Int32 → Int32 → Int32 → Mem → Option (Unit × Mem) := lpN (fun _ _ _ _ _ _ _ => none) (b_X2_look_47 q16) n
def b_X2_look_16 (q16 : Option Nat → Option Nat → Option Nat → Int32 → Int32 → Mem → Option (Unit × Mem)) (r0 : Option Nat) (r1 : Option Nat) (r2 : Option Nat) (i3 : Int32) (i4 : Int32) (M : Mem) : Option (Unit × Mem) :=
gI M r0 2 4 fun v1 =>
(if v1 ≤ i4 then
some ((), M)
else
cR M r1 (1, 4) (cA (f_X4_cell r1 i4 M) fun v2 M1 =>
cA (f_X4_sideOf v2 M1) fun v3 M2 =>
gI M2 r1 4 2 fun v4 =>
(if v3 = v4 then
f_X2_look_47 q16 FU r0 r1 r2 i3 i4 (0 : Int32) M2
else
q16 r0 r1 r2 i3 (i4 + (1 : Int32)) M2)))
def f_X2_look_16 (n : Nat) : Option Nat → Option Nat → Option Nat → Int32 → Int32 → Mem → Option (Unit × Mem) := lpN (fun _ _ _ _ _ _ => none) (b_X2_look_16 ) n
def f_X2_look (r0 : Option Nat) (r1 : Option Nat) (r2 : Option Nat) (i3 : Int32) (M : Mem) : Option (Unit × Mem) :=
pI M r0 2 3 (0 : Int32) fun M1 =>
gR M1 r0 2 7 fun v1 =>
cR M1 v1 (1, 9) (cA (f_X9_look v1 r1 M1) fun _ M2 =>
f_X2_look_16 FU r0 r1 r2 i3 (0 : Int32) M2)
def L_X2_tooFew : List (Option (Instr × Nat)) := [some (.aload_n 0, 1), some (.getfield 35, 3), none, none, some (.invokestatic 38, 3), none, none, some (.iconst 3, 1), some (.if_icmp .ge 7, 3), none, none, some (.iconst 1, 1), some (.goto 4, 3), none, none, some (.iconst 0, 1), some (.ireturn, 1)]
def Y_X2_tooFew : YM := (⟨RX2, "tooFew", "()Z"⟩, prog_4_method_2_code, L_X2_tooFew, 1, some .boolean)
def f_X2_tooFew (r0 : Option Nat) (M : Mem) : Option (Int32 × Mem) :=
gI M r0 2 3 fun v1 =>
cA (f_J6_bitCount_0f7a4 v1 M) fun v2 M1 =>
(if (3 : Int32) ≤ v2 then
tv (0 : Int32) (some ((0 : Int32), M1))
else
tv (1 : Int32) (some ((1 : Int32), M1)))
def L_X4_stock : List (Option (Instr × Nat)) := [some (.iconst 0, 1), some (.istore_n 1, 1), some (.iconst 0, 1), some (.istore_n 2, 1), some (.iload_n 2, 1), some (.bipush 8, 2), none, some (.if_icmp .ge 23, 3), none, none, some (.aload_n 0, 1), some (.iload_n 2, 1), some (.invokevirtual 35, 3), none, none, some (.ifCond .le 9, 3), none, none, some (.iload_n 1, 1), some (.iconst 1, 1), some (.iload_n 2, 1), some (.ishl, 1), some (.ior, 1), some (.istore_n 1, 1), some (.iinc 2 1, 3), none, none, some (.goto (-23), 3), none, none, some (.iload_n 1, 1), some (.ireturn, 1)]
def Y_X4_stock : YM := (⟨RX4, "stock", "()I"⟩, prog_6_method_11_code, L_X4_stock, 3, some .int)
def b_X4_stock_4 (q4 : Option Nat → Int32 → Int32 → Mem → Option (Int32 × Mem)) (r0 : Option Nat) (i1 : Int32) (i2 : Int32) (M : Mem) : Option (Int32 × Mem) :=
(if (8 : Int32) ≤ i2 then
some (i1, M)
else
cR M r0 (1, 4) (cA (f_X4_count r0 i2 M) fun v1 M1 =>
(if v1 ≤ 0 then
q4 r0 i1 (i2 + (1 : Int32)) M1
else
q4 r0 (i1 ||| ((1 : Int32) <<< (i2 &&& 31))) (i2 + (1 : Int32)) M1)))
def f_X4_stock_4 (n : Nat) : Option Nat → Int32 → Int32 → Mem → Option (Int32 × Mem) := lpN (fun _ _ _ _ => none) (b_X4_stock_4 ) n
def f_X4_stock (r0 : Option Nat) (M : Mem) : Option (Int32 × Mem) :=
f_X4_stock_4 FU r0 (0 : Int32) (0 : Int32) M
def L_X11_isOver : List (Option (Instr × Nat)) := [some (.aload_n 0, 1), some (.getfield 83, 3), none, none, some (.aload_n 1, 1), some (.aload_n 0, 1), some (.aload_n 0, 1), some (.getfield 10, 3), none, none, some (.getfield 156, 3), none, none, some (.invokevirtual 162, 3), none, none, some (.aload_n 1, 1), some (.invokevirtual 182, 3), none, none, some (.invokevirtual 166, 3), none, none, some (.aload_n 0, 1), some (.getfield 83, 3), none, none, some (.invokevirtual 295, 3), none, none, some (.ireturn, 1)]
def Y_X11_isOver : YM := (⟨RX11, "isOver", "(LGameOfNoes$Position;)Z"⟩, prog_1_method_37_code, L_X11_isOver, 2, some .boolean)
def f_X11_isOver (r0 : Option Nat) (r1 : Option Nat) (M : Mem) : Option (Int32 × Mem) :=
gR M r0 11 8 fun v1 =>
gR M r0 11 2 fun v2 =>
gI M v2 7 5 fun v3 =>
cR M r0 (1, 11) (cA (f_X11_rules r0 v3 M) fun v4 M1 =>
cR M1 r1 (1, 4) (cA (f_X4_stock r1 M1) fun v5 M2 =>
cR M2 v1 (1, 2) (cA (f_X2_look v1 r1 v4 v5 M2) fun _ M3 =>
gR M3 r0 11 8 fun v6 =>
cR M3 v6 (1, 2) (cA (f_X2_tooFew v6 M3) fun v7 M4 =>
tv v7 (some (v7, M4))))))
def L_X4_setCell : List (Option (Instr × Nat)) := [some (.aload_n 0, 1), some (.aload_n 0, 1), some (.getfield 9, 3), none, none, some (.ldc2_w 24, 3), none, none, some (.iconst 4, 1), some (.iload_n 1, 1), some (.imul, 1), some (.lshl, 1), some (.ldc2_w 26, 3), none, none, some (.lxor, 1), some (.land, 1), some (.iload_n 2, 1), some (.i2l, 1), some (.iconst 4, 1), some (.iload_n 1, 1), some (.imul, 1), some (.lshl, 1), some (.lor, 1), some (.putfield 9, 3), none, none, some (.return_, 1)]
def Y_X4_setCell : YM := (⟨RX4, "setCell", "(II)V"⟩, prog_6_method_6_code, L_X4_setCell, 3, none)
def f_X4_setCell (r0 : Option Nat) (i1 : Int32) (i2 : Int32) (M : Mem) : Option (Unit × Mem) :=
gL M r0 4 0 fun v1 =>
pL M r0 4 0 ((v1 &&& (((15 : Int64) <<< (((4 : Int32) * i1).toInt64 &&& 63)) ^^^ (-1 : Int64))) ||| (i2.toInt64 <<< (((4 : Int32) * i1).toInt64 &&& 63))) fun M1 =>
some ((), M1)
theorem fl_2_35 : FLk RX2 35 2 3 false := ⟨_, rfl, by decide, (gw_in 249 (by decide +kernel) (by decide +kernel)), rfl⟩
theorem fl_2_21 : FLk RX2 21 2 6 true := ⟨_, rfl, by decide, (gw_in 255 (by decide +kernel) (by decide +kernel)), rfl⟩
theorem fl_2_9 : FLk RX2 9 2 0 true := ⟨_, rfl, by decide, (gw_in 241 (by decide +kernel) (by decide +kernel)), rfl⟩
theorem fl_2_15 : FLk RX2 15 2 1 true := ⟨_, rfl, by decide, (gw_in 244 (by decide +kernel) (by decide +kernel)), rfl⟩
theorem fl_2_18 : FLk RX2 18 2 2 true := ⟨_, rfl, by decide, (gw_in 247 (by decide +kernel) (by decide +kernel)), rfl⟩
theorem fl_2_99 : FLk RX2 99 1 0 true := ⟨_, rfl, by decide, (gw_in 101 (by decide +kernel) (by decide +kernel)), rfl⟩
set_option maxRecDepth 30000 in
theorem ok_X6_singleOf : okY Y_X6_singleOf := ⟨(gw_in 642 rfl rfl), (gw_in 4 (by decide +kernel) (by decide +kernel)), by decide +kernel, by decide +kernel⟩
theorem ml_2_95 : MLv RX2 95 Y_X6_singleOf 1 := ⟨(gw_in 769 (by decide +kernel) (by decide +kernel)), (gw_in 640 (by decide +kernel) (by decide +kernel)), (gw_in 641 (by decide +kernel) (by decide +kernel)), ok_X6_singleOf, by decide +kernel⟩
theorem fl_2_31 : FLk RX2 31 2 7 true := ⟨_, rfl, by decide, (gw_in 256 (by decide +kernel) (by decide +kernel)), rfl⟩
set_option maxRecDepth 30000 in
theorem ok_X9_value : okY Y_X9_value := ⟨(gw_in 761 rfl rfl), (gw_in 9 (by decide +kernel) (by decide +kernel)), by decide +kernel, by decide +kernel⟩
theorem ml_2_91 : MLv RX2 91 Y_X9_value 2 := ⟨(gw_in 758 (by decide +kernel) (by decide +kernel)), (gw_in 759 (by decide +kernel) (by decide +kernel)), (gw_in 760 (by decide +kernel) (by decide +kernel)), ok_X9_value, by decide +kernel⟩
theorem fl_2_102 : FLk RX2 102 1 8 false := ⟨_, rfl, by decide, (gw_in 118 (by decide +kernel) (by decide +kernel)), rfl⟩
theorem ml_2_80 : MLv RX2 80 Y_X4_count 1 := ⟨(gw_in 746 (by decide +kernel) (by decide +kernel)), (gw_in 747 (by decide +kernel) (by decide +kernel)), (gw_in 748 (by decide +kernel) (by decide +kernel)), ok_X4_count, by decide +kernel⟩
set_option maxRecDepth 30000 in
theorem ok_X9_aim : okY Y_X9_aim := ⟨(gw_in 753 rfl rfl), (gw_in 9 (by decide +kernel) (by decide +kernel)), by decide +kernel, by decide +kernel⟩
theorem ml_2_83 : MLv RX2 83 Y_X9_aim 4 := ⟨(gw_in 750 (by decide +kernel) (by decide +kernel)), (gw_in 751 (by decide +kernel) (by decide +kernel)), (gw_in 752 (by decide +kernel) (by decide +kernel)), ok_X9_aim, by decide +kernel⟩
set_option maxRecDepth 30000 in
theorem ok_X1_hasCode : okY Y_X1_hasCode := ⟨(gw_in 757 rfl rfl), (gw_in 5 (by decide +kernel) (by decide +kernel)), by decide +kernel, by decide +kernel⟩
theorem ml_2_87 : MLv RX2 87 Y_X1_hasCode 0 := ⟨(gw_in 754 (by decide +kernel) (by decide +kernel)), (gw_in 755 (by decide +kernel) (by decide +kernel)), (gw_in 756 (by decide +kernel) (by decide +kernel)), ok_X1_hasCode, by decide +kernel⟩
set_option maxRecDepth 30000 in
theorem ok_X2_goal : okY Y_X2_goal := ⟨(gw_in 741 rfl rfl), (gw_in 10 (by decide +kernel) (by decide +kernel)), by decide +kernel, by decide +kernel⟩
theorem ml_2_76 : MLv RX2 76 Y_X2_goal 3 := ⟨(gw_in 738 (by decide +kernel) (by decide +kernel)), (gw_in 740 (by decide +kernel) (by decide +kernel)), (gw_sel (n := 8) 15 (by decide +kernel) (by decide +kernel)), ok_X2_goal, by decide +kernel⟩
theorem fl_2_61 : FLk RX2 61 6 1 true := ⟨_, rfl, by decide, (gw_in 143 (by decide +kernel) (by decide +kernel)), rfl⟩
theorem ml_4_28 : MLv RX4 28 Y_X4_cell 1 := ⟨(gw_in 725 (by decide +kernel) (by decide +kernel)), (gw_in 726 (by decide +kernel) (by decide +kernel)), (gw_in 727 (by decide +kernel) (by decide +kernel)), ok_X4_cell, by decide +kernel⟩
set_option maxRecDepth 30000 in
theorem ok_X4_sideOf : okY Y_X4_sideOf := ⟨(gw_in 731 rfl rfl), (gw_in 3 (by decide +kernel) (by decide +kernel)), by decide +kernel, by decide +kernel⟩
theorem ml_4_32 : MLs RX4 32 Y_X4_sideOf 1 := ⟨(gw_in 729 (by decide +kernel) (by decide +kernel)), (gw_in 730 (by decide +kernel) (by decide +kernel)), ok_X4_sideOf, by decide +kernel⟩
theorem fl_9_18 : FLk RX9 18 4 2 false := ⟨_, rfl, by decide, (gw_in 49 (by decide +kernel) (by decide +kernel)), rfl⟩
set_option maxRecDepth 30000 in
theorem ok_X4_pieces : okY Y_X4_pieces := ⟨(gw_in 724 rfl rfl), (gw_in 3 (by decide +kernel) (by decide +kernel)), by decide +kernel, by decide +kernel⟩
theorem ml_9_24 : MLv RX9 24 Y_X4_pieces 1 := ⟨(gw_in 721 (by decide +kernel) (by decide +kernel)), (gw_in 722 (by decide +kernel) (by decide +kernel)), (gw_in 723 (by decide +kernel) (by decide +kernel)), ok_X4_pieces, by decide +kernel⟩
set_option maxRecDepth 30000 in
theorem ok_X2_consider : okY Y_X2_consider := ⟨(gw_in 737 rfl rfl), (gw_in 10 (by decide +kernel) (by decide +kernel)), by decide +kernel, by decide +kernel⟩
theorem ml_2_67 : MLv RX2 67 Y_X2_consider 4 := ⟨(gw_in 734 (by decide +kernel) (by decide +kernel)), (gw_in 736 (by decide +kernel) (by decide +kernel)), (gw_sel (n := 8) 14 (by decide +kernel) (by decide +kernel)), ok_X2_consider, by decide +kernel⟩
theorem fl_2_24 : FLk RX2 24 2 4 true := ⟨_, rfl, by decide, (gw_in 253 (by decide +kernel) (by decide +kernel)), rfl⟩
theorem ml_2_55 : MLs RX2 55 Y_X4_sideOf 1 := ⟨(gw_in 733 (by decide +kernel) (by decide +kernel)), (gw_in 730 (by decide +kernel) (by decide +kernel)), ok_X4_sideOf, by decide +kernel⟩
theorem fl_2_58 : FLk RX2 58 4 2 false := ⟨_, rfl, by decide, (gw_in 50 (by decide +kernel) (by decide +kernel)), rfl⟩
set_option maxRecDepth 30000 in
theorem ok_X9_look : okY Y_X9_look := ⟨(gw_in 720 rfl rfl), (gw_in 9 (by decide +kernel) (by decide +kernel)), by decide +kernel, by decide +kernel⟩
theorem ml_2_44 : MLv RX2 44 Y_X9_look 1 := ⟨(gw_in 717 (by decide +kernel) (by decide +kernel)), (gw_in 718 (by decide +kernel) (by decide +kernel)), (gw_in 719 (by decide +kernel) (by decide +kernel)), ok_X9_look, by decide +kernel⟩
set_option maxRecDepth 30000 in
theorem ok_J6_bitCount_0f7a4 : okY Y_J6_bitCount_0f7a4 := ⟨(gw_in 818 rfl rfl), (gw_in 20 (by decide +kernel) (by decide +kernel)), by decide +kernel, by decide +kernel⟩
theorem ml_2_38 : MLs RX2 38 Y_J6_bitCount_0f7a4 1 := ⟨(gw_in 816 (by decide +kernel) (by decide +kernel)), (gw_in 817 (by decide +kernel) (by decide +kernel)), ok_J6_bitCount_0f7a4, by decide +kernel⟩
theorem ml_4_35 : MLv RX4 35 Y_X4_count 1 := ⟨(gw_in 778 (by decide +kernel) (by decide +kernel)), (gw_in 747 (by decide +kernel) (by decide +kernel)), (gw_in 748 (by decide +kernel) (by decide +kernel)), ok_X4_count, by decide +kernel⟩
theorem fl_11_83 : FLk RX11 83 11 8 true := ⟨_, rfl, by decide, (gw_in 409 (by decide +kernel) (by decide +kernel)), rfl⟩
set_option maxRecDepth 30000 in
theorem ok_X11_rules : okY Y_X11_rules := ⟨(gw_in 712 rfl rfl), (gw_in 1 (by decide +kernel) (by decide +kernel)), by decide +kernel, by decide +kernel⟩
theorem ml_11_162 : MLv RX11 162 Y_X11_rules 1 := ⟨(gw_in 709 (by decide +kernel) (by decide +kernel)), (gw_in 711 (by decide +kernel) (by decide +kernel)), (gw_sel (n := 16) 13 (by decide +kernel) (by decide +kernel)), ok_X11_rules, by decide +kernel⟩
set_option maxRecDepth 30000 in
theorem ok_X4_stock : okY Y_X4_stock := ⟨(gw_in 777 rfl rfl), (gw_in 3 (by decide +kernel) (by decide +kernel)), by decide +kernel, by decide +kernel⟩
theorem ml_11_182 : MLv RX11 182 Y_X4_stock 0 := ⟨(gw_in 774 (by decide +kernel) (by decide +kernel)), (gw_in 775 (by decide +kernel) (by decide +kernel)), (gw_in 776 (by decide +kernel) (by decide +kernel)), ok_X4_stock, by decide +kernel⟩
set_option maxRecDepth 30000 in
theorem ok_X2_look : okY Y_X2_look := ⟨(gw_in 716 rfl rfl), (gw_in 10 (by decide +kernel) (by decide +kernel)), by decide +kernel, by decide +kernel⟩
theorem ml_11_166 : MLv RX11 166 Y_X2_look 3 := ⟨(gw_in 713 (by decide +kernel) (by decide +kernel)), (gw_in 714 (by decide +kernel) (by decide +kernel)), (gw_in 715 (by decide +kernel) (by decide +kernel)), ok_X2_look, by decide +kernel⟩
set_option maxRecDepth 30000 in
theorem ok_X2_tooFew : okY Y_X2_tooFew := ⟨(gw_in 815 rfl rfl), (gw_in 10 (by decide +kernel) (by decide +kernel)), by decide +kernel, by decide +kernel⟩
theorem ml_11_295 : MLv RX11 295 Y_X2_tooFew 0 := ⟨(gw_in 812 (by decide +kernel) (by decide +kernel)), (gw_in 813 (by decide +kernel) (by decide +kernel)), (gw_in 814 (by decide +kernel) (by decide +kernel)), ok_X2_tooFew, by decide +kernel⟩
theorem kl_4_24 : Jvm.Cond.constantLong RX4 24 (15) ∈ gw := gw_in 458 (by decide +kernel) (by decide +kernel)
theorem kl_4_26 : Jvm.Cond.constantLong RX4 26 (-1) ∈ gw := gw_in 459 (by decide +kernel) (by decide +kernel)
set_option maxRecDepth 20000 in
theorem dk_X2_consider : ∀ pc i, L_X2_consider[pc]? = some (some i) → decode prog_4_method_4_code pc = .ok i := dk_of (by decide +kernel)
theorem s_X2_consider_151 {d : Nat} {P : Unit → Mem → Prop}   (r0 : Option Nat) (i3 : Int32) (i4 : Int32) (r6 : Option Nat) (i7 : Int32) (i9 : Int32) (M : Mem) (h : FQ (f_X2_consider_151  r0 i3 i4 r6 i7 i9 M) P) : wp Y_X2_consider (rmD (d + 2) 0 0) (FM (QV P) 0 0) 0 0 151 [some (va_rf r0), none, none, some (.int i3), some (.int i4), none, some (va_rf r6), some (.int i7), none, some (.int i9)] [] M := by
  unfold f_X2_consider_151 at h
  refine r_aload_n rfl rfl ?_
  refine r_dup rfl (cat_rf _) ?_
  refine r_getI rfl fl_2_35 rfl h (fun v1 h => ?_)
  refine r_iconst (v := 1) rfl (by decide) ?_
  refine r_iload_n rfl rfl ?_
  refine r_ishl rfl ?_
  refine r_ior rfl ?_
  refine r_putI rfl fl_2_35 (fun z => by cases z) rfl h (fun M1 h => ?_)
  refine r_aload_n rfl rfl ?_
  refine r_getR rfl fl_2_21 rfl h (fun v2 h => ?_)
  refine r_iload_n rfl rfl ?_
  refine r_iload rfl rfl ?_
  refine r_iast rfl h (fun M2 h => ?_)
  refine r_aload_n rfl rfl ?_
  refine r_getR rfl fl_2_9 rfl h (fun v3 h => ?_)
  refine r_iload_n rfl rfl ?_
  refine r_iload rfl rfl ?_
  refine r_iast rfl h (fun M3 h => ?_)
  refine r_aload_n rfl rfl ?_
  refine r_getR rfl fl_2_15 rfl h (fun v4 h => ?_)
  refine r_iload_n rfl rfl ?_
  refine r_iload rfl rfl ?_
  refine r_iast rfl h (fun M4 h => ?_)
  refine r_aload_n rfl rfl ?_
  refine r_getR rfl fl_2_18 rfl h (fun v5 h => ?_)
  refine r_iload_n rfl rfl ?_
  refine r_aload rfl rfl ?_
  refine r_getI rfl fl_2_99 rfl h (fun v6 h => ?_)
  refine r_iast rfl h (fun M5 h => ?_)
  exact r_vret rfl rfl ⟨Nat.le_of_ble_eq_true rfl, Nat.le_of_ble_eq_true rfl⟩ h
theorem s_X2_consider_127 {d : Nat} {P : Unit → Mem → Prop}   (r0 : Option Nat) (i3 : Int32) (i4 : Int32) (r6 : Option Nat) (i7 : Int32) (si0 : Int32) (M : Mem) (h : FQ (f_X2_consider_127  r0 i3 i4 r6 i7 si0 M) P) : wp Y_X2_consider (rmD (d + 2) 0 0) (FM (QV P) 0 0) 0 0 127 [some (va_rf r0), none, none, some (.int i3), some (.int i4), none, some (va_rf r6), some (.int i7), none, none] [.int si0] M := by
  unfold f_X2_consider_127 at h
  refine r_istore (lo' := [some (va_rf r0), none, none, some (.int i3), some (.int i4), none, some (va_rf r6), some (.int i7), none, some (.int si0)]) rfl rfl rfl rfl ?_
  refine r_aload_n rfl rfl ?_
  refine r_getI rfl fl_2_35 rfl h (fun v1 h => ?_)
  refine r_iconst (v := 1) rfl (by decide) ?_
  refine r_iload_n rfl rfl ?_
  refine r_ishl rfl ?_
  refine r_iand rfl ?_
  refine r_if_eq 151 rfl (by decide) h (fun h => ?_) (fun h => ?_)
  · exact s_X2_consider_151 _ _ _ _ _ _ _ h
  · refine r_iload rfl rfl ?_
    refine r_aload_n rfl rfl ?_
    refine r_getR rfl fl_2_21 rfl h (fun v2 h => ?_)
    refine r_iload_n rfl rfl ?_
    refine r_iald rfl h (fun v3 h => ?_)
    refine r_ic_le 198 rfl (by decide) h (fun h => ?_) (fun h => ?_)
    · exact r_vret rfl rfl ⟨Nat.le_of_ble_eq_true rfl, Nat.le_of_ble_eq_true rfl⟩ h
    · exact s_X2_consider_151 _ _ _ _ _ _ _ h
theorem s_X2_consider_100 {d : Nat} {P : Unit → Mem → Prop}   (r0 : Option Nat) (r2 : Option Nat) (i3 : Int32) (i4 : Int32) (r6 : Option Nat) (i7 : Int32) (M : Mem) (h : FQ (f_X2_consider_100  r0 r2 i3 i4 r6 i7 M) P) : wp Y_X2_consider (rmD (d + 2) 0 0) (FM (QV P) 0 0) 0 0 100 [some (va_rf r0), none, some (va_rf r2), some (.int i3), some (.int i4), none, some (va_rf r6), some (.int i7), none, none] [] M := by
  unfold f_X2_consider_100 at h
  refine r_aload_n rfl rfl ?_
  refine r_bipush (v := 12) rfl (by decide) ?_
  refine r_cv_r (vs := [.int (12 : Int32)]) rfl ml_2_95 rfl (rOk.of rfl) ⟨Nat.zero_le _, Nat.zero_le _⟩ rfl rfl rfl h s_X6_singleOf (fun v1 M1 h => ?_)
  refine r_astore (lo' := [some (va_rf r0), none, some (va_rf r2), some (.int i3), some (.int i4), none, some (va_rf r6), some (.int i7), some (va_rf v1), none]) rfl rfl rfl rfl ?_
  refine r_aload rfl rfl ?_
  refine r_null_f 117 rfl (by decide) h (fun h => ?_) (fun h => ?_)
  · refine r_iconst (v := 0) rfl (by decide) ?_
    refine r_goto 127 rfl (by decide) ?_
    refine r_msk [true, true, false, true, true, true, true, true, false, true] rfl ?_
    exact s_X2_consider_127 _ _ _ _ _ _ _ h
  · refine r_aload_n rfl rfl ?_
    refine r_getR rfl fl_2_31 rfl h (fun v2 h => ?_)
    refine r_aload_n rfl rfl ?_
    refine r_aload rfl rfl ?_
    refine r_cv_i (vs := [va_rf r2, va_rf v1]) rfl ml_2_91 rfl (rOk.of rfl) ⟨Nat.zero_le _, Nat.zero_le _⟩ rfl rfl rfl h s_X9_value (fun v3 M2 h => ?_)
    refine r_msk [true, true, false, true, true, true, true, true, false, true] rfl ?_
    exact s_X2_consider_127 _ _ _ _ _ _ _ h
theorem s_X2_consider_48 {d : Nat} {P : Unit → Mem → Prop} {q20 : Option Nat → Option Nat → Option Nat → Int32 → Int32 → Int32 → Option Nat → Mem → Option (Unit × Mem)} (hq20 : ∀ (r0 : Option Nat) (r1 : Option Nat) (r2 : Option Nat) (i3 : Int32) (i4 : Int32) (i5 : Int32) (r6 : Option Nat) (M : Mem), FQ (q20 r0 r1 r2 i3 i4 i5 r6 M) P → wp Y_X2_consider (rmD (d + 2) 0 0) (FM (QV P) 0 0) 0 0 20 [some (va_rf r0), some (va_rf r1), some (va_rf r2), some (.int i3), some (.int i4), some (.int i5), some (va_rf r6), none, none, none] [] M) (r0 : Option Nat) (r1 : Option Nat) (r2 : Option Nat) (i3 : Int32) (i4 : Int32) (i5 : Int32) (r6 : Option Nat) (si0 : Int32) (M : Mem) (h : FQ (f_X2_consider_48 q20 r0 r1 r2 i3 i4 i5 r6 si0 M) P) : wp Y_X2_consider (rmD (d + 2) 0 0) (FM (QV P) 0 0) 0 0 48 [some (va_rf r0), some (va_rf r1), some (va_rf r2), some (.int i3), some (.int i4), some (.int i5), some (va_rf r6), none, none, none] [.int si0] M := by
  unfold f_X2_consider_48 at h
  refine r_istore (lo' := [some (va_rf r0), some (va_rf r1), some (va_rf r2), some (.int i3), some (.int i4), some (.int i5), some (va_rf r6), some (.int si0), none, none]) rfl rfl (by simp [stOk, cat_rf]) rfl ?_
  refine r_iload rfl rfl ?_
  refine r_iconst (v := -1) rfl (by decide) ?_
  refine r_ic_ne 59 rfl (by decide) h (fun h => ?_) (fun h => ?_)
  · refine r_goto 199 rfl (by decide) ?_
    refine r_aload rfl rfl ?_
    refine r_getR rfl fl_2_102 rfl h (fun v1 h => ?_)
    refine r_astore (lo' := [some (va_rf r0), some (va_rf r1), some (va_rf r2), some (.int i3), some (.int i4), some (.int i5), some (va_rf v1), some (.int si0), none, none]) rfl rfl rfl rfl ?_
    refine r_goto 20 rfl (by decide) ?_
    refine r_msk [true, true, true, true, true, true, true, false, true, true] rfl ?_
    exact hq20 _ _ _ _ _ _ _ _ h
  · refine r_aload_n rfl rfl ?_
    refine r_getR rfl fl_2_31 rfl h (fun v2 h => ?_)
    refine r_iload_n rfl rfl ?_
    refine r_aload_n rfl rfl ?_
    refine r_iload_n rfl rfl ?_
    refine r_cv_i (vs := [.int i3]) rfl ml_2_80 rfl (rOk.of rfl) ⟨Nat.zero_le _, Nat.zero_le _⟩ rfl rfl rfl h s_X4_count (fun v3 M1 h => ?_)
    refine r_iload rfl rfl ?_
    refine r_iload rfl rfl ?_
    refine r_cv_v (vs := [.int i3, .int v3, .int i4, .int si0]) rfl ml_2_83 rfl (rOk.of rfl) ⟨Nat.zero_le _, Nat.zero_le _⟩ rfl rfl rfl h s_X9_aim (fun _ M2 h => ?_)
    refine r_aload rfl rfl ?_
    refine r_cv_i (vs := []) rfl ml_2_87 rfl (rOk.of rfl) ⟨Nat.zero_le _, Nat.zero_le _⟩ rfl rfl rfl h s_X1_hasCode (fun v4 M3 h => ?_)
    refine r_if_eq 100 rfl (by decide) h (fun h => ?_) (fun h => ?_)
    · refine r_msk [true, false, true, true, true, false, true, true, true, true] rfl ?_
      exact s_X2_consider_100 _ _ _ _ _ _ _ h
    · refine r_aload_n rfl rfl ?_
      refine r_getR rfl fl_2_31 rfl h (fun v5 h => ?_)
      refine r_aload_n rfl rfl ?_
      refine r_aload rfl rfl ?_
      refine r_cv_i (vs := [va_rf r2, va_rf r6]) rfl ml_2_91 rfl (rOk.of rfl) ⟨Nat.zero_le _, Nat.zero_le _⟩ rfl rfl rfl h s_X9_value (fun v6 M4 h => ?_)
      refine r_if_ne 100 rfl (by decide) h (fun h => ?_) (fun h => ?_)
      · refine r_goto 199 rfl (by decide) ?_
        refine r_aload rfl rfl ?_
        refine r_getR rfl fl_2_102 rfl h (fun v7 h => ?_)
        refine r_astore (lo' := [some (va_rf r0), some (va_rf r1), some (va_rf r2), some (.int i3), some (.int i4), some (.int i5), some (va_rf v7), some (.int si0), none, none]) rfl rfl rfl rfl ?_
        refine r_goto 20 rfl (by decide) ?_
        refine r_msk [true, true, true, true, true, true, true, false, true, true] rfl ?_
        exact hq20 _ _ _ _ _ _ _ _ h
      · refine r_msk [true, false, true, true, true, false, true, true, true, true] rfl ?_
        exact s_X2_consider_100 _ _ _ _ _ _ _ h
theorem sb_X2_consider_20 {d : Nat} {P : Unit → Mem → Prop} {q20 : Option Nat → Option Nat → Option Nat → Int32 → Int32 → Int32 → Option Nat → Mem → Option (Unit × Mem)} (hq20 : ∀ (r0 : Option Nat) (r1 : Option Nat) (r2 : Option Nat) (i3 : Int32) (i4 : Int32) (i5 : Int32) (r6 : Option Nat) (M : Mem), FQ (q20 r0 r1 r2 i3 i4 i5 r6 M) P → wp Y_X2_consider (rmD (d + 2) 0 0) (FM (QV P) 0 0) 0 0 20 [some (va_rf r0), some (va_rf r1), some (va_rf r2), some (.int i3), some (.int i4), some (.int i5), some (va_rf r6), none, none, none] [] M) (r0 : Option Nat) (r1 : Option Nat) (r2 : Option Nat) (i3 : Int32) (i4 : Int32) (i5 : Int32) (r6 : Option Nat) (M : Mem) (h : FQ (b_X2_consider_20 q20 r0 r1 r2 i3 i4 i5 r6 M) P) : wp Y_X2_consider (rmD (d + 2) 0 0) (FM (QV P) 0 0) 0 0 20 [some (va_rf r0), some (va_rf r1), some (va_rf r2), some (.int i3), some (.int i4), some (.int i5), some (va_rf r6), none, none, none] [] M := by
  unfold b_X2_consider_20 at h
  refine r_aload rfl rfl ?_
  refine r_null_t 209 rfl (by decide) h (fun h => ?_) (fun h => ?_)
  · exact r_vret rfl rfl ⟨Nat.le_of_ble_eq_true rfl, Nat.le_of_ble_eq_true rfl⟩ h
  · refine r_aload rfl rfl ?_
    refine r_getI rfl fl_2_71 rfl h (fun v1 h => ?_)
    refine r_iload rfl rfl ?_
    refine r_ic_ne 47 rfl (by decide) h (fun h => ?_) (fun h => ?_)
    · refine r_aload_n rfl rfl ?_
      refine r_aload_n rfl rfl ?_
      refine r_aload rfl rfl ?_
      refine r_iload rfl rfl ?_
      refine r_cv_i (vs := [va_rf r1, va_rf r6, .int i4]) rfl ml_2_76 rfl (rOk.of rfl) ⟨Nat.zero_le _, Nat.zero_le _⟩ rfl rfl rfl h s_X2_goal (fun v2 M1 h => ?_)
      refine r_goto 48 rfl (by decide) ?_
      exact s_X2_consider_48 hq20 _ _ _ _ _ _ _ _ _ h
    · refine r_iconst (v := -1) rfl (by decide) ?_
      exact s_X2_consider_48 hq20 _ _ _ _ _ _ _ _ _ h
theorem s_X2_consider_20 {d : Nat} {P : Unit → Mem → Prop}   : ∀ (k : Nat) (r0 : Option Nat) (r1 : Option Nat) (r2 : Option Nat) (i3 : Int32) (i4 : Int32) (i5 : Int32) (r6 : Option Nat) (M : Mem), FQ (f_X2_consider_20  k r0 r1 r2 i3 i4 i5 r6 M) P → wp Y_X2_consider (rmD (d + 2) 0 0) (FM (QV P) 0 0) 0 0 20 [some (va_rf r0), some (va_rf r1), some (va_rf r2), some (.int i3), some (.int i4), some (.int i5), some (va_rf r6), none, none, none] [] M
  | 0, _, _, _, _, _, _, _, _, h => h.no
  | k + 1, r0, r1, r2, i3, i4, i5, r6, M, h => sb_X2_consider_20  (s_X2_consider_20  k) r0 r1 r2 i3 i4 i5 r6 M h
theorem s_X2_consider {d : Nat} {P : Unit → Mem → Prop} {r0 : Option Nat} {r1 : Option Nat} {r2 : Option Nat} {i3 : Int32} {i4 : Int32} {M : Mem} (h : FQ (f_X2_consider r0 r1 r2 i3 i4 M) P) : Con Y_X2_consider (d + 2) 0 0 [va_rf r0, va_rf r1, va_rf r2, .int i3, .int i4] M (QV P) := by
  refine Con.of [some (va_rf r0), some (va_rf r1), some (va_rf r2), some (.int i3), some (.int i4), none, none, none, none, none] (by decide +kernel) dk_X2_consider (by simp [Y_X2_consider, cat_rf, cat_i, cat_l]) (by simp [loE, Y_X2_consider, cat_rf, cat_i, cat_l, List.replicate]) ?_
  unfold f_X2_consider at h
  refine r_aload_n rfl rfl ?_
  refine r_iload rfl rfl ?_
  refine r_cv_i (vs := [.int i4]) rfl ml_2_50 rfl (rOk.of rfl) ⟨Nat.zero_le _, Nat.zero_le _⟩ rfl rfl rfl h s_X4_cell (fun v1 M1 h => ?_)
  refine r_iconst (v := 1) rfl (by decide) ?_
  refine r_isub rfl ?_
  refine r_iconst (v := 4) rfl (by decide) ?_
  refine r_irem rfl h (fun h => ?_)
  refine r_istore (lo' := [some (va_rf r0), some (va_rf r1), some (va_rf r2), some (.int i3), some (.int i4), some (.int ((v1 - (1 : Int32)) - (v1 - (1 : Int32)) / (4 : Int32) * (4 : Int32))), none, none, none, none]) rfl rfl rfl rfl ?_
  refine r_aload_n rfl rfl ?_
  refine r_getR rfl fl_2_61 rfl h (fun v2 h => ?_)
  refine r_iload_n rfl rfl ?_
  refine r_aald6 rfl h (fun v3 h => ?_)
  refine r_astore (lo' := [some (va_rf r0), some (va_rf r1), some (va_rf r2), some (.int i3), some (.int i4), some (.int ((v1 - (1 : Int32)) - (v1 - (1 : Int32)) / (4 : Int32) * (4 : Int32))), some (va_rf v3), none, none, none]) rfl rfl rfl rfl ?_
  exact s_X2_consider_20 FU _ _ _ _ _ _ _ _ h
set_option maxRecDepth 20000 in
theorem dk_X4_sideOf : ∀ pc i, L_X4_sideOf[pc]? = some (some i) → decode prog_6_method_7_code pc = .ok i := dk_of (by decide +kernel)
theorem s_X4_sideOf {d : Nat} {P : Int32 → Mem → Prop} {i0 : Int32} {M : Mem} (h : FQ (f_X4_sideOf i0 M) P) : Con Y_X4_sideOf d 0 0 [.int i0] M (QI P) := by
  refine Con.of [some (.int i0)] (by decide +kernel) dk_X4_sideOf (by simp [Y_X4_sideOf, cat_rf, cat_i, cat_l]) (by simp [loE, Y_X4_sideOf, cat_rf, cat_i, cat_l, List.replicate]) ?_
  unfold f_X4_sideOf at h
  refine r_iload_n rfl rfl ?_
  refine r_if_ne 8 rfl (by decide) h (fun h => ?_) (fun h => ?_)
  · refine r_iconst (v := -1) rfl (by decide) ?_
    refine r_goto 13 rfl (by decide) ?_
    exact r_iret rfl rfl ⟨Nat.le_of_ble_eq_true rfl, Nat.le_of_ble_eq_true rfl⟩ h
  · refine r_iload_n rfl rfl ?_
    refine r_iconst (v := 1) rfl (by decide) ?_
    refine r_isub rfl ?_
    refine r_iconst (v := 4) rfl (by decide) ?_
    refine r_idiv rfl h (fun h => ?_)
    exact r_iret rfl rfl ⟨Nat.le_of_ble_eq_true rfl, Nat.le_of_ble_eq_true rfl⟩ h
set_option maxRecDepth 20000 in
theorem dk_X4_pieces : ∀ pc i, L_X4_pieces[pc]? = some (some i) → decode prog_6_method_8_code pc = .ok i := dk_of (by decide +kernel)
theorem sb_X4_pieces_4 {d : Nat} {P : Int32 → Mem → Prop} {q4 : Option Nat → Int32 → Int32 → Int32 → Mem → Option (Int32 × Mem)} (hq4 : ∀ (r0 : Option Nat) (i1 : Int32) (i2 : Int32) (i3 : Int32) (M : Mem), FQ (q4 r0 i1 i2 i3 M) P → wp Y_X4_pieces (rmD (d + 1) 0 0) (FM (QI P) 0 0) 0 0 4 [some (va_rf r0), some (.int i1), some (.int i2), some (.int i3)] [] M) (r0 : Option Nat) (i1 : Int32) (i2 : Int32) (i3 : Int32) (M : Mem) (h : FQ (b_X4_pieces_4 q4 r0 i1 i2 i3 M) P) : wp Y_X4_pieces (rmD (d + 1) 0 0) (FM (QI P) 0 0) 0 0 4 [some (va_rf r0), some (.int i1), some (.int i2), some (.int i3)] [] M := by
  unfold b_X4_pieces_4 at h
  refine r_iload_n rfl rfl ?_
  refine r_bipush (v := 12) rfl (by decide) ?_
  refine r_ic_ge 31 rfl (by decide) h (fun h => ?_) (fun h => ?_)
  · refine r_iload_n rfl rfl ?_
    exact r_iret rfl rfl ⟨Nat.le_of_ble_eq_true rfl, Nat.le_of_ble_eq_true rfl⟩ h
  · refine r_aload_n rfl rfl ?_
    refine r_iload_n rfl rfl ?_
    refine r_cv_i (vs := [.int i3]) rfl ml_4_28 rfl (rOk.of rfl) ⟨Nat.zero_le _, Nat.zero_le _⟩ rfl rfl rfl h s_X4_cell (fun v1 M1 h => ?_)
    refine r_cs_i (vs := [.int v1]) rfl ml_4_32 (rOk.of rfl) ⟨Nat.zero_le _, Nat.zero_le _⟩ rfl rfl rfl h s_X4_sideOf (fun v2 M2 h => ?_)
    refine r_iload_n rfl rfl ?_
    refine r_ic_ne 25 rfl (by decide) h (fun h => ?_) (fun h => ?_)
    · refine r_iinc (v := 1) (lo' := [some (va_rf r0), some (.int i1), some (.int (i2 + (1 : Int32))), some (.int i3)]) rfl rfl rfl (by decide) rfl rfl ?_
      refine r_iinc (v := 1) (lo' := [some (va_rf r0), some (.int i1), some (.int (i2 + (1 : Int32))), some (.int (i3 + (1 : Int32)))]) rfl rfl rfl (by decide) rfl rfl ?_
      refine r_goto 4 rfl (by decide) ?_
      exact hq4 _ _ _ _ _ h
    · refine r_iinc (v := 1) (lo' := [some (va_rf r0), some (.int i1), some (.int i2), some (.int (i3 + (1 : Int32)))]) rfl rfl rfl (by decide) rfl rfl ?_
      refine r_goto 4 rfl (by decide) ?_
      exact hq4 _ _ _ _ _ h
theorem s_X4_pieces_4 {d : Nat} {P : Int32 → Mem → Prop}   : ∀ (k : Nat) (r0 : Option Nat) (i1 : Int32) (i2 : Int32) (i3 : Int32) (M : Mem), FQ (f_X4_pieces_4  k r0 i1 i2 i3 M) P → wp Y_X4_pieces (rmD (d + 1) 0 0) (FM (QI P) 0 0) 0 0 4 [some (va_rf r0), some (.int i1), some (.int i2), some (.int i3)] [] M
  | 0, _, _, _, _, _, h => h.no
  | k + 1, r0, i1, i2, i3, M, h => sb_X4_pieces_4  (s_X4_pieces_4  k) r0 i1 i2 i3 M h
theorem s_X4_pieces {d : Nat} {P : Int32 → Mem → Prop} {r0 : Option Nat} {i1 : Int32} {M : Mem} (h : FQ (f_X4_pieces r0 i1 M) P) : Con Y_X4_pieces (d + 1) 0 0 [va_rf r0, .int i1] M (QI P) := by
  refine Con.of [some (va_rf r0), some (.int i1), none, none] (by decide +kernel) dk_X4_pieces (by simp [Y_X4_pieces, cat_rf, cat_i, cat_l]) (by simp [loE, Y_X4_pieces, cat_rf, cat_i, cat_l, List.replicate]) ?_
  unfold f_X4_pieces at h
  refine r_iconst (v := 0) rfl (by decide) ?_
  refine r_istore_n (lo' := [some (va_rf r0), some (.int i1), some (.int (0 : Int32)), none]) rfl rfl rfl rfl ?_
  refine r_iconst (v := 0) rfl (by decide) ?_
  refine r_istore_n (lo' := [some (va_rf r0), some (.int i1), some (.int (0 : Int32)), some (.int (0 : Int32))]) rfl rfl rfl rfl ?_
  exact s_X4_pieces_4 FU _ _ _ _ _ h
set_option maxRecDepth 20000 in
theorem dk_X9_look : ∀ pc i, L_X9_look[pc]? = some (some i) → decode prog_11_method_2_code pc = .ok i := dk_of (by decide +kernel)
theorem s_X9_look {d : Nat} {P : Unit → Mem → Prop} {r0 : Option Nat} {r1 : Option Nat} {M : Mem} (h : FQ (f_X9_look r0 r1 M) P) : Con Y_X9_look (d + 2) 0 0 [va_rf r0, va_rf r1] M (QV P) := by
  refine Con.of [some (va_rf r0), some (va_rf r1)] (by decide +kernel) dk_X9_look (by simp [Y_X9_look, cat_rf, cat_i, cat_l]) (by simp [loE, Y_X9_look, cat_rf, cat_i, cat_l, List.replicate]) ?_
  unfold f_X9_look at h
  refine r_aload_n rfl rfl ?_
  refine r_getR rfl fl_9_9 rfl h (fun v1 h => ?_)
  refine r_bipush (v := 6) rfl (by decide) ?_
  refine r_aload_n rfl rfl ?_
  refine r_getI rfl fl_9_18 rfl h (fun v2 h => ?_)
  refine r_iast rfl h (fun M1 h => ?_)
  refine r_aload_n rfl rfl ?_
  refine r_getR rfl fl_9_9 rfl h (fun v3 h => ?_)
  refine r_iconst (v := 4) rfl (by decide) ?_
  refine r_aload_n rfl rfl ?_
  refine r_aload_n rfl rfl ?_
  refine r_getI rfl fl_9_18 rfl h (fun v4 h => ?_)
  refine r_cv_i (vs := [.int v4]) rfl ml_9_24 rfl (rOk.of rfl) ⟨Nat.zero_le _, Nat.zero_le _⟩ rfl rfl rfl h s_X4_pieces (fun v5 M2 h => ?_)
  refine r_iast rfl h (fun M3 h => ?_)
  refine r_aload_n rfl rfl ?_
  refine r_getR rfl fl_9_9 rfl h (fun v6 h => ?_)
  refine r_iconst (v := 5) rfl (by decide) ?_
  refine r_aload_n rfl rfl ?_
  refine r_iconst (v := 1) rfl (by decide) ?_
  refine r_aload_n rfl rfl ?_
  refine r_getI rfl fl_9_18 rfl h (fun v7 h => ?_)
  refine r_isub rfl ?_
  refine r_cv_i (vs := [.int ((1 : Int32) - v7)]) rfl ml_9_24 rfl (rOk.of rfl) ⟨Nat.zero_le _, Nat.zero_le _⟩ rfl rfl rfl h s_X4_pieces (fun v8 M4 h => ?_)
  refine r_iast rfl h (fun M5 h => ?_)
  exact r_vret rfl rfl ⟨Nat.le_of_ble_eq_true rfl, Nat.le_of_ble_eq_true rfl⟩ h
set_option maxRecDepth 20000 in
theorem dk_X2_look : ∀ pc i, L_X2_look[pc]? = some (some i) → decode prog_4_method_3_code pc = .ok i := dk_of (by decide +kernel)
theorem sb_X2_look_47 {d : Nat} {P : Unit → Mem → Prop} {q16 : Option Nat → Option Nat → Option Nat → Int32 → Int32 → Mem → Option (Unit × Mem)} {q47 : Option Nat → Option Nat → Option Nat → Int32 → Int32 → Int32 → Mem → Option (Unit × Mem)} (hq16 : ∀ (r0 : Option Nat) (r1 : Option Nat) (r2 : Option Nat) (i3 : Int32) (i4 : Int32) (M : Mem), FQ (q16 r0 r1 r2 i3 i4 M) P → wp Y_X2_look (rmD (d + 3) 0 0) (FM (QV P) 0 0) 0 0 16 [some (va_rf r0), some (va_rf r1), some (va_rf r2), some (.int i3), some (.int i4), none] [] M) (hq47 : ∀ (r0 : Option Nat) (r1 : Option Nat) (r2 : Option Nat) (i3 : Int32) (i4 : Int32) (i5 : Int32) (M : Mem), FQ (q47 r0 r1 r2 i3 i4 i5 M) P → wp Y_X2_look (rmD (d + 3) 0 0) (FM (QV P) 0 0) 0 0 47 [some (va_rf r0), some (va_rf r1), some (va_rf r2), some (.int i3), some (.int i4), some (.int i5)] [] M) (r0 : Option Nat) (r1 : Option Nat) (r2 : Option Nat) (i3 : Int32) (i4 : Int32) (i5 : Int32) (M : Mem) (h : FQ (b_X2_look_47 q16 q47 r0 r1 r2 i3 i4 i5 M) P) : wp Y_X2_look (rmD (d + 3) 0 0) (FM (QV P) 0 0) 0 0 47 [some (va_rf r0), some (va_rf r1), some (va_rf r2), some (.int i3), some (.int i4), some (.int i5)] [] M := by
  unfold b_X2_look_47 at h
  refine r_iload rfl rfl ?_
  refine r_bipush (v := 8) rfl (by decide) ?_
  refine r_ic_ge 89 rfl (by decide) h (fun h => ?_) (fun h => ?_)
  · refine r_iinc (v := 1) (lo' := [some (va_rf r0), some (va_rf r1), some (va_rf r2), some (.int i3), some (.int (i4 + (1 : Int32))), some (.int i5)]) rfl rfl rfl (by decide) rfl rfl ?_
    refine r_goto 16 rfl (by decide) ?_
    refine r_msk [true, true, true, true, true, false] rfl ?_
    exact hq16 _ _ _ _ _ _ h
  · refine r_iload_n rfl rfl ?_
    refine r_iconst (v := 1) rfl (by decide) ?_
    refine r_iload rfl rfl ?_
    refine r_ishl rfl ?_
    refine r_iand rfl ?_
    refine r_if_eq 83 rfl (by decide) h (fun h => ?_) (fun h => ?_)
    · refine r_iinc (v := 1) (lo' := [some (va_rf r0), some (va_rf r1), some (va_rf r2), some (.int i3), some (.int i4), some (.int (i5 + (1 : Int32)))]) rfl rfl rfl (by decide) rfl rfl ?_
      refine r_goto 47 rfl (by decide) ?_
      exact hq47 _ _ _ _ _ _ _ h
    · refine r_aload_n rfl rfl ?_
      refine r_getR rfl fl_2_61 rfl h (fun v1 h => ?_)
      refine r_iload rfl rfl ?_
      refine r_aald6 rfl h (fun v2 h => ?_)
      refine r_null_t 83 rfl (by decide) h (fun h => ?_) (fun h => ?_)
      · refine r_iinc (v := 1) (lo' := [some (va_rf r0), some (va_rf r1), some (va_rf r2), some (.int i3), some (.int i4), some (.int (i5 + (1 : Int32)))]) rfl rfl rfl (by decide) rfl rfl ?_
        refine r_goto 47 rfl (by decide) ?_
        exact hq47 _ _ _ _ _ _ _ h
      · refine r_aload_n rfl rfl ?_
        refine r_aload_n rfl rfl ?_
        refine r_aload_n rfl rfl ?_
        refine r_iload rfl rfl ?_
        refine r_iload rfl rfl ?_
        refine r_cv_v (vs := [va_rf r1, va_rf r2, .int i5, .int i4]) rfl ml_2_67 rfl (rOk.of rfl) ⟨Nat.zero_le _, Nat.zero_le _⟩ rfl rfl rfl h s_X2_consider (fun _ M1 h => ?_)
        refine r_iinc (v := 1) (lo' := [some (va_rf r0), some (va_rf r1), some (va_rf r2), some (.int i3), some (.int i4), some (.int (i5 + (1 : Int32)))]) rfl rfl rfl (by decide) rfl rfl ?_
        refine r_goto 47 rfl (by decide) ?_
        exact hq47 _ _ _ _ _ _ _ h
theorem s_X2_look_47 {d : Nat} {P : Unit → Mem → Prop} {q16 : Option Nat → Option Nat → Option Nat → Int32 → Int32 → Mem → Option (Unit × Mem)} (hq16 : ∀ (r0 : Option Nat) (r1 : Option Nat) (r2 : Option Nat) (i3 : Int32) (i4 : Int32) (M : Mem), FQ (q16 r0 r1 r2 i3 i4 M) P → wp Y_X2_look (rmD (d + 3) 0 0) (FM (QV P) 0 0) 0 0 16 [some (va_rf r0), some (va_rf r1), some (va_rf r2), some (.int i3), some (.int i4), none] [] M) : ∀ (k : Nat) (r0 : Option Nat) (r1 : Option Nat) (r2 : Option Nat) (i3 : Int32) (i4 : Int32) (i5 : Int32) (M : Mem), FQ (f_X2_look_47 q16 k r0 r1 r2 i3 i4 i5 M) P → wp Y_X2_look (rmD (d + 3) 0 0) (FM (QV P) 0 0) 0 0 47 [some (va_rf r0), some (va_rf r1), some (va_rf r2), some (.int i3), some (.int i4), some (.int i5)] [] M
  | 0, _, _, _, _, _, _, _, h => h.no
  | k + 1, r0, r1, r2, i3, i4, i5, M, h => sb_X2_look_47 hq16 (s_X2_look_47 hq16 k) r0 r1 r2 i3 i4 i5 M h
theorem sb_X2_look_16 {d : Nat} {P : Unit → Mem → Prop} {q16 : Option Nat → Option Nat → Option Nat → Int32 → Int32 → Mem → Option (Unit × Mem)} (hq16 : ∀ (r0 : Option Nat) (r1 : Option Nat) (r2 : Option Nat) (i3 : Int32) (i4 : Int32) (M : Mem), FQ (q16 r0 r1 r2 i3 i4 M) P → wp Y_X2_look (rmD (d + 3) 0 0) (FM (QV P) 0 0) 0 0 16 [some (va_rf r0), some (va_rf r1), some (va_rf r2), some (.int i3), some (.int i4), none] [] M) (r0 : Option Nat) (r1 : Option Nat) (r2 : Option Nat) (i3 : Int32) (i4 : Int32) (M : Mem) (h : FQ (b_X2_look_16 q16 r0 r1 r2 i3 i4 M) P) : wp Y_X2_look (rmD (d + 3) 0 0) (FM (QV P) 0 0) 0 0 16 [some (va_rf r0), some (va_rf r1), some (va_rf r2), some (.int i3), some (.int i4), none] [] M := by
  unfold b_X2_look_16 at h
  refine r_iload rfl rfl ?_
  refine r_aload_n rfl rfl ?_
  refine r_getI rfl fl_2_24 rfl h (fun v1 h => ?_)
  refine r_ic_ge 95 rfl (by decide) h (fun h => ?_) (fun h => ?_)
  · exact r_vret rfl rfl ⟨Nat.le_of_ble_eq_true rfl, Nat.le_of_ble_eq_true rfl⟩ h
  · refine r_aload_n rfl rfl ?_
    refine r_iload rfl rfl ?_
    refine r_cv_i (vs := [.int i4]) rfl ml_2_50 rfl (rOk.of rfl) ⟨Nat.zero_le _, Nat.zero_le _⟩ rfl rfl rfl h s_X4_cell (fun v2 M1 h => ?_)
    refine r_cs_i (vs := [.int v2]) rfl ml_2_55 (rOk.of rfl) ⟨Nat.zero_le _, Nat.zero_le _⟩ rfl rfl rfl h s_X4_sideOf (fun v3 M2 h => ?_)
    refine r_aload_n rfl rfl ?_
    refine r_getI rfl fl_2_58 rfl h (fun v4 h => ?_)
    refine r_ic_eq 44 rfl (by decide) h (fun h => ?_) (fun h => ?_)
    · refine r_iconst (v := 0) rfl (by decide) ?_
      refine r_istore (lo' := [some (va_rf r0), some (va_rf r1), some (va_rf r2), some (.int i3), some (.int i4), some (.int (0 : Int32))]) rfl rfl rfl rfl ?_
      exact s_X2_look_47 hq16 FU _ _ _ _ _ _ _ h
    · refine r_goto 89 rfl (by decide) ?_
      refine r_iinc (v := 1) (lo' := [some (va_rf r0), some (va_rf r1), some (va_rf r2), some (.int i3), some (.int (i4 + (1 : Int32))), none]) rfl rfl rfl (by decide) rfl rfl ?_
      refine r_goto 16 rfl (by decide) ?_
      exact hq16 _ _ _ _ _ _ h
theorem s_X2_look_16 {d : Nat} {P : Unit → Mem → Prop}   : ∀ (k : Nat) (r0 : Option Nat) (r1 : Option Nat) (r2 : Option Nat) (i3 : Int32) (i4 : Int32) (M : Mem), FQ (f_X2_look_16  k r0 r1 r2 i3 i4 M) P → wp Y_X2_look (rmD (d + 3) 0 0) (FM (QV P) 0 0) 0 0 16 [some (va_rf r0), some (va_rf r1), some (va_rf r2), some (.int i3), some (.int i4), none] [] M
  | 0, _, _, _, _, _, _, h => h.no
  | k + 1, r0, r1, r2, i3, i4, M, h => sb_X2_look_16  (s_X2_look_16  k) r0 r1 r2 i3 i4 M h
theorem s_X2_look {d : Nat} {P : Unit → Mem → Prop} {r0 : Option Nat} {r1 : Option Nat} {r2 : Option Nat} {i3 : Int32} {M : Mem} (h : FQ (f_X2_look r0 r1 r2 i3 M) P) : Con Y_X2_look (d + 3) 0 0 [va_rf r0, va_rf r1, va_rf r2, .int i3] M (QV P) := by
  refine Con.of [some (va_rf r0), some (va_rf r1), some (va_rf r2), some (.int i3), none, none] (by decide +kernel) dk_X2_look (by simp [Y_X2_look, cat_rf, cat_i, cat_l]) (by simp [loE, Y_X2_look, cat_rf, cat_i, cat_l, List.replicate]) ?_
  unfold f_X2_look at h
  refine r_aload_n rfl rfl ?_
  refine r_iconst (v := 0) rfl (by decide) ?_
  refine r_putI rfl fl_2_35 (fun z => by cases z) rfl h (fun M1 h => ?_)
  refine r_aload_n rfl rfl ?_
  refine r_getR rfl fl_2_31 rfl h (fun v1 h => ?_)
  refine r_aload_n rfl rfl ?_
  refine r_cv_v (vs := [va_rf r1]) rfl ml_2_44 rfl (rOk.of rfl) ⟨Nat.zero_le _, Nat.zero_le _⟩ rfl rfl rfl h s_X9_look (fun _ M2 h => ?_)
  refine r_iconst (v := 0) rfl (by decide) ?_
  refine r_istore (lo' := [some (va_rf r0), some (va_rf r1), some (va_rf r2), some (.int i3), some (.int (0 : Int32)), none]) rfl rfl rfl rfl ?_
  exact s_X2_look_16 FU _ _ _ _ _ _ h
set_option maxRecDepth 20000 in
theorem dk_X2_tooFew : ∀ pc i, L_X2_tooFew[pc]? = some (some i) → decode prog_4_method_2_code pc = .ok i := dk_of (by decide +kernel)
theorem s_X2_tooFew {d : Nat} {P : Int32 → Mem → Prop} {r0 : Option Nat} {M : Mem} (h : FQ (f_X2_tooFew r0 M) P) : Con Y_X2_tooFew (d + 1) 0 0 [va_rf r0] M (QI P) := by
  refine Con.of [some (va_rf r0)] (by decide +kernel) dk_X2_tooFew (by simp [Y_X2_tooFew, cat_rf, cat_i, cat_l]) (by simp [loE, Y_X2_tooFew, cat_rf, cat_i, cat_l, List.replicate]) ?_
  unfold f_X2_tooFew at h
  refine r_aload_n rfl rfl ?_
  refine r_getI rfl fl_2_35 rfl h (fun v1 h => ?_)
  refine r_cs_i (vs := [.int v1]) rfl ml_2_38 (rOk.of rfl) ⟨Nat.zero_le _, Nat.zero_le _⟩ rfl rfl rfl h s_J6_bitCount_0f7a4 (fun v2 M1 h => ?_)
  refine r_iconst (v := 3) rfl (by decide) ?_
  refine r_ic_ge 15 rfl (by decide) h (fun h => ?_) (fun h => ?_)
  · refine r_iconst (v := 0) rfl (by decide) ?_
    exact r_zret rfl rfl ⟨Nat.le_of_ble_eq_true rfl, Nat.le_of_ble_eq_true rfl⟩ h
  · refine r_iconst (v := 1) rfl (by decide) ?_
    refine r_goto 16 rfl (by decide) ?_
    exact r_zret rfl rfl ⟨Nat.le_of_ble_eq_true rfl, Nat.le_of_ble_eq_true rfl⟩ h
set_option maxRecDepth 20000 in
theorem dk_X4_stock : ∀ pc i, L_X4_stock[pc]? = some (some i) → decode prog_6_method_11_code pc = .ok i := dk_of (by decide +kernel)
theorem sb_X4_stock_4 {d : Nat} {P : Int32 → Mem → Prop} {q4 : Option Nat → Int32 → Int32 → Mem → Option (Int32 × Mem)} (hq4 : ∀ (r0 : Option Nat) (i1 : Int32) (i2 : Int32) (M : Mem), FQ (q4 r0 i1 i2 M) P → wp Y_X4_stock (rmD (d + 1) 0 0) (FM (QI P) 0 0) 0 0 4 [some (va_rf r0), some (.int i1), some (.int i2)] [] M) (r0 : Option Nat) (i1 : Int32) (i2 : Int32) (M : Mem) (h : FQ (b_X4_stock_4 q4 r0 i1 i2 M) P) : wp Y_X4_stock (rmD (d + 1) 0 0) (FM (QI P) 0 0) 0 0 4 [some (va_rf r0), some (.int i1), some (.int i2)] [] M := by
  unfold b_X4_stock_4 at h
  refine r_iload_n rfl rfl ?_
  refine r_bipush (v := 8) rfl (by decide) ?_
  refine r_ic_ge 30 rfl (by decide) h (fun h => ?_) (fun h => ?_)
  · refine r_iload_n rfl rfl ?_
    exact r_iret rfl rfl ⟨Nat.le_of_ble_eq_true rfl, Nat.le_of_ble_eq_true rfl⟩ h
  · refine r_aload_n rfl rfl ?_
    refine r_iload_n rfl rfl ?_
    refine r_cv_i (vs := [.int i2]) rfl ml_4_35 rfl (rOk.of rfl) ⟨Nat.zero_le _, Nat.zero_le _⟩ rfl rfl rfl h s_X4_count (fun v1 M1 h => ?_)
    refine r_if_le 24 rfl (by decide) h (fun h => ?_) (fun h => ?_)
    · refine r_iinc (v := 1) (lo' := [some (va_rf r0), some (.int i1), some (.int (i2 + (1 : Int32)))]) rfl rfl rfl (by decide) rfl rfl ?_
      refine r_goto 4 rfl (by decide) ?_
      exact hq4 _ _ _ _ h
    · refine r_iload_n rfl rfl ?_
      refine r_iconst (v := 1) rfl (by decide) ?_
      refine r_iload_n rfl rfl ?_
      refine r_ishl rfl ?_
      refine r_ior rfl ?_
      refine r_istore_n (lo' := [some (va_rf r0), some (.int (i1 ||| ((1 : Int32) <<< (i2 &&& 31)))), some (.int i2)]) rfl rfl (by simp [stOk, cat_rf]) rfl ?_
      refine r_iinc (v := 1) (lo' := [some (va_rf r0), some (.int (i1 ||| ((1 : Int32) <<< (i2 &&& 31)))), some (.int (i2 + (1 : Int32)))]) rfl rfl rfl (by decide) rfl rfl ?_
      refine r_goto 4 rfl (by decide) ?_
      exact hq4 _ _ _ _ h
theorem s_X4_stock_4 {d : Nat} {P : Int32 → Mem → Prop}   : ∀ (k : Nat) (r0 : Option Nat) (i1 : Int32) (i2 : Int32) (M : Mem), FQ (f_X4_stock_4  k r0 i1 i2 M) P → wp Y_X4_stock (rmD (d + 1) 0 0) (FM (QI P) 0 0) 0 0 4 [some (va_rf r0), some (.int i1), some (.int i2)] [] M
  | 0, _, _, _, _, h => h.no
  | k + 1, r0, i1, i2, M, h => sb_X4_stock_4  (s_X4_stock_4  k) r0 i1 i2 M h
theorem s_X4_stock {d : Nat} {P : Int32 → Mem → Prop} {r0 : Option Nat} {M : Mem} (h : FQ (f_X4_stock r0 M) P) : Con Y_X4_stock (d + 1) 0 0 [va_rf r0] M (QI P) := by
  refine Con.of [some (va_rf r0), none, none] (by decide +kernel) dk_X4_stock (by simp [Y_X4_stock, cat_rf, cat_i, cat_l]) (by simp [loE, Y_X4_stock, cat_rf, cat_i, cat_l, List.replicate]) ?_
  unfold f_X4_stock at h
  refine r_iconst (v := 0) rfl (by decide) ?_
  refine r_istore_n (lo' := [some (va_rf r0), some (.int (0 : Int32)), none]) rfl rfl (by simp [stOk, cat_rf]) rfl ?_
  refine r_iconst (v := 0) rfl (by decide) ?_
  refine r_istore_n (lo' := [some (va_rf r0), some (.int (0 : Int32)), some (.int (0 : Int32))]) rfl rfl rfl rfl ?_
  exact s_X4_stock_4 FU _ _ _ _ h
set_option maxRecDepth 20000 in
theorem dk_X11_isOver : ∀ pc i, L_X11_isOver[pc]? = some (some i) → decode prog_1_method_37_code pc = .ok i := dk_of (by decide +kernel)
theorem s_X11_isOver {d : Nat} {P : Int32 → Mem → Prop} {r0 : Option Nat} {r1 : Option Nat} {M : Mem} (h : FQ (f_X11_isOver r0 r1 M) P) : Con Y_X11_isOver (d + 4) 0 0 [va_rf r0, va_rf r1] M (QI P) := by
  refine Con.of [some (va_rf r0), some (va_rf r1)] (by decide +kernel) dk_X11_isOver (by simp [Y_X11_isOver, cat_rf, cat_i, cat_l]) (by simp [loE, Y_X11_isOver, cat_rf, cat_i, cat_l, List.replicate]) ?_
  unfold f_X11_isOver at h
  refine r_aload_n rfl rfl ?_
  refine r_getR rfl fl_11_83 rfl h (fun v1 h => ?_)
  refine r_aload_n rfl rfl ?_
  refine r_aload_n rfl rfl ?_
  refine r_aload_n rfl rfl ?_
  refine r_getR rfl fl_11_10 rfl h (fun v2 h => ?_)
  refine r_getI rfl fl_11_156 rfl h (fun v3 h => ?_)
  refine r_cv_r (vs := [.int v3]) rfl ml_11_162 rfl (rOk.of rfl) ⟨Nat.zero_le _, Nat.zero_le _⟩ rfl rfl rfl h s_X11_rules (fun v4 M1 h => ?_)
  refine r_aload_n rfl rfl ?_
  refine r_cv_i (vs := []) rfl ml_11_182 rfl (rOk.of rfl) ⟨Nat.zero_le _, Nat.zero_le _⟩ rfl rfl rfl h s_X4_stock (fun v5 M2 h => ?_)
  refine r_cv_v (vs := [va_rf r1, va_rf v4, .int v5]) rfl ml_11_166 rfl (rOk.of rfl) ⟨Nat.zero_le _, Nat.zero_le _⟩ rfl rfl rfl h s_X2_look (fun _ M3 h => ?_)
  refine r_aload_n rfl rfl ?_
  refine r_getR rfl fl_11_83 rfl h (fun v6 h => ?_)
  refine r_cv_i (vs := []) rfl ml_11_295 rfl (rOk.of rfl) ⟨Nat.zero_le _, Nat.zero_le _⟩ rfl rfl rfl h s_X2_tooFew (fun v7 M4 h => ?_)
  exact r_zret rfl rfl ⟨Nat.le_of_ble_eq_true rfl, Nat.le_of_ble_eq_true rfl⟩ h
set_option maxRecDepth 20000 in
theorem dk_X4_setCell : ∀ pc i, L_X4_setCell[pc]? = some (some i) → decode prog_6_method_6_code pc = .ok i := dk_of (by decide +kernel)
theorem s_X4_setCell {d : Nat} {P : Unit → Mem → Prop} {r0 : Option Nat} {i1 : Int32} {i2 : Int32} {M : Mem} (h : FQ (f_X4_setCell r0 i1 i2 M) P) : Con Y_X4_setCell d 0 0 [va_rf r0, .int i1, .int i2] M (QV P) := by
  refine Con.of [some (va_rf r0), some (.int i1), some (.int i2)] (by decide +kernel) dk_X4_setCell (by simp [Y_X4_setCell, cat_rf, cat_i, cat_l]) (by simp [loE, Y_X4_setCell, cat_rf, cat_i, cat_l, List.replicate]) ?_
  unfold f_X4_setCell at h
  refine r_aload_n rfl rfl ?_
  refine r_aload_n rfl rfl ?_
  refine r_getL rfl fl_4_9 rfl h (fun v1 h => ?_)
  refine r_ldc2 rfl kl_4_24 ?_
  refine r_iconst (v := 4) rfl (by decide) ?_
  refine r_iload_n rfl rfl ?_
  refine r_imul rfl ?_
  refine r_lshl rfl ?_
  refine r_ldc2 rfl kl_4_26 ?_
  refine r_lxor rfl ?_
  refine r_land rfl ?_
  refine r_iload_n rfl rfl ?_
  refine r_i2l rfl ?_
  refine r_iconst (v := 4) rfl (by decide) ?_
  refine r_iload_n rfl rfl ?_
  refine r_imul rfl ?_
  refine r_lshl rfl ?_
  refine r_lor rfl ?_
  refine r_putL rfl fl_4_9 (fun z => by cases z) rfl h (fun M1 h => ?_)
  exact r_vret rfl rfl ⟨Nat.le_of_ble_eq_true rfl, Nat.le_of_ble_eq_true rfl⟩ h
