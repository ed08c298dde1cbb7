/-! walked by program (wip/gen): X12_canDo X12_laysMoves X12_laysNow X12_plays -/
def L_X12_canDo : List (Option (Instr × Nat)) := [some (.iconst (-1), 1), some (.istore_n 2, 1), some (.iconst (-1), 1), some (.istore_n 3, 1), some (.iconst (-1), 1), some (.istore 4, 2), none, some (.lconst 0, 1), some (.lstore 5, 2), none, some (.iconst 0, 1), some (.istore 7, 2), none, some (.iload 7, 2), none, some (.aload_n 0, 1), some (.getfield 144, 3), none, none, some (.if_icmp .ge 83, 3), none, none, some (.aload_n 0, 1), some (.getfield 7, 3), none, none, some (.iconst 2, 1), some (.iaload, 1), some (.iconst (-1), 1), some (.if_icmp .eq 73, 3), none, none, some (.aload_n 0, 1), some (.iload_n 1, 1), some (.iload 7, 2), none, some (.invokevirtual 391, 3), none, none, some (.istore 8, 2), none, some (.iload 8, 2), none, some (.iconst (-1), 1), some (.if_icmp .eq 52, 3), none, none, some (.aload_n 0, 1), some (.iload 7, 2), none, some (.putfield 381, 3), none, none, some (.aload_n 0, 1), some (.aload_n 0, 1), some (.getfield 7, 3), none, none, some (.iconst 2, 1), some (.iaload, 1), some (.iconst 1, 1), some (.iload_n 1, 1), some (.invokevirtual 394, 3), none, none, some (.lstore 9, 2), none, some (.iload_n 2, 1), some (.iconst (-1), 1), some (.if_icmp .eq 11, 3), none, none, some (.lload 9, 2), none, some (.lload 5, 2), none, some (.lcmp, 1), some (.ifCond .le 19, 3), none, none, some (.lload 9, 2), none, some (.lstore 5, 2), none, some (.iload 7, 2), none, some (.istore_n 2, 1), some (.aload_n 0, 1), some (.getfield 384, 3), none, none, some (.istore_n 3, 1), some (.iload 8, 2), none, some (.istore 4, 2), none, some (.iinc 7 1, 3), none, none, some (.goto (-86), 3), none, none, some (.aload_n 0, 1), some (.iload_n 2, 1), some (.putfield 381, 3), none, none, some (.aload_n 0, 1), some (.iload_n 3, 1), some (.putfield 384, 3), none, none, some (.aload_n 0, 1), some (.iload 4, 2), none, some (.putfield 398, 3), none, none, some (.iload_n 2, 1), some (.iconst (-1), 1), some (.if_icmp .eq 7, 3), none, none, some (.iconst 1, 1), some (.goto 4, 3), none, none, some (.iconst 0, 1), some (.ireturn, 1)]
def Y_X12_canDo : YM := (⟨RX12, "canDo", "(I)Z"⟩, prog_14_method_58_code, L_X12_canDo, 11, some .boolean)
def f_X12_canDo_102  (r0 : Option Nat) (i2 : Int32) (i3 : Int32) (i4 : Int32) (M : Mem) : Option (Int32 × Mem) :=
pI M r0 12 46 i2 fun M1 =>
pI M1 r0 12 47 i3 fun M2 =>
pI M2 r0 12 48 i4 fun M3 =>
(if i2 = (-1 : Int32) then
tv (0 : Int32) (some ((0 : Int32), M3))
else
tv (1 : Int32) (some ((1 : Int32), M3)))
def b_X12_canDo_13 (q13 : Option Nat → Int32 → Int32 → Int32 → Int32 → Int64 → Int32 → Mem → Option (Int32 × Mem)) (r0 : Option Nat) (i1 : Int32) (i2 : Int32) (i3 : Int32) (i4 : Int32) (l5 : Int64) (i7 : Int32) (M : Mem) : Option (Int32 × Mem) :=
gI M r0 12 2 fun v1 =>
(if v1 ≤ i7 then
f_X12_canDo_102 r0 i2 i3 i4 M
else
gR M r0 12 3 fun v2 =>
aI M v2 2 (2 : Int32) fun v3 =>
(if v3 = (-1 : Int32) then
f_X12_canDo_102 r0 i2 i3 i4 M
else
cR M r0 (1, 12) (cA (f_X12_clauseFor r0 i1 i7 M) fun v4 M1 =>
(if v4 = (-1 : Int32) then
q13 r0 i1 i2 i3 i4 l5 (i7 + (1 : Int32)) M1
else
pI M1 r0 12 46 i7 fun M2 =>
gR M2 r0 12 3 fun v5 =>
aI M2 v5 2 (2 : Int32) fun v6 =>
cR M2 r0 (1, 12) (cA (f_X12_sumOf r0 v6 (1 : Int32) i1 M2) fun v7 M3 =>
(if i2 = (-1 : Int32) then
gI M3 r0 12 47 fun v8 =>
q13 r0 i1 i7 v8 v4 v7 (i7 + (1 : Int32)) M3
else
(if (lg_cmp v7 l5) ≤ 0 then
q13 r0 i1 i2 i3 i4 l5 (i7 + (1 : Int32)) M3
else
gI M3 r0 12 47 fun v9 =>
q13 r0 i1 i7 v9 v4 v7 (i7 + (1 : Int32)) M3)))))))
def f_X12_canDo_13 (n : Nat) : Option Nat → Int32 → Int32 → Int32 → Int32 → Int64 → Int32 → Mem → Option (Int32 × Mem) := lpN (fun _ _ _ _ _ _ _ _ => none) (b_X12_canDo_13 ) n
def f_X12_canDo (r0 : Option Nat) (i1 : Int32) (M : Mem) : Option (Int32 × Mem) :=
f_X12_canDo_13 FU r0 i1 (-1 : Int32) (-1 : Int32) (-1 : Int32) (0 : Int64) (0 : Int32) M
def L_X12_laysMoves : List (Option (Instr × Nat)) := [some (.aload_n 0, 1), some (.iconst 0, 1), some (.putfield 401, 3), none, none, some (.iconst 0, 1), some (.istore_n 1, 1), some (.iload_n 1, 1), some (.bipush 8, 2), none, some (.if_icmp .ge 77, 3), none, none, some (.aload_n 0, 1), some (.iload_n 1, 1), some (.invokevirtual 404, 3), none, none, some (.istore_n 2, 1), some (.aload_n 0, 1), some (.getfield 94, 3), none, none, some (.iload_n 1, 1), some (.aload_n 0, 1), some (.getfield 381, 3), none, none, some (.iastore, 1), some (.aload_n 0, 1), some (.getfield 97, 3), none, none, some (.iload_n 1, 1), some (.aload_n 0, 1), some (.getfield 384, 3), none, none, some (.iastore, 1), some (.aload_n 0, 1), some (.getfield 100, 3), none, none, some (.iload_n 1, 1), some (.aload_n 0, 1), some (.getfield 398, 3), none, none, some (.iastore, 1), some (.aload_n 0, 1), some (.iload_n 2, 1), some (.ifCond .eq 23, 3), none, none, some (.aload_n 0, 1), some (.getfield 91, 3), none, none, some (.iload_n 1, 1), some (.iaload, 1), some (.ifCond .le 14, 3), none, none, some (.aload_n 0, 1), some (.getfield 401, 3), none, none, some (.iconst 1, 1), some (.iload_n 1, 1), some (.ishl, 1), some (.ior, 1), some (.goto 7, 3), none, none, some (.aload_n 0, 1), some (.getfield 401, 3), none, none, some (.putfield 401, 3), none, none, some (.iinc 1 1, 3), none, none, some (.goto (-77), 3), none, none, some (.return_, 1)]
def Y_X12_laysMoves : YM := (⟨RX12, "laysMoves", "()V"⟩, prog_14_method_59_code, L_X12_laysMoves, 3, none)
def b_X12_laysMoves_7 (q7 : Option Nat → Int32 → Mem → Option (Unit × Mem)) (r0 : Option Nat) (i1 : Int32) (M : Mem) : Option (Unit × Mem) :=
(if (8 : Int32) ≤ i1 then
some ((), M)
else
cR M r0 (1, 12) (cA (f_X12_canDo r0 i1 M) fun v1 M1 =>
gR M1 r0 12 50 fun v2 =>
gI M1 r0 12 46 fun v3 =>
wI M1 v2 2 i1 v3 fun M2 =>
gR M2 r0 12 51 fun v4 =>
gI M2 r0 12 47 fun v5 =>
wI M2 v4 2 i1 v5 fun M3 =>
gR M3 r0 12 52 fun v6 =>
gI M3 r0 12 48 fun v7 =>
wI M3 v6 2 i1 v7 fun M4 =>
(if v1 = 0 then
gI M4 r0 12 49 fun v8 =>
pI M4 r0 12 49 v8 fun M5 =>
q7 r0 (i1 + (1 : Int32)) M5
else
gR M4 r0 12 44 fun v9 =>
aI M4 v9 2 i1 fun v10 =>
(if v10 ≤ 0 then
gI M4 r0 12 49 fun v11 =>
pI M4 r0 12 49 v11 fun M6 =>
q7 r0 (i1 + (1 : Int32)) M6
else
gI M4 r0 12 49 fun v12 =>
pI M4 r0 12 49 (v12 ||| ((1 : Int32) <<< (i1 &&& 31))) fun M7 =>
q7 r0 (i1 + (1 : Int32)) M7))))
def f_X12_laysMoves_7 (n : Nat) : Option Nat → Int32 → Mem → Option (Unit × Mem) := lpN (fun _ _ _ => none) (b_X12_laysMoves_7 ) n
def f_X12_laysMoves (r0 : Option Nat) (M : Mem) : Option (Unit × Mem) :=
pI M r0 12 49 (0 : Int32) fun M1 =>
f_X12_laysMoves_7 FU r0 (0 : Int32) M1
def L_X12_laysNow : List (Option (Instr × Nat)) := [some (.iconst 0, 1), some (.istore_n 1, 1), some (.iload_n 1, 1), some (.bipush 12, 2), none, some (.if_icmp .ge 24, 3), none, none, some (.aload_n 0, 1), some (.getfield 88, 3), none, none, some (.iload_n 1, 1), some (.aload_n 0, 1), some (.getfield 7, 3), none, none, some (.bipush 20, 2), none, some (.iload_n 1, 1), some (.iadd, 1), some (.iaload, 1), some (.iastore, 1), some (.iinc 1 1, 3), none, none, some (.goto (-24), 3), none, none, some (.iconst 0, 1), some (.istore_n 1, 1), some (.iload_n 1, 1), some (.bipush 8, 2), none, some (.if_icmp .ge 24, 3), none, none, some (.aload_n 0, 1), some (.getfield 91, 3), none, none, some (.iload_n 1, 1), some (.aload_n 0, 1), some (.getfield 7, 3), none, none, some (.bipush 10, 2), none, some (.iload_n 1, 1), some (.iadd, 1), some (.iaload, 1), some (.iastore, 1), some (.iinc 1 1, 3), none, none, some (.goto (-24), 3), none, none, some (.aload_n 0, 1), some (.aload_n 0, 1), some (.getfield 7, 3), none, none, some (.iconst 0, 1), some (.iaload, 1), some (.putfield 355, 3), none, none, some (.return_, 1)]
def Y_X12_laysNow : YM := (⟨RX12, "laysNow", "()V"⟩, prog_14_method_47_code, L_X12_laysNow, 2, none)
def b_X12_laysNow_31 (q31 : Option Nat → Int32 → Mem → Option (Unit × Mem)) (r0 : Option Nat) (i1 : Int32) (M : Mem) : Option (Unit × Mem) :=
(if (8 : Int32) ≤ i1 then
gR M r0 12 3 fun v1 =>
aI M v1 2 (0 : Int32) fun v2 =>
pI M r0 12 45 v2 fun M1 =>
some ((), M1)
else
gR M r0 12 44 fun v3 =>
gR M r0 12 3 fun v4 =>
aI M v4 2 ((10 : Int32) + i1) fun v5 =>
wI M v3 2 i1 v5 fun M2 =>
q31 r0 (i1 + (1 : Int32)) M2)
def f_X12_laysNow_31 (n : Nat) : Option Nat → Int32 → Mem → Option (Unit × Mem) := lpN (fun _ _ _ => none) (b_X12_laysNow_31 ) n
def b_X12_laysNow_2 (q2 : Option Nat → Int32 → Mem → Option (Unit × Mem)) (r0 : Option Nat) (i1 : Int32) (M : Mem) : Option (Unit × Mem) :=
(if (12 : Int32) ≤ i1 then
f_X12_laysNow_31 FU r0 (0 : Int32) M
else
gR M r0 12 43 fun v1 =>
gR M r0 12 3 fun v2 =>
aI M v2 2 ((20 : Int32) + i1) fun v3 =>
wI M v1 2 i1 v3 fun M1 =>
q2 r0 (i1 + (1 : Int32)) M1)
def f_X12_laysNow_2 (n : Nat) : Option Nat → Int32 → Mem → Option (Unit × Mem) := lpN (fun _ _ _ => none) (b_X12_laysNow_2 ) n
def f_X12_laysNow (r0 : Option Nat) (M : Mem) : Option (Unit × Mem) :=
f_X12_laysNow_2 FU r0 (0 : Int32) M
def L_X12_plays : List (Option (Instr × Nat)) := [some (.aload_n 0, 1), some (.getfield 91, 3), none, none, some (.iload_n 1, 1), some (.aload_n 0, 1), some (.getfield 91, 3), none, none, some (.iload_n 1, 1), some (.iaload, 1), some (.iconst 3, 1), some (.if_icmp .ne 7, 3), none, none, some (.iconst 3, 1), some (.goto 11, 3), none, none, some (.aload_n 0, 1), some (.getfield 91, 3), none, none, some (.iload_n 1, 1), some (.iaload, 1), some (.iconst 1, 1), some (.iadd, 1), some (.iastore, 1), some (.aload_n 0, 1), some (.getfield 91, 3), none, none, some (.iload_n 2, 1), some (.dup2, 1), some (.iaload, 1), some (.iconst 1, 1), some (.isub, 1), some (.iastore, 1), some (.bipush 20, 2), none, some (.aload_n 0, 1), some (.getfield 7, 3), none, none, some (.iconst 2, 1), some (.iaload, 1), some (.imul, 1), some (.aload_n 0, 1), some (.getfield 100, 3), none, none, some (.iload_n 2, 1), some (.iaload, 1), some (.iadd, 1), some (.istore_n 3, 1), some (.aload_n 0, 1), some (.getfield 94, 3), none, none, some (.iload_n 2, 1), some (.iaload, 1), some (.istore 4, 2), none, some (.aload_n 0, 1), some (.getfield 97, 3), none, none, some (.iload_n 2, 1), some (.iaload, 1), some (.istore 5, 2), none, some (.aload_n 0, 1), some (.getfield 45, 3), none, none, some (.iload_n 3, 1), some (.iaload, 1), some (.istore 6, 2), none, some (.aload_n 0, 1), some (.getfield 88, 3), none, none, some (.iload 4, 2), none, some (.iaload, 1), some (.istore 7, 2), none, some (.aload_n 0, 1), some (.getfield 39, 3), none, none, some (.iload_n 3, 1), some (.iaload, 1), some (.ifCond .eq 23, 3), none, none, some (.aload_n 0, 1), some (.getfield 39, 3), none, none, some (.iload_n 3, 1), some (.iaload, 1), some (.iconst 1, 1), some (.if_icmp .eq 13, 3), none, none, some (.aload_n 0, 1), some (.getfield 39, 3), none, none, some (.iload_n 3, 1), some (.iaload, 1), some (.iconst 2, 1), some (.if_icmp .ne 109, 3), none, none, some (.aload_n 0, 1), some (.iload 4, 2), none, some (.iload 6, 2), none, some (.invokevirtual 361, 3), none, none, some (.istore 8, 2), none, some (.aload_n 0, 1), some (.getfield 39, 3), none, none, some (.iload_n 3, 1), some (.iaload, 1), some (.iconst 1, 1), some (.if_icmp .ne 39, 3), none, none, some (.aload_n 0, 1), some (.getfield 88, 3), none, none, some (.iload 8, 2), none, some (.aload_n 0, 1), some (.getfield 88, 3), none, none, some (.iload 8, 2), none, some (.iaload, 1), some (.iconst 1, 1), some (.isub, 1), some (.iconst 4, 1), some (.idiv, 1), some (.aload_n 0, 1), some (.getfield 355, 3), none, none, some (.if_icmp .ne 13, 3), none, none, some (.aload_n 0, 1), some (.getfield 88, 3), none, none, some (.iload 8, 2), none, some (.iaload, 1), some (.goto 4, 3), none, none, some (.iconst 0, 1), some (.iastore, 1), some (.aload_n 0, 1), some (.getfield 39, 3), none, none, some (.iload_n 3, 1), some (.iaload, 1), some (.iconst 2, 1), some (.if_icmp .ne 23, 3), none, none, some (.aload_n 0, 1), some (.getfield 88, 3), none, none, some (.aload_n 0, 1), some (.iload 8, 2), none, some (.iload 6, 2), none, some (.invokevirtual 361, 3), none, none, some (.aload_n 0, 1), some (.getfield 88, 3), none, none, some (.iload 8, 2), none, some (.iaload, 1), some (.iastore, 1), some (.aload_n 0, 1), some (.getfield 88, 3), none, none, some (.iload 4, 2), none, some (.iconst 0, 1), some (.iastore, 1), some (.aload_n 0, 1), some (.getfield 88, 3), none, none, some (.iload 5, 2), none, some (.iload 7, 2), none, some (.iastore, 1), some (.goto 21, 3), none, none, some (.aload_n 0, 1), some (.getfield 88, 3), none, none, some (.iload 4, 2), none, some (.iconst 1, 1), some (.iload 6, 2), none, some (.iadd, 1), some (.iconst 4, 1), some (.aload_n 0, 1), some (.getfield 355, 3), none, none, some (.imul, 1), some (.iadd, 1), some (.iastore, 1), some (.aload_n 0, 1), some (.iconst 1, 1), some (.aload_n 0, 1), some (.getfield 355, 3), none, none, some (.isub, 1), some (.putfield 355, 3), none, none, some (.return_, 1)]
def Y_X12_plays : YM := (⟨RX12, "plays", "(II)V"⟩, prog_14_method_62_code, L_X12_plays, 9, none)
def f_X12_plays_203  (r0 : Option Nat) (i4 : Int32) (i5 : Int32) (i7 : Int32) (M : Mem) : Option (Unit × Mem) :=
gR M r0 12 43 fun v1 =>
wI M v1 2 i4 (0 : Int32) fun M1 =>
gR M1 r0 12 43 fun v2 =>
wI M1 v2 2 i5 i7 fun M2 =>
gI M2 r0 12 45 fun v3 =>
pI M2 r0 12 45 ((1 : Int32) - v3) fun M3 =>
some ((), M3)
def f_X12_plays_173  (r0 : Option Nat) (i3 : Int32) (i4 : Int32) (i5 : Int32) (i6 : Int32) (i7 : Int32) (i8 : Int32) (M : Mem) : Option (Unit × Mem) :=
gR M r0 12 13 fun v1 =>
aI M v1 2 i3 fun v2 =>
(if v2 = (2 : Int32) then
gR M r0 12 43 fun v3 =>
cR M r0 (1, 12) (cA (f_X12_beside r0 i8 i6 M) fun v4 M1 =>
gR M1 r0 12 43 fun v5 =>
aI M1 v5 2 i8 fun v6 =>
wI M1 v3 2 v4 v6 fun M2 =>
f_X12_plays_203 r0 i4 i5 i7 M2)
else
f_X12_plays_203 r0 i4 i5 i7 M)
def f_X12_plays_117  (r0 : Option Nat) (i3 : Int32) (i4 : Int32) (i5 : Int32) (i6 : Int32) (i7 : Int32) (M : Mem) : Option (Unit × Mem) :=
cR M r0 (1, 12) (cA (f_X12_beside r0 i4 i6 M) fun v1 M1 =>
gR M1 r0 12 13 fun v2 =>
aI M1 v2 2 i3 fun v3 =>
(if v3 = (1 : Int32) then
gR M1 r0 12 43 fun v4 =>
gR M1 r0 12 43 fun v5 =>
aI M1 v5 2 v1 fun v6 =>
nzI (4 : Int32) (
gI M1 r0 12 45 fun v7 =>
(if ((v6 - (1 : Int32)) / (4 : Int32)) = v7 then
gR M1 r0 12 43 fun v8 =>
aI M1 v8 2 v1 fun v9 =>
wI M1 v4 2 v1 v9 fun M2 =>
f_X12_plays_173 r0 i3 i4 i5 i6 i7 v1 M2
else
wI M1 v4 2 v1 (0 : Int32) fun M3 =>
f_X12_plays_173 r0 i3 i4 i5 i6 i7 v1 M3))
else
f_X12_plays_173 r0 i3 i4 i5 i6 i7 v1 M1))
def f_X12_plays_27  (r0 : Option Nat) (i2 : Int32) (sr0 : Option Nat) (si1 : Int32) (si2 : Int32) (M : Mem) : Option (Unit × Mem) :=
wI M sr0 2 si1 si2 fun M1 =>
gR M1 r0 12 44 fun v1 =>
aI M1 v1 2 i2 fun v2 =>
wI M1 v1 2 i2 (v2 - (1 : Int32)) fun M2 =>
gR M2 r0 12 3 fun v3 =>
aI M2 v3 2 (2 : Int32) fun v4 =>
gR M2 r0 12 52 fun v5 =>
aI M2 v5 2 i2 fun v6 =>
gR M2 r0 12 50 fun v7 =>
aI M2 v7 2 i2 fun v8 =>
gR M2 r0 12 51 fun v9 =>
aI M2 v9 2 i2 fun v10 =>
gR M2 r0 12 15 fun v11 =>
aI M2 v11 2 (((20 : Int32) * v4) + v6) fun v12 =>
gR M2 r0 12 43 fun v13 =>
aI M2 v13 2 v8 fun v14 =>
gR M2 r0 12 13 fun v15 =>
aI M2 v15 2 (((20 : Int32) * v4) + v6) fun v16 =>
(if v16 = 0 then
f_X12_plays_117 r0 (((20 : Int32) * v4) + v6) v8 v10 v12 v14 M2
else
gR M2 r0 12 13 fun v17 =>
aI M2 v17 2 (((20 : Int32) * v4) + v6) fun v18 =>
(if v18 = (1 : Int32) then
f_X12_plays_117 r0 (((20 : Int32) * v4) + v6) v8 v10 v12 v14 M2
else
gR M2 r0 12 13 fun v19 =>
aI M2 v19 2 (((20 : Int32) * v4) + v6) fun v20 =>
(if v20 = (2 : Int32) then
f_X12_plays_117 r0 (((20 : Int32) * v4) + v6) v8 v10 v12 v14 M2
else
gR M2 r0 12 43 fun v21 =>
gI M2 r0 12 45 fun v22 =>
wI M2 v21 2 v8 (((1 : Int32) + v12) + ((4 : Int32) * v22)) fun M3 =>
gI M3 r0 12 45 fun v23 =>
pI M3 r0 12 45 ((1 : Int32) - v23) fun M4 =>
some ((), M4))))
def f_X12_plays (r0 : Option Nat) (i1 : Int32) (i2 : Int32) (M : Mem) : Option (Unit × Mem) :=
gR M r0 12 44 fun v1 =>
gR M r0 12 44 fun v2 =>
aI M v2 2 i1 fun v3 =>
(if v3 = (3 : Int32) then
f_X12_plays_27 r0 i2 v1 i1 (3 : Int32) M
else
gR M r0 12 44 fun v4 =>
aI M v4 2 i1 fun v5 =>
f_X12_plays_27 r0 i2 v1 i1 (v5 + (1 : Int32)) M)
theorem fl_12_398 : FLk RX12 398 12 48 false := ⟨_, rfl, by decide, (gw_in 1164 (by decide +kernel) (by decide +kernel)), rfl⟩
set_option maxRecDepth 30000 in
theorem ok_X12_clauseFor : okY Y_X12_clauseFor := ⟨(gw_in 1523 rfl rfl), (gw_in 14 (by decide +kernel) (by decide +kernel)), by decide +kernel, by decide +kernel⟩
theorem ml_12_391 : MLv RX12 391 Y_X12_clauseFor 2 := ⟨(gw_in 1520 (by decide +kernel) (by decide +kernel)), (gw_in 1522 (by decide +kernel) (by decide +kernel)), (gw_sel (n := 70) 75 (by decide +kernel) (by decide +kernel)), ok_X12_clauseFor, by decide +kernel⟩
set_option maxRecDepth 30000 in
theorem ok_X12_sumOf : okY Y_X12_sumOf := ⟨(gw_in 1567 rfl rfl), (gw_in 14 (by decide +kernel) (by decide +kernel)), by decide +kernel, by decide +kernel⟩
theorem ml_12_394 : MLv RX12 394 Y_X12_sumOf 3 := ⟨(gw_in 1564 (by decide +kernel) (by decide +kernel)), (gw_in 1566 (by decide +kernel) (by decide +kernel)), (gw_sel (n := 70) 84 (by decide +kernel) (by decide +kernel)), ok_X12_sumOf, by decide +kernel⟩
set_option maxRecDepth 30000 in
theorem ok_X12_canDo : okY Y_X12_canDo := ⟨(gw_in 1519 rfl rfl), (gw_in 14 (by decide +kernel) (by decide +kernel)), by decide +kernel, by decide +kernel⟩
theorem ml_12_404 : MLv RX12 404 Y_X12_canDo 1 := ⟨(gw_in 1516 (by decide +kernel) (by decide +kernel)), (gw_in 1518 (by decide +kernel) (by decide +kernel)), (gw_sel (n := 70) 74 (by decide +kernel) (by decide +kernel)), ok_X12_canDo, by decide +kernel⟩
theorem fl_12_94 : FLk RX12 94 12 50 true := ⟨_, rfl, by decide, (gw_in 1166 (by decide +kernel) (by decide +kernel)), rfl⟩
theorem fl_12_97 : FLk RX12 97 12 51 true := ⟨_, rfl, by decide, (gw_in 1167 (by decide +kernel) (by decide +kernel)), rfl⟩
theorem fl_12_100 : FLk RX12 100 12 52 true := ⟨_, rfl, by decide, (gw_in 1168 (by decide +kernel) (by decide +kernel)), rfl⟩
set_option maxRecDepth 20000 in
theorem dk_X12_canDo : ∀ pc i, L_X12_canDo[pc]? = some (some i) → decode prog_14_method_58_code pc = .ok i := dk_of (by decide +kernel)
theorem s_X12_canDo_102 {d : Nat} {P : Int32 → Mem → Prop}   (r0 : Option Nat) (i2 : Int32) (i3 : Int32) (i4 : Int32) (M : Mem) (h : FQ (f_X12_canDo_102  r0 i2 i3 i4 M) P) : wp Y_X12_canDo (rmD (d + 5) 0 0) (FM (QI P) 0 0) 0 0 102 [some (va_rf r0), none, some (.int i2), some (.int i3), some (.int i4), none, none, none, none, none, none] [] M := by
  unfold f_X12_canDo_102 at h
  refine r_aload_n rfl rfl ?_
  refine r_iload_n rfl rfl ?_
  refine r_putI rfl fl_12_381 (fun z => by cases z) rfl h (fun M1 h => ?_)
  refine r_aload_n rfl rfl ?_
  refine r_iload_n rfl rfl ?_
  refine r_putI rfl fl_12_384 (fun z => by cases z) rfl h (fun M2 h => ?_)
  refine r_aload_n rfl rfl ?_
  refine r_iload rfl rfl ?_
  refine r_putI rfl fl_12_398 (fun z => by cases z) rfl h (fun M3 h => ?_)
  refine r_iload_n rfl rfl ?_
  refine r_iconst (v := -1) rfl (by decide) ?_
  refine r_ic_eq 127 rfl (by decide) h (fun h => ?_) (fun h => ?_)
  · refine r_iconst (v := 0) rfl (by decide) ?_
    exact r_zret rfl rfl ⟨Nat.le_of_ble_eq_true rfl, Nat.le_of_ble_eq_true rfl⟩ h
  · refine r_iconst (v := 1) rfl (by decide) ?_
    refine r_goto 128 rfl (by decide) ?_
    exact r_zret rfl rfl ⟨Nat.le_of_ble_eq_true rfl, Nat.le_of_ble_eq_true rfl⟩ h
theorem sb_X12_canDo_13 {d : Nat} {P : Int32 → Mem → Prop} {q13 : Option Nat → Int32 → Int32 → Int32 → Int32 → Int64 → Int32 → Mem → Option (Int32 × Mem)} (hq13 : ∀ (r0 : Option Nat) (i1 : Int32) (i2 : Int32) (i3 : Int32) (i4 : Int32) (l5 : Int64) (i7 : Int32) (M : Mem), FQ (q13 r0 i1 i2 i3 i4 l5 i7 M) P → wp Y_X12_canDo (rmD (d + 5) 0 0) (FM (QI P) 0 0) 0 0 13 [some (va_rf r0), some (.int i1), some (.int i2), some (.int i3), some (.int i4), some (.long l5), none, some (.int i7), none, none, none] [] M) (r0 : Option Nat) (i1 : Int32) (i2 : Int32) (i3 : Int32) (i4 : Int32) (l5 : Int64) (i7 : Int32) (M : Mem) (h : FQ (b_X12_canDo_13 q13 r0 i1 i2 i3 i4 l5 i7 M) P) : wp Y_X12_canDo (rmD (d + 5) 0 0) (FM (QI P) 0 0) 0 0 13 [some (va_rf r0), some (.int i1), some (.int i2), some (.int i3), some (.int i4), some (.long l5), none, some (.int i7), none, none, none] [] M := by
  unfold b_X12_canDo_13 at h
  refine r_iload rfl rfl ?_
  refine r_aload_n rfl rfl ?_
  refine r_getI rfl fl_12_144 rfl h (fun v1 h => ?_)
  refine r_ic_ge 102 rfl (by decide) h (fun h => ?_) (fun h => ?_)
  · refine r_msk [true, false, true, true, true, false, true, false, true, true, true] rfl ?_
    exact s_X12_canDo_102 _ _ _ _ _ h
  · refine r_aload_n rfl rfl ?_
    refine r_getR rfl fl_12_7 rfl h (fun v2 h => ?_)
    refine r_iconst (v := 2) rfl (by decide) ?_
    refine r_iald rfl h (fun v3 h => ?_)
    refine r_iconst (v := -1) rfl (by decide) ?_
    refine r_ic_eq 102 rfl (by decide) h (fun h => ?_) (fun h => ?_)
    · refine r_msk [true, false, true, true, true, false, true, false, true, true, true] rfl ?_
      exact s_X12_canDo_102 _ _ _ _ _ h
    · refine r_aload_n rfl rfl ?_
      refine r_iload_n rfl rfl ?_
      refine r_iload rfl rfl ?_
      refine r_cv_i (vs := [.int i1, .int i7]) rfl ml_12_391 rfl (rOk.of rfl) ⟨Nat.zero_le _, Nat.zero_le _⟩ rfl rfl rfl h s_X12_clauseFor (fun v4 M1 h => ?_)
      refine r_istore (lo' := [some (va_rf r0), some (.int i1), some (.int i2), some (.int i3), some (.int i4), some (.long l5), none, some (.int i7), some (.int v4), none, none]) rfl rfl rfl rfl ?_
      refine r_iload rfl rfl ?_
      refine r_iconst (v := -1) rfl (by decide) ?_
      refine r_ic_eq 96 rfl (by decide) h (fun h => ?_) (fun h => ?_)
      · refine r_iinc (v := 1) (lo' := [some (va_rf r0), some (.int i1), some (.int i2), some (.int i3), some (.int i4), some (.long l5), none, some (.int (i7 + (1 : Int32))), some (.int v4), none, none]) rfl rfl rfl (by decide) rfl rfl ?_
        refine r_goto 13 rfl (by decide) ?_
        refine r_msk [true, true, true, true, true, true, true, true, false, true, true] rfl ?_
        exact hq13 _ _ _ _ _ _ _ _ h
      · refine r_aload_n rfl rfl ?_
        refine r_iload rfl rfl ?_
        refine r_putI rfl fl_12_381 (fun z => by cases z) rfl h (fun M2 h => ?_)
        refine r_aload_n rfl rfl ?_
        refine r_aload_n rfl rfl ?_
        refine r_getR rfl fl_12_7 rfl h (fun v5 h => ?_)
        refine r_iconst (v := 2) rfl (by decide) ?_
        refine r_iald rfl h (fun v6 h => ?_)
        refine r_iconst (v := 1) rfl (by decide) ?_
        refine r_iload_n rfl rfl ?_
        refine r_cv_l (vs := [.int v6, .int (1 : Int32), .int i1]) rfl ml_12_394 rfl (rOk.of rfl) ⟨Nat.zero_le _, Nat.zero_le _⟩ rfl rfl rfl h s_X12_sumOf (fun v7 M3 h => ?_)
        refine r_lstore (lo' := [some (va_rf r0), some (.int i1), some (.int i2), some (.int i3), some (.int i4), some (.long l5), none, some (.int i7), some (.int v4), some (.long v7), none]) rfl rfl rfl rfl ?_
        refine r_iload_n rfl rfl ?_
        refine r_iconst (v := -1) rfl (by decide) ?_
        refine r_ic_eq 80 rfl (by decide) h (fun h => ?_) (fun h => ?_)
        · refine r_lload rfl rfl ?_
          refine r_lstore (lo' := [some (va_rf r0), some (.int i1), some (.int i2), some (.int i3), some (.int i4), some (.long v7), none, some (.int i7), some (.int v4), some (.long v7), none]) rfl rfl rfl rfl ?_
          refine r_iload rfl rfl ?_
          refine r_istore_n (lo' := [some (va_rf r0), some (.int i1), some (.int i7), some (.int i3), some (.int i4), some (.long v7), none, some (.int i7), some (.int v4), some (.long v7), none]) rfl rfl rfl rfl ?_
          refine r_aload_n rfl rfl ?_
          refine r_getI rfl fl_12_384 rfl h (fun v8 h => ?_)
          refine r_istore_n (lo' := [some (va_rf r0), some (.int i1), some (.int i7), some (.int v8), some (.int i4), some (.long v7), none, some (.int i7), some (.int v4), some (.long v7), none]) rfl rfl rfl rfl ?_
          refine r_iload rfl rfl ?_
          refine r_istore (lo' := [some (va_rf r0), some (.int i1), some (.int i7), some (.int v8), some (.int v4), some (.long v7), none, some (.int i7), some (.int v4), some (.long v7), none]) rfl rfl rfl rfl ?_
          refine r_iinc (v := 1) (lo' := [some (va_rf r0), some (.int i1), some (.int i7), some (.int v8), some (.int v4), some (.long v7), none, some (.int (i7 + (1 : Int32))), some (.int v4), some (.long v7), none]) rfl rfl rfl (by decide) rfl rfl ?_
          refine r_goto 13 rfl (by decide) ?_
          refine r_msk [true, true, true, true, true, true, true, true, false, false, true] rfl ?_
          exact hq13 _ _ _ _ _ _ _ _ h
        · refine r_lload rfl rfl ?_
          refine r_lload rfl rfl ?_
          refine r_lcmp rfl ?_
          refine r_if_le 96 rfl (by decide) h (fun h => ?_) (fun h => ?_)
          · refine r_iinc (v := 1) (lo' := [some (va_rf r0), some (.int i1), some (.int i2), some (.int i3), some (.int i4), some (.long l5), none, some (.int (i7 + (1 : Int32))), some (.int v4), some (.long v7), none]) rfl rfl rfl (by decide) rfl rfl ?_
            refine r_goto 13 rfl (by decide) ?_
            refine r_msk [true, true, true, true, true, true, true, true, false, false, true] rfl ?_
            exact hq13 _ _ _ _ _ _ _ _ h
          · refine r_lload rfl rfl ?_
            refine r_lstore (lo' := [some (va_rf r0), some (.int i1), some (.int i2), some (.int i3), some (.int i4), some (.long v7), none, some (.int i7), some (.int v4), some (.long v7), none]) rfl rfl rfl rfl ?_
            refine r_iload rfl rfl ?_
            refine r_istore_n (lo' := [some (va_rf r0), some (.int i1), some (.int i7), some (.int i3), some (.int i4), some (.long v7), none, some (.int i7), some (.int v4), some (.long v7), none]) rfl rfl rfl rfl ?_
            refine r_aload_n rfl rfl ?_
            refine r_getI rfl fl_12_384 rfl h (fun v9 h => ?_)
            refine r_istore_n (lo' := [some (va_rf r0), some (.int i1), some (.int i7), some (.int v9), some (.int i4), some (.long v7), none, some (.int i7), some (.int v4), some (.long v7), none]) rfl rfl rfl rfl ?_
            refine r_iload rfl rfl ?_
            refine r_istore (lo' := [some (va_rf r0), some (.int i1), some (.int i7), some (.int v9), some (.int v4), some (.long v7), none, some (.int i7), some (.int v4), some (.long v7), none]) rfl rfl rfl rfl ?_
            refine r_iinc (v := 1) (lo' := [some (va_rf r0), some (.int i1), some (.int i7), some (.int v9), some (.int v4), some (.long v7), none, some (.int (i7 + (1 : Int32))), some (.int v4), some (.long v7), none]) rfl rfl rfl (by decide) rfl rfl ?_
            refine r_goto 13 rfl (by decide) ?_
            refine r_msk [true, true, true, true, true, true, true, true, false, false, true] rfl ?_
            exact hq13 _ _ _ _ _ _ _ _ h
theorem s_X12_canDo_13 {d : Nat} {P : Int32 → Mem → Prop}   : ∀ (k : Nat) (r0 : Option Nat) (i1 : Int32) (i2 : Int32) (i3 : Int32) (i4 : Int32) (l5 : Int64) (i7 : Int32) (M : Mem), FQ (f_X12_canDo_13  k r0 i1 i2 i3 i4 l5 i7 M) P → wp Y_X12_canDo (rmD (d + 5) 0 0) (FM (QI P) 0 0) 0 0 13 [some (va_rf r0), some (.int i1), some (.int i2), some (.int i3), some (.int i4), some (.long l5), none, some (.int i7), none, none, none] [] M
  | 0, _, _, _, _, _, _, _, _, h => h.no
  | k + 1, r0, i1, i2, i3, i4, l5, i7, M, h => sb_X12_canDo_13  (s_X12_canDo_13  k) r0 i1 i2 i3 i4 l5 i7 M h
theorem s_X12_canDo {d : Nat} {P : Int32 → Mem → Prop} {r0 : Option Nat} {i1 : Int32} {M : Mem} (h : FQ (f_X12_canDo r0 i1 M) P) : Con Y_X12_canDo (d + 5) 0 0 [va_rf r0, .int i1] M (QI P) := by
  refine Con.of [some (va_rf r0), some (.int i1), none, none, none, none, none, none, none, none, none] (by decide +kernel) dk_X12_canDo (by simp [Y_X12_canDo, cat_rf, cat_i, cat_l]) (by simp [loE, Y_X12_canDo, cat_rf, cat_i, cat_l, List.replicate]) ?_
  unfold f_X12_canDo at h
  refine r_iconst (v := -1) rfl (by decide) ?_
  refine r_istore_n (lo' := [some (va_rf r0), some (.int i1), some (.int (-1 : Int32)), none, none, none, none, none, none, none, none]) rfl rfl rfl rfl ?_
  refine r_iconst (v := -1) rfl (by decide) ?_
  refine r_istore_n (lo' := [some (va_rf r0), some (.int i1), some (.int (-1 : Int32)), some (.int (-1 : Int32)), none, none, none, none, none, none, none]) rfl rfl rfl rfl ?_
  refine r_iconst (v := -1) rfl (by decide) ?_
  refine r_istore (lo' := [some (va_rf r0), some (.int i1), some (.int (-1 : Int32)), some (.int (-1 : Int32)), some (.int (-1 : Int32)), none, none, none, none, none, none]) rfl rfl rfl rfl ?_
  refine r_lconst (v := 0) rfl (by decide) ?_
  refine r_lstore (lo' := [some (va_rf r0), some (.int i1), some (.int (-1 : Int32)), some (.int (-1 : Int32)), some (.int (-1 : Int32)), some (.long (0 : Int64)), none, none, none, none, none]) rfl rfl rfl rfl ?_
  refine r_iconst (v := 0) rfl (by decide) ?_
  refine r_istore (lo' := [some (va_rf r0), some (.int i1), some (.int (-1 : Int32)), some (.int (-1 : Int32)), some (.int (-1 : Int32)), some (.long (0 : Int64)), none, some (.int (0 : Int32)), none, none, none]) rfl rfl rfl rfl ?_
  exact s_X12_canDo_13 FU _ _ _ _ _ _ _ _ h
set_option maxRecDepth 20000 in
theorem dk_X12_laysMoves : ∀ pc i, L_X12_laysMoves[pc]? = some (some i) → decode prog_14_method_59_code pc = .ok i := dk_of (by decide +kernel)
theorem sb_X12_laysMoves_7 {d : Nat} {P : Unit → Mem → Prop} {q7 : Option Nat → Int32 → Mem → Option (Unit × Mem)} (hq7 : ∀ (r0 : Option Nat) (i1 : Int32) (M : Mem), FQ (q7 r0 i1 M) P → wp Y_X12_laysMoves (rmD (d + 6) 0 0) (FM (QV P) 0 0) 0 0 7 [some (va_rf r0), some (.int i1), none] [] M) (r0 : Option Nat) (i1 : Int32) (M : Mem) (h : FQ (b_X12_laysMoves_7 q7 r0 i1 M) P) : wp Y_X12_laysMoves (rmD (d + 6) 0 0) (FM (QV P) 0 0) 0 0 7 [some (va_rf r0), some (.int i1), none] [] M := by
  unfold b_X12_laysMoves_7 at h
  refine r_iload_n rfl rfl ?_
  refine r_bipush (v := 8) rfl (by decide) ?_
  refine r_ic_ge 87 rfl (by decide) h (fun h => ?_) (fun h => ?_)
  · exact r_vret rfl rfl ⟨Nat.le_of_ble_eq_true rfl, Nat.le_of_ble_eq_true rfl⟩ h
  · refine r_aload_n rfl rfl ?_
    refine r_iload_n rfl rfl ?_
    refine r_cv_i (vs := [.int i1]) rfl ml_12_404 rfl (rOk.of rfl) ⟨Nat.zero_le _, Nat.zero_le _⟩ rfl rfl rfl h s_X12_canDo (fun v1 M1 h => ?_)
    refine r_istore_n (lo' := [some (va_rf r0), some (.int i1), some (.int v1)]) rfl rfl rfl rfl ?_
    refine r_aload_n rfl rfl ?_
    refine r_getR rfl fl_12_94 rfl h (fun v2 h => ?_)
    refine r_iload_n rfl rfl ?_
    refine r_aload_n rfl rfl ?_
    refine r_getI rfl fl_12_381 rfl h (fun v3 h => ?_)
    refine r_iast rfl h (fun M2 h => ?_)
    refine r_aload_n rfl rfl ?_
    refine r_getR rfl fl_12_97 rfl h (fun v4 h => ?_)
    refine r_iload_n rfl rfl ?_
    refine r_aload_n rfl rfl ?_
    refine r_getI rfl fl_12_384 rfl h (fun v5 h => ?_)
    refine r_iast rfl h (fun M3 h => ?_)
    refine r_aload_n rfl rfl ?_
    refine r_getR rfl fl_12_100 rfl h (fun v6 h => ?_)
    refine r_iload_n rfl rfl ?_
    refine r_aload_n rfl rfl ?_
    refine r_getI rfl fl_12_398 rfl h (fun v7 h => ?_)
    refine r_iast rfl h (fun M4 h => ?_)
    refine r_aload_n rfl rfl ?_
    refine r_iload_n rfl rfl ?_
    refine r_if_eq 74 rfl (by decide) h (fun h => ?_) (fun h => ?_)
    · refine r_aload_n rfl rfl ?_
      refine r_getI rfl fl_12_401 rfl h (fun v8 h => ?_)
      refine r_putI rfl fl_12_401 (fun z => by cases z) rfl h (fun M5 h => ?_)
      refine r_iinc (v := 1) (lo' := [some (va_rf r0), some (.int (i1 + (1 : Int32))), some (.int v1)]) rfl rfl rfl (by decide) (by simp [stOk, cat_rf]) rfl ?_
      refine r_goto 7 rfl (by decide) ?_
      refine r_msk [true, true, false] rfl ?_
      exact hq7 _ _ _ h
    · refine r_aload_n rfl rfl ?_
      refine r_getR rfl fl_12_91 rfl h (fun v9 h => ?_)
      refine r_iload_n rfl rfl ?_
      refine r_iald rfl h (fun v10 h => ?_)
      refine r_if_le 74 rfl (by decide) h (fun h => ?_) (fun h => ?_)
      · refine r_aload_n rfl rfl ?_
        refine r_getI rfl fl_12_401 rfl h (fun v11 h => ?_)
        refine r_putI rfl fl_12_401 (fun z => by cases z) rfl h (fun M6 h => ?_)
        refine r_iinc (v := 1) (lo' := [some (va_rf r0), some (.int (i1 + (1 : Int32))), some (.int v1)]) rfl rfl rfl (by decide) (by simp [stOk, cat_rf]) rfl ?_
        refine r_goto 7 rfl (by decide) ?_
        refine r_msk [true, true, false] rfl ?_
        exact hq7 _ _ _ h
      · refine r_aload_n rfl rfl ?_
        refine r_getI rfl fl_12_401 rfl h (fun v12 h => ?_)
        refine r_iconst (v := 1) rfl (by decide) ?_
        refine r_iload_n rfl rfl ?_
        refine r_ishl rfl ?_
        refine r_ior rfl ?_
        refine r_goto 78 rfl (by decide) ?_
        refine r_putI rfl fl_12_401 (fun z => by cases z) rfl h (fun M7 h => ?_)
        refine r_iinc (v := 1) (lo' := [some (va_rf r0), some (.int (i1 + (1 : Int32))), some (.int v1)]) rfl rfl rfl (by decide) (by simp [stOk, cat_rf]) rfl ?_
        refine r_goto 7 rfl (by decide) ?_
        refine r_msk [true, true, false] rfl ?_
        exact hq7 _ _ _ h
theorem s_X12_laysMoves_7 {d : Nat} {P : Unit → Mem → Prop}   : ∀ (k : Nat) (r0 : Option Nat) (i1 : Int32) (M : Mem), FQ (f_X12_laysMoves_7  k r0 i1 M) P → wp Y_X12_laysMoves (rmD (d + 6) 0 0) (FM (QV P) 0 0) 0 0 7 [some (va_rf r0), some (.int i1), none] [] M
  | 0, _, _, _, h => h.no
  | k + 1, r0, i1, M, h => sb_X12_laysMoves_7  (s_X12_laysMoves_7  k) r0 i1 M h
theorem s_X12_laysMoves {d : Nat} {P : Unit → Mem → Prop} {r0 : Option Nat} {M : Mem} (h : FQ (f_X12_laysMoves r0 M) P) : Con Y_X12_laysMoves (d + 6) 0 0 [va_rf r0] M (QV P) := by
  refine Con.of [some (va_rf r0), none, none] (by decide +kernel) dk_X12_laysMoves (by simp [Y_X12_laysMoves, cat_rf, cat_i, cat_l]) (by simp [loE, Y_X12_laysMoves, cat_rf, cat_i, cat_l, List.replicate]) ?_
  unfold f_X12_laysMoves at h
  refine r_aload_n rfl rfl ?_
  refine r_iconst (v := 0) rfl (by decide) ?_
  refine r_putI rfl fl_12_401 (fun z => by cases z) rfl h (fun M1 h => ?_)
  refine r_iconst (v := 0) rfl (by decide) ?_
  refine r_istore_n (lo' := [some (va_rf r0), some (.int (0 : Int32)), none]) rfl rfl (by simp [stOk, cat_rf]) rfl ?_
  exact s_X12_laysMoves_7 FU _ _ _ h
set_option maxRecDepth 20000 in
theorem dk_X12_laysNow : ∀ pc i, L_X12_laysNow[pc]? = some (some i) → decode prog_14_method_47_code pc = .ok i := dk_of (by decide +kernel)
theorem sb_X12_laysNow_31 {d : Nat} {P : Unit → Mem → Prop} {q31 : Option Nat → Int32 → Mem → Option (Unit × Mem)} (hq31 : ∀ (r0 : Option Nat) (i1 : Int32) (M : Mem), FQ (q31 r0 i1 M) P → wp Y_X12_laysNow (rmD d 0 0) (FM (QV P) 0 0) 0 0 31 [some (va_rf r0), some (.int i1)] [] M) (r0 : Option Nat) (i1 : Int32) (M : Mem) (h : FQ (b_X12_laysNow_31 q31 r0 i1 M) P) : wp Y_X12_laysNow (rmD d 0 0) (FM (QV P) 0 0) 0 0 31 [some (va_rf r0), some (.int i1)] [] M := by
  unfold b_X12_laysNow_31 at h
  refine r_iload_n rfl rfl ?_
  refine r_bipush (v := 8) rfl (by decide) ?_
  refine r_ic_ge 58 rfl (by decide) h (fun h => ?_) (fun h => ?_)
  · refine r_aload_n rfl rfl ?_
    refine r_aload_n rfl rfl ?_
    refine r_getR rfl fl_12_7 rfl h (fun v1 h => ?_)
    refine r_iconst (v := 0) rfl (by decide) ?_
    refine r_iald rfl h (fun v2 h => ?_)
    refine r_putI rfl fl_12_355 (fun z => by cases z) rfl h (fun M1 h => ?_)
    exact r_vret rfl rfl ⟨Nat.le_of_ble_eq_true rfl, Nat.le_of_ble_eq_true rfl⟩ h
  · refine r_aload_n rfl rfl ?_
    refine r_getR rfl fl_12_91 rfl h (fun v3 h => ?_)
    refine r_iload_n rfl rfl ?_
    refine r_aload_n rfl rfl ?_
    refine r_getR rfl fl_12_7 rfl h (fun v4 h => ?_)
    refine r_bipush (v := 10) rfl (by decide) ?_
    refine r_iload_n rfl rfl ?_
    refine r_iadd rfl ?_
    refine r_iald rfl h (fun v5 h => ?_)
    refine r_iast rfl h (fun M2 h => ?_)
    refine r_iinc (v := 1) (lo' := [some (va_rf r0), some (.int (i1 + (1 : Int32)))]) rfl rfl rfl (by decide) (by simp [stOk, cat_rf]) rfl ?_
    refine r_goto 31 rfl (by decide) ?_
    exact hq31 _ _ _ h
theorem s_X12_laysNow_31 {d : Nat} {P : Unit → Mem → Prop}   : ∀ (k : Nat) (r0 : Option Nat) (i1 : Int32) (M : Mem), FQ (f_X12_laysNow_31  k r0 i1 M) P → wp Y_X12_laysNow (rmD d 0 0) (FM (QV P) 0 0) 0 0 31 [some (va_rf r0), some (.int i1)] [] M
  | 0, _, _, _, h => h.no
  | k + 1, r0, i1, M, h => sb_X12_laysNow_31  (s_X12_laysNow_31  k) r0 i1 M h
theorem sb_X12_laysNow_2 {d : Nat} {P : Unit → Mem → Prop} {q2 : Option Nat → Int32 → Mem → Option (Unit × Mem)} (hq2 : ∀ (r0 : Option Nat) (i1 : Int32) (M : Mem), FQ (q2 r0 i1 M) P → wp Y_X12_laysNow (rmD d 0 0) (FM (QV P) 0 0) 0 0 2 [some (va_rf r0), some (.int i1)] [] M) (r0 : Option Nat) (i1 : Int32) (M : Mem) (h : FQ (b_X12_laysNow_2 q2 r0 i1 M) P) : wp Y_X12_laysNow (rmD d 0 0) (FM (QV P) 0 0) 0 0 2 [some (va_rf r0), some (.int i1)] [] M := by
  unfold b_X12_laysNow_2 at h
  refine r_iload_n rfl rfl ?_
  refine r_bipush (v := 12) rfl (by decide) ?_
  refine r_ic_ge 29 rfl (by decide) h (fun h => ?_) (fun h => ?_)
  · refine r_iconst (v := 0) rfl (by decide) ?_
    refine r_istore_n (lo' := [some (va_rf r0), some (.int (0 : Int32))]) rfl rfl (by simp [stOk, cat_rf]) rfl ?_
    exact s_X12_laysNow_31 FU _ _ _ h
  · refine r_aload_n rfl rfl ?_
    refine r_getR rfl fl_12_88 rfl h (fun v1 h => ?_)
    refine r_iload_n rfl rfl ?_
    refine r_aload_n rfl rfl ?_
    refine r_getR rfl fl_12_7 rfl h (fun v2 h => ?_)
    refine r_bipush (v := 20) rfl (by decide) ?_
    refine r_iload_n rfl rfl ?_
    refine r_iadd rfl ?_
    refine r_iald rfl h (fun v3 h => ?_)
    refine r_iast rfl h (fun M1 h => ?_)
    refine r_iinc (v := 1) (lo' := [some (va_rf r0), some (.int (i1 + (1 : Int32)))]) rfl rfl rfl (by decide) (by simp [stOk, cat_rf]) rfl ?_
    refine r_goto 2 rfl (by decide) ?_
    exact hq2 _ _ _ h
theorem s_X12_laysNow_2 {d : Nat} {P : Unit → Mem → Prop}   : ∀ (k : Nat) (r0 : Option Nat) (i1 : Int32) (M : Mem), FQ (f_X12_laysNow_2  k r0 i1 M) P → wp Y_X12_laysNow (rmD d 0 0) (FM (QV P) 0 0) 0 0 2 [some (va_rf r0), some (.int i1)] [] M
  | 0, _, _, _, h => h.no
  | k + 1, r0, i1, M, h => sb_X12_laysNow_2  (s_X12_laysNow_2  k) r0 i1 M h
theorem s_X12_laysNow {d : Nat} {P : Unit → Mem → Prop} {r0 : Option Nat} {M : Mem} (h : FQ (f_X12_laysNow r0 M) P) : Con Y_X12_laysNow d 0 0 [va_rf r0] M (QV P) := by
  refine Con.of [some (va_rf r0), none] (by decide +kernel) dk_X12_laysNow (by simp [Y_X12_laysNow, cat_rf, cat_i, cat_l]) (by simp [loE, Y_X12_laysNow, cat_rf, cat_i, cat_l, List.replicate]) ?_
  unfold f_X12_laysNow at h
  refine r_iconst (v := 0) rfl (by decide) ?_
  refine r_istore_n (lo' := [some (va_rf r0), some (.int (0 : Int32))]) rfl rfl (by simp [stOk, cat_rf]) rfl ?_
  exact s_X12_laysNow_2 FU _ _ _ h
set_option maxRecDepth 20000 in
theorem dk_X12_plays : ∀ pc i, L_X12_plays[pc]? = some (some i) → decode prog_14_method_62_code pc = .ok i := dk_of (by decide +kernel)
theorem s_X12_plays_203 {d : Nat} {P : Unit → Mem → Prop}   (r0 : Option Nat) (i4 : Int32) (i5 : Int32) (i7 : Int32) (M : Mem) (h : FQ (f_X12_plays_203  r0 i4 i5 i7 M) P) : wp Y_X12_plays (rmD (d + 2) 0 0) (FM (QV P) 0 0) 0 0 203 [some (va_rf r0), none, none, none, some (.int i4), some (.int i5), none, some (.int i7), none] [] M := by
  unfold f_X12_plays_203 at h
  refine r_aload_n rfl rfl ?_
  refine r_getR rfl fl_12_88 rfl h (fun v1 h => ?_)
  refine r_iload rfl rfl ?_
  refine r_iconst (v := 0) rfl (by decide) ?_
  refine r_iast rfl h (fun M1 h => ?_)
  refine r_aload_n rfl rfl ?_
  refine r_getR rfl fl_12_88 rfl h (fun v2 h => ?_)
  refine r_iload rfl rfl ?_
  refine r_iload rfl rfl ?_
  refine r_iast rfl h (fun M2 h => ?_)
  refine r_goto 241 rfl (by decide) ?_
  refine r_aload_n rfl rfl ?_
  refine r_iconst (v := 1) rfl (by decide) ?_
  refine r_aload_n rfl rfl ?_
  refine r_getI rfl fl_12_355 rfl h (fun v3 h => ?_)
  refine r_isub rfl ?_
  refine r_putI rfl fl_12_355 (fun z => by cases z) rfl h (fun M3 h => ?_)
  exact r_vret rfl rfl ⟨Nat.le_of_ble_eq_true rfl, Nat.le_of_ble_eq_true rfl⟩ h
theorem s_X12_plays_173 {d : Nat} {P : Unit → Mem → Prop}   (r0 : Option Nat) (i3 : Int32) (i4 : Int32) (i5 : Int32) (i6 : Int32) (i7 : Int32) (i8 : Int32) (M : Mem) (h : FQ (f_X12_plays_173  r0 i3 i4 i5 i6 i7 i8 M) P) : wp Y_X12_plays (rmD (d + 2) 0 0) (FM (QV P) 0 0) 0 0 173 [some (va_rf r0), none, none, some (.int i3), some (.int i4), some (.int i5), some (.int i6), some (.int i7), some (.int i8)] [] M := by
  unfold f_X12_plays_173 at h
  refine r_aload_n rfl rfl ?_
  refine r_getR rfl fl_12_39 rfl h (fun v1 h => ?_)
  refine r_iload_n rfl rfl ?_
  refine r_iald rfl h (fun v2 h => ?_)
  refine r_iconst (v := 2) rfl (by decide) ?_
  refine r_ic_ne 203 rfl (by decide) h (fun h => ?_) (fun h => ?_)
  · refine r_aload_n rfl rfl ?_
    refine r_getR rfl fl_12_88 rfl h (fun v3 h => ?_)
    refine r_aload_n rfl rfl ?_
    refine r_iload rfl rfl ?_
    refine r_iload rfl rfl ?_
    refine r_cv_i (vs := [.int i8, .int i6]) rfl ml_12_361 rfl (rOk.of rfl) ⟨Nat.zero_le _, Nat.zero_le _⟩ rfl rfl rfl h s_X12_beside (fun v4 M1 h => ?_)
    refine r_aload_n rfl rfl ?_
    refine r_getR rfl fl_12_88 rfl h (fun v5 h => ?_)
    refine r_iload rfl rfl ?_
    refine r_iald rfl h (fun v6 h => ?_)
    refine r_iast rfl h (fun M2 h => ?_)
    refine r_msk [true, true, true, false, true, true, false, true, false] rfl ?_
    exact s_X12_plays_203 _ _ _ _ _ h
  · refine r_msk [true, true, true, false, true, true, false, true, false] rfl ?_
    exact s_X12_plays_203 _ _ _ _ _ h
theorem s_X12_plays_117 {d : Nat} {P : Unit → Mem → Prop}   (r0 : Option Nat) (i3 : Int32) (i4 : Int32) (i5 : Int32) (i6 : Int32) (i7 : Int32) (M : Mem) (h : FQ (f_X12_plays_117  r0 i3 i4 i5 i6 i7 M) P) : wp Y_X12_plays (rmD (d + 2) 0 0) (FM (QV P) 0 0) 0 0 117 [some (va_rf r0), none, none, some (.int i3), some (.int i4), some (.int i5), some (.int i6), some (.int i7), none] [] M := by
  unfold f_X12_plays_117 at h
  refine r_aload_n rfl rfl ?_
  refine r_iload rfl rfl ?_
  refine r_iload rfl rfl ?_
  refine r_cv_i (vs := [.int i4, .int i6]) rfl ml_12_361 rfl (rOk.of rfl) ⟨Nat.zero_le _, Nat.zero_le _⟩ rfl rfl rfl h s_X12_beside (fun v1 M1 h => ?_)
  refine r_istore (lo' := [some (va_rf r0), none, none, some (.int i3), some (.int i4), some (.int i5), some (.int i6), some (.int i7), some (.int v1)]) rfl rfl rfl rfl ?_
  refine r_aload_n rfl rfl ?_
  refine r_getR rfl fl_12_39 rfl h (fun v2 h => ?_)
  refine r_iload_n rfl rfl ?_
  refine r_iald rfl h (fun v3 h => ?_)
  refine r_iconst (v := 1) rfl (by decide) ?_
  refine r_ic_ne 173 rfl (by decide) h (fun h => ?_) (fun h => ?_)
  · refine r_aload_n rfl rfl ?_
    refine r_getR rfl fl_12_88 rfl h (fun v4 h => ?_)
    refine r_iload rfl rfl ?_
    refine r_aload_n rfl rfl ?_
    refine r_getR rfl fl_12_88 rfl h (fun v5 h => ?_)
    refine r_iload rfl rfl ?_
    refine r_iald rfl h (fun v6 h => ?_)
    refine r_iconst (v := 1) rfl (by decide) ?_
    refine r_isub rfl ?_
    refine r_iconst (v := 4) rfl (by decide) ?_
    refine r_idiv rfl h (fun h => ?_)
    refine r_aload_n rfl rfl ?_
    refine r_getI rfl fl_12_355 rfl h (fun v7 h => ?_)
    refine r_ic_ne 171 rfl (by decide) h (fun h => ?_) (fun h => ?_)
    · refine r_aload_n rfl rfl ?_
      refine r_getR rfl fl_12_88 rfl h (fun v8 h => ?_)
      refine r_iload rfl rfl ?_
      refine r_iald rfl h (fun v9 h => ?_)
      refine r_goto 172 rfl (by decide) ?_
      refine r_iast rfl h (fun M2 h => ?_)
      exact s_X12_plays_173 _ _ _ _ _ _ _ _ h
    · refine r_iconst (v := 0) rfl (by decide) ?_
      refine r_iast rfl h (fun M3 h => ?_)
      exact s_X12_plays_173 _ _ _ _ _ _ _ _ h
  · exact s_X12_plays_173 _ _ _ _ _ _ _ _ h
theorem s_X12_plays_27 {d : Nat} {P : Unit → Mem → Prop}   (r0 : Option Nat) (i2 : Int32) (sr0 : Option Nat) (si1 : Int32) (si2 : Int32) (M : Mem) (h : FQ (f_X12_plays_27  r0 i2 sr0 si1 si2 M) P) : wp Y_X12_plays (rmD (d + 2) 0 0) (FM (QV P) 0 0) 0 0 27 [some (va_rf r0), none, some (.int i2), none, none, none, none, none, none] [.int si2, .int si1, va_rf sr0] M := by
  unfold f_X12_plays_27 at h
  refine r_iast rfl h (fun M1 h => ?_)
  refine r_aload_n rfl rfl ?_
  refine r_getR rfl fl_12_91 rfl h (fun v1 h => ?_)
  refine r_iload_n rfl rfl ?_
  refine r_dup2 rfl rfl (cat_rf _) ?_
  refine r_iald rfl h (fun v2 h => ?_)
  refine r_iconst (v := 1) rfl (by decide) ?_
  refine r_isub rfl ?_
  refine r_iast rfl h (fun M2 h => ?_)
  refine r_bipush (v := 20) rfl (by decide) ?_
  refine r_aload_n rfl rfl ?_
  refine r_getR rfl fl_12_7 rfl h (fun v3 h => ?_)
  refine r_iconst (v := 2) rfl (by decide) ?_
  refine r_iald rfl h (fun v4 h => ?_)
  refine r_imul rfl ?_
  refine r_aload_n rfl rfl ?_
  refine r_getR rfl fl_12_100 rfl h (fun v5 h => ?_)
  refine r_iload_n rfl rfl ?_
  refine r_iald rfl h (fun v6 h => ?_)
  refine r_iadd rfl ?_
  refine r_istore_n (lo' := [some (va_rf r0), none, some (.int i2), some (.int (((20 : Int32) * v4) + v6)), none, none, none, none, none]) rfl rfl rfl rfl ?_
  refine r_aload_n rfl rfl ?_
  refine r_getR rfl fl_12_94 rfl h (fun v7 h => ?_)
  refine r_iload_n rfl rfl ?_
  refine r_iald rfl h (fun v8 h => ?_)
  refine r_istore (lo' := [some (va_rf r0), none, some (.int i2), some (.int (((20 : Int32) * v4) + v6)), some (.int v8), none, none, none, none]) rfl rfl rfl rfl ?_
  refine r_aload_n rfl rfl ?_
  refine r_getR rfl fl_12_97 rfl h (fun v9 h => ?_)
  refine r_iload_n rfl rfl ?_
  refine r_iald rfl h (fun v10 h => ?_)
  refine r_istore (lo' := [some (va_rf r0), none, some (.int i2), some (.int (((20 : Int32) * v4) + v6)), some (.int v8), some (.int v10), none, none, none]) rfl rfl rfl rfl ?_
  refine r_aload_n rfl rfl ?_
  refine r_getR rfl fl_12_45 rfl h (fun v11 h => ?_)
  refine r_iload_n rfl rfl ?_
  refine r_iald rfl h (fun v12 h => ?_)
  refine r_istore (lo' := [some (va_rf r0), none, some (.int i2), some (.int (((20 : Int32) * v4) + v6)), some (.int v8), some (.int v10), some (.int v12), none, none]) rfl rfl rfl rfl ?_
  refine r_aload_n rfl rfl ?_
  refine r_getR rfl fl_12_88 rfl h (fun v13 h => ?_)
  refine r_iload rfl rfl ?_
  refine r_iald rfl h (fun v14 h => ?_)
  refine r_istore (lo' := [some (va_rf r0), none, some (.int i2), some (.int (((20 : Int32) * v4) + v6)), some (.int v8), some (.int v10), some (.int v12), some (.int v14), none]) rfl rfl rfl rfl ?_
  refine r_aload_n rfl rfl ?_
  refine r_getR rfl fl_12_39 rfl h (fun v15 h => ?_)
  refine r_iload_n rfl rfl ?_
  refine r_iald rfl h (fun v16 h => ?_)
  refine r_if_eq 117 rfl (by decide) h (fun h => ?_) (fun h => ?_)
  · refine r_msk [true, true, false, true, true, true, true, true, true] rfl ?_
    exact s_X12_plays_117 _ _ _ _ _ _ _ h
  · refine r_aload_n rfl rfl ?_
    refine r_getR rfl fl_12_39 rfl h (fun v17 h => ?_)
    refine r_iload_n rfl rfl ?_
    refine r_iald rfl h (fun v18 h => ?_)
    refine r_iconst (v := 1) rfl (by decide) ?_
    refine r_ic_eq 117 rfl (by decide) h (fun h => ?_) (fun h => ?_)
    · refine r_msk [true, true, false, true, true, true, true, true, true] rfl ?_
      exact s_X12_plays_117 _ _ _ _ _ _ _ h
    · refine r_aload_n rfl rfl ?_
      refine r_getR rfl fl_12_39 rfl h (fun v19 h => ?_)
      refine r_iload_n rfl rfl ?_
      refine r_iald rfl h (fun v20 h => ?_)
      refine r_iconst (v := 2) rfl (by decide) ?_
      refine r_ic_ne 223 rfl (by decide) h (fun h => ?_) (fun h => ?_)
      · refine r_msk [true, true, false, true, true, true, true, true, true] rfl ?_
        exact s_X12_plays_117 _ _ _ _ _ _ _ h
      · refine r_aload_n rfl rfl ?_
        refine r_getR rfl fl_12_88 rfl h (fun v21 h => ?_)
        refine r_iload rfl rfl ?_
        refine r_iconst (v := 1) rfl (by decide) ?_
        refine r_iload rfl rfl ?_
        refine r_iadd rfl ?_
        refine r_iconst (v := 4) rfl (by decide) ?_
        refine r_aload_n rfl rfl ?_
        refine r_getI rfl fl_12_355 rfl h (fun v22 h => ?_)
        refine r_imul rfl ?_
        refine r_iadd rfl ?_
        refine r_iast rfl h (fun M3 h => ?_)
        refine r_aload_n rfl rfl ?_
        refine r_iconst (v := 1) rfl (by decide) ?_
        refine r_aload_n rfl rfl ?_
        refine r_getI rfl fl_12_355 rfl h (fun v23 h => ?_)
        refine r_isub rfl ?_
        refine r_putI rfl fl_12_355 (fun z => by cases z) rfl h (fun M4 h => ?_)
        exact r_vret rfl rfl ⟨Nat.le_of_ble_eq_true rfl, Nat.le_of_ble_eq_true rfl⟩ h
theorem s_X12_plays {d : Nat} {P : Unit → Mem → Prop} {r0 : Option Nat} {i1 : Int32} {i2 : Int32} {M : Mem} (h : FQ (f_X12_plays r0 i1 i2 M) P) : Con Y_X12_plays (d + 2) 0 0 [va_rf r0, .int i1, .int i2] M (QV P) := by
  refine Con.of [some (va_rf r0), some (.int i1), some (.int i2), none, none, none, none, none, none] (by decide +kernel) dk_X12_plays (by simp [Y_X12_plays, cat_rf, cat_i, cat_l]) (by simp [loE, Y_X12_plays, cat_rf, cat_i, cat_l, List.replicate]) ?_
  unfold f_X12_plays at h
  refine r_aload_n rfl rfl ?_
  refine r_getR rfl fl_12_91 rfl h (fun v1 h => ?_)
  refine r_iload_n rfl rfl ?_
  refine r_aload_n rfl rfl ?_
  refine r_getR rfl fl_12_91 rfl h (fun v2 h => ?_)
  refine r_iload_n rfl rfl ?_
  refine r_iald rfl h (fun v3 h => ?_)
  refine r_iconst (v := 3) rfl (by decide) ?_
  refine r_ic_ne 19 rfl (by decide) h (fun h => ?_) (fun h => ?_)
  · refine r_iconst (v := 3) rfl (by decide) ?_
    refine r_goto 27 rfl (by decide) ?_
    refine r_msk [true, false, true, true, true, true, true, true, true] rfl ?_
    exact s_X12_plays_27 _ _ _ _ _ _ h
  · refine r_aload_n rfl rfl ?_
    refine r_getR rfl fl_12_91 rfl h (fun v4 h => ?_)
    refine r_iload_n rfl rfl ?_
    refine r_iald rfl h (fun v5 h => ?_)
    refine r_iconst (v := 1) rfl (by decide) ?_
    refine r_iadd rfl ?_
    refine r_msk [true, false, true, true, true, true, true, true, true] rfl ?_
    exact s_X12_plays_27 _ _ _ _ _ _ h
