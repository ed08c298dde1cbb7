/-! walked by program (wip/gen): X12_settles X12_laysResults X12_balanced X12_best X12_isText -/
def L_X12_settles : List (Option (Instr × Nat)) := [some (.aload_n 0, 1), some (.getfield 115, 3), none, none, some (.iload_n 1, 1), some (.iaload, 1), some (.istore_n 3, 1), some (.iconst 0, 1), some (.istore 4, 2), none, some (.iconst 1, 1), some (.istore 5, 2), none, some (.iconst 0, 1), some (.istore 6, 2), none, some (.iload 6, 2), none, some (.sipush 512, 3), none, none, some (.if_icmp .ge 96, 3), none, none, some (.iload_n 3, 1), some (.iload 6, 2), none, some (.invokestatic 518, 3), none, none, some (.ifCond .eq 81, 3), none, none, some (.iload 4, 2), none, some (.ifCond .ne 30, 3), none, none, some (.aload_n 0, 1), some (.iload_n 1, 1), some (.iload 6, 2), none, some (.bipush 64, 2), none, some (.idiv, 1), some (.iload 6, 2), none, some (.bipush 8, 2), none, some (.idiv, 1), some (.bipush 8, 2), none, some (.irem, 1), some (.iload 6, 2), none, some (.bipush 8, 2), none, some (.irem, 1), some (.invokevirtual 521, 3), none, none, some (.iload_n 2, 1), some (.if_icmp .ge 7, 3), none, none, some (.iconst 1, 1), some (.goto 4, 3), none, none, some (.iconst 0, 1), some (.istore 4, 2), none, some (.iload 5, 2), none, some (.ifCond .eq 34, 3), none, none, some (.aload_n 0, 1), some (.iload_n 1, 1), some (.iload 6, 2), none, some (.bipush 64, 2), none, some (.idiv, 1), some (.iload 6, 2), none, some (.bipush 8, 2), none, some (.idiv, 1), some (.bipush 8, 2), none, some (.irem, 1), some (.iload 6, 2), none, some (.bipush 8, 2), none, some (.irem, 1), some (.invokevirtual 524, 3), none, none, some (.iload_n 2, 1), some (.if_icmp .ge 7, 3), none, none, some (.iconst 1, 1), some (.goto 4, 3), none, none, some (.iconst 0, 1), some (.istore 5, 2), none, some (.iinc 6 1, 3), none, none, some (.goto (-98), 3), none, none, some (.iload 4, 2), none, some (.ifCond .ne 8, 3), none, none, some (.iload 5, 2), none, some (.ifCond .eq 10, 3), none, none, some (.aload_n 0, 1), some (.getfield 125, 3), none, none, some (.iload_n 1, 1), some (.iload_n 2, 1), some (.iastore, 1), some (.iload 4, 2), none, some (.ifCond .eq 13, 3), none, none, some (.aload_n 0, 1), some (.getfield 131, 3), none, none, some (.iload_n 1, 1), some (.iconst 1, 1), some (.iastore, 1), some (.goto 15, 3), none, none, some (.iload 5, 2), none, some (.ifCond .eq 10, 3), none, none, some (.aload_n 0, 1), some (.getfield 131, 3), none, none, some (.iload_n 1, 1), some (.iconst 2, 1), some (.iastore, 1), some (.iload 4, 2), none, some (.ifCond .ne 8, 3), none, none, some (.iload 5, 2), none, some (.ifCond .eq 7, 3), none, none, some (.iconst 1, 1), some (.goto 4, 3), none, none, some (.iconst 0, 1), some (.ireturn, 1)]
def Y_X12_settles : YM := (⟨RX12, "settles", "(II)Z"⟩, prog_14_method_99_code, L_X12_settles, 7, some .boolean)
def f_X12_settles_134  (r0 : Option Nat) (i1 : Int32) (i4 : Int32) (i5 : Int32) (M : Mem) : Option (Int32 × Mem) :=
(if i4 = 0 then
(if i5 = 0 then
(if i4 = 0 then
(if i5 = 0 then
tv (0 : Int32) (some ((0 : Int32), M))
else
tv (1 : Int32) (some ((1 : Int32), M)))
else
tv (1 : Int32) (some ((1 : Int32), M)))
else
gR M r0 12 65 fun v1 =>
wI M v1 2 i1 (2 : Int32) fun M1 =>
(if i4 = 0 then
(if i5 = 0 then
tv (0 : Int32) (some ((0 : Int32), M1))
else
tv (1 : Int32) (some ((1 : Int32), M1)))
else
tv (1 : Int32) (some ((1 : Int32), M1))))
else
gR M r0 12 65 fun v2 =>
wI M v2 2 i1 (1 : Int32) fun M2 =>
(if i4 = 0 then
(if i5 = 0 then
tv (0 : Int32) (some ((0 : Int32), M2))
else
tv (1 : Int32) (some ((1 : Int32), M2)))
else
tv (1 : Int32) (some ((1 : Int32), M2))))
def f_X12_settles_70 (q16 : Option Nat → Int32 → Int32 → Int32 → Int32 → Int32 → Int32 → Mem → Option (Int32 × Mem)) (r0 : Option Nat) (i1 : Int32) (i2 : Int32) (i3 : Int32) (i5 : Int32) (i6 : Int32) (si0 : Int32) (M : Mem) : Option (Int32 × Mem) :=
(if i5 = 0 then
q16 r0 i1 i2 i3 si0 (0 : Int32) (i6 + (1 : Int32)) M
else
nzI (64 : Int32) (
nzI (8 : Int32) (
nzI (8 : Int32) (
nzI (8 : Int32) (
cR M r0 (1, 12) (cA (f_X12_losesBy r0 i1 (i6 / (64 : Int32)) ((i6 / (8 : Int32)) - (i6 / (8 : Int32)) / (8 : Int32) * (8 : Int32)) (i6 - i6 / (8 : Int32) * (8 : Int32)) M) fun v1 M1 =>
(if i2 ≤ v1 then
q16 r0 i1 i2 i3 si0 (0 : Int32) (i6 + (1 : Int32)) M1
else
q16 r0 i1 i2 i3 si0 (1 : Int32) (i6 + (1 : Int32)) M1)))))))
def b_X12_settles_16 (q16 : Option Nat → Int32 → Int32 → Int32 → Int32 → Int32 → Int32 → Mem → Option (Int32 × Mem)) (r0 : Option Nat) (i1 : Int32) (i2 : Int32) (i3 : Int32) (i4 : Int32) (i5 : Int32) (i6 : Int32) (M : Mem) : Option (Int32 × Mem) :=
(if (512 : Int32) ≤ i6 then
(if i4 = 0 then
(if i5 = 0 then
f_X12_settles_134 r0 i1 i4 i5 M
else
gR M r0 12 63 fun v1 =>
wI M v1 2 i1 i2 fun M1 =>
f_X12_settles_134 r0 i1 i4 i5 M1)
else
gR M r0 12 63 fun v2 =>
wI M v2 2 i1 i2 fun M2 =>
f_X12_settles_134 r0 i1 i4 i5 M2)
else
cA (f_X12_isOfferOf i3 i6 M) fun v3 M3 =>
(if v3 = 0 then
q16 r0 i1 i2 i3 i4 i5 (i6 + (1 : Int32)) M3
else
(if i4 = 0 then
nzI (64 : Int32) (
nzI (8 : Int32) (
nzI (8 : Int32) (
nzI (8 : Int32) (
cR M3 r0 (1, 12) (cA (f_X12_winsBy r0 i1 (i6 / (64 : Int32)) ((i6 / (8 : Int32)) - (i6 / (8 : Int32)) / (8 : Int32) * (8 : Int32)) (i6 - i6 / (8 : Int32) * (8 : Int32)) M3) fun v4 M4 =>
(if i2 ≤ v4 then
f_X12_settles_70 q16 r0 i1 i2 i3 i5 i6 (0 : Int32) M4
else
f_X12_settles_70 q16 r0 i1 i2 i3 i5 i6 (1 : Int32) M4))))))
else
f_X12_settles_70 q16 r0 i1 i2 i3 i5 i6 (1 : Int32) M3)))
def f_X12_settles_16 (n : Nat) : Option Nat → Int32 → Int32 → Int32 → Int32 → Int32 → Int32 → Mem → Option (Int32 × Mem) := lpN (fun _ _ _ _ _ _ _ _ => none) (b_X12_settles_16 ) n
def f_X12_settles (r0 : Option Nat) (i1 : Int32) (i2 : Int32) (M : Mem) : Option (Int32 × Mem) :=
gR M r0 12 60 fun v1 =>
aI M v1 2 i1 fun v2 =>
f_X12_settles_16 FU r0 i1 i2 v2 (0 : Int32) (1 : Int32) (0 : Int32) M
def L_X12_laysResults : List (Option (Instr × Nat)) := [some (.aload_n 0, 1), some (.invokevirtual 507, 3), none, none, some (.ifCond .ne 5, 3), none, none, some (.iconst 0, 1), some (.ireturn, 1), some (.iconst 0, 1), some (.istore_n 1, 1), some (.iload_n 1, 1), some (.aload_n 0, 1), some (.getfield 500, 3), none, none, some (.if_icmp .ge 63, 3), none, none, some (.aload_n 0, 1), some (.getfield 122, 3), none, none, some (.iload_n 1, 1), some (.aload_n 0, 1), some (.getfield 115, 3), none, none, some (.iload_n 1, 1), some (.iaload, 1), some (.ifCond .ne 7, 3), none, none, some (.iconst 1, 1), some (.goto 4, 3), none, none, some (.iconst 0, 1), some (.iastore, 1), some (.aload_n 0, 1), some (.getfield 125, 3), none, none, some (.iload_n 1, 1), some (.aload_n 0, 1), some (.getfield 115, 3), none, none, some (.iload_n 1, 1), some (.iaload, 1), some (.ifCond .ne 7, 3), none, none, some (.iconst 0, 1), some (.goto 6, 3), none, none, some (.ldc_w 510, 3), none, none, some (.iastore, 1), some (.aload_n 0, 1), some (.getfield 131, 3), none, none, some (.iload_n 1, 1), some (.aload_n 0, 1), some (.getfield 122, 3), none, none, some (.iload_n 1, 1), some (.iaload, 1), some (.iastore, 1), some (.iinc 1 1, 3), none, none, some (.goto (-65), 3), none, none, some (.iconst 1, 1), some (.istore_n 1, 1), some (.iconst 1, 1), some (.istore_n 2, 1), some (.iload_n 1, 1), some (.ifCond .eq 87, 3), none, none, some (.iconst 0, 1), some (.istore_n 1, 1), some (.iconst 0, 1), some (.istore_n 3, 1), some (.iload_n 3, 1), some (.aload_n 0, 1), some (.getfield 500, 3), none, none, some (.if_icmp .ge 41, 3), none, none, some (.aload_n 0, 1), some (.getfield 122, 3), none, none, some (.iload_n 3, 1), some (.iaload, 1), some (.ifCond .ne 26, 3), none, none, some (.aload_n 0, 1), some (.iload_n 3, 1), some (.iload_n 2, 1), some (.invokevirtual 527, 3), none, none, some (.istore 4, 2), none, some (.iload_n 1, 1), some (.ifCond .ne 8, 3), none, none, some (.iload 4, 2), none, some (.ifCond .eq 7, 3), none, none, some (.iconst 1, 1), some (.goto 4, 3), none, none, some (.iconst 0, 1), some (.istore_n 1, 1), some (.iinc 3 1, 3), none, none, some (.goto (-43), 3), none, none, some (.iconst 0, 1), some (.istore_n 3, 1), some (.iload_n 3, 1), some (.aload_n 0, 1), some (.getfield 500, 3), none, none, some (.if_icmp .ge 21, 3), none, none, some (.aload_n 0, 1), some (.getfield 122, 3), none, none, some (.iload_n 3, 1), some (.aload_n 0, 1), some (.getfield 131, 3), none, none, some (.iload_n 3, 1), some (.iaload, 1), some (.iastore, 1), some (.iinc 3 1, 3), none, none, some (.goto (-23), 3), none, none, some (.iinc 2 1, 3), none, none, some (.goto (-85), 3), none, none, some (.iconst 1, 1), some (.ireturn, 1)]
def Y_X12_laysResults : YM := (⟨RX12, "laysResults", "()Z"⟩, prog_14_method_100_code, L_X12_laysResults, 5, some .boolean)
def b_X12_laysResults_139 (q83 : Option Nat → Int32 → Int32 → Mem → Option (Int32 × Mem)) (q139 : Option Nat → Int32 → Int32 → Int32 → Mem → Option (Int32 × Mem)) (r0 : Option Nat) (i1 : Int32) (i2 : Int32) (i3 : Int32) (M : Mem) : Option (Int32 × Mem) :=
gI M r0 12 58 fun v1 =>
(if v1 ≤ i3 then
q83 r0 i1 (i2 + (1 : Int32)) M
else
gR M r0 12 62 fun v2 =>
gR M r0 12 65 fun v3 =>
aI M v3 2 i3 fun v4 =>
wI M v2 2 i3 v4 fun M1 =>
q139 r0 i1 i2 (i3 + (1 : Int32)) M1)
def f_X12_laysResults_139 (q83 : Option Nat → Int32 → Int32 → Mem → Option (Int32 × Mem)) (n : Nat) : Option Nat → Int32 → Int32 → Int32 → Mem → Option (Int32 × Mem) := lpN (fun _ _ _ _ _ => none) (b_X12_laysResults_139 q83) n
def b_X12_laysResults_91 (q83 : Option Nat → Int32 → Int32 → Mem → Option (Int32 × Mem)) (q91 : Option Nat → Int32 → Int32 → Int32 → Mem → Option (Int32 × Mem)) (r0 : Option Nat) (i1 : Int32) (i2 : Int32) (i3 : Int32) (M : Mem) : Option (Int32 × Mem) :=
gI M r0 12 58 fun v1 =>
(if v1 ≤ i3 then
f_X12_laysResults_139 q83 FU r0 i1 i2 (0 : Int32) M
else
gR M r0 12 62 fun v2 =>
aI M v2 2 i3 fun v3 =>
(if v3 = 0 then
cR M r0 (1, 12) (cA (f_X12_settles r0 i3 i2 M) fun v4 M1 =>
(if i1 = 0 then
(if v4 = 0 then
q91 r0 (0 : Int32) i2 (i3 + (1 : Int32)) M1
else
q91 r0 (1 : Int32) i2 (i3 + (1 : Int32)) M1)
else
q91 r0 (1 : Int32) i2 (i3 + (1 : Int32)) M1))
else
q91 r0 i1 i2 (i3 + (1 : Int32)) M))
def f_X12_laysResults_91 (q83 : Option Nat → Int32 → Int32 → Mem → Option (Int32 × Mem)) (n : Nat) : Option Nat → Int32 → Int32 → Int32 → Mem → Option (Int32 × Mem) := lpN (fun _ _ _ _ _ => none) (b_X12_laysResults_91 q83) n
def b_X12_laysResults_83 (q83 : Option Nat → Int32 → Int32 → Mem → Option (Int32 × Mem)) (r0 : Option Nat) (i1 : Int32) (i2 : Int32) (M : Mem) : Option (Int32 × Mem) :=
(if i1 = 0 then
tv (1 : Int32) (some ((1 : Int32), M))
else
f_X12_laysResults_91 q83 FU r0 (0 : Int32) i2 (0 : Int32) M)
def f_X12_laysResults_83 (n : Nat) : Option Nat → Int32 → Int32 → Mem → Option (Int32 × Mem) := lpN (fun _ _ _ _ => none) (b_X12_laysResults_83 ) n
def f_X12_laysResults_38 (q11 : Option Nat → Int32 → Mem → Option (Int32 × Mem)) (r0 : Option Nat) (i1 : Int32) (sr0 : Option Nat) (si1 : Int32) (si2 : Int32) (M : Mem) : Option (Int32 × Mem) :=
wI M sr0 2 si1 si2 fun M1 =>
gR M1 r0 12 63 fun v1 =>
gR M1 r0 12 60 fun v2 =>
aI M1 v2 2 i1 fun v3 =>
(if v3 = 0 then
wI M1 v1 2 i1 (0 : Int32) fun M2 =>
gR M2 r0 12 65 fun v4 =>
gR M2 r0 12 62 fun v5 =>
aI M2 v5 2 i1 fun v6 =>
wI M2 v4 2 i1 v6 fun M3 =>
q11 r0 (i1 + (1 : Int32)) M3
else
wI M1 v1 2 i1 (100000 : Int32) fun M4 =>
gR M4 r0 12 65 fun v7 =>
gR M4 r0 12 62 fun v8 =>
aI M4 v8 2 i1 fun v9 =>
wI M4 v7 2 i1 v9 fun M5 =>
q11 r0 (i1 + (1 : Int32)) M5)
def b_X12_laysResults_11 (q11 : Option Nat → Int32 → Mem → Option (Int32 × Mem)) (r0 : Option Nat) (i1 : Int32) (M : Mem) : Option (Int32 × Mem) :=
gI M r0 12 58 fun v1 =>
(if v1 ≤ i1 then
f_X12_laysResults_83 FU r0 (1 : Int32) (1 : Int32) M
else
gR M r0 12 62 fun v2 =>
gR M r0 12 60 fun v3 =>
aI M v3 2 i1 fun v4 =>
(if v4 = 0 then
f_X12_laysResults_38 q11 r0 i1 v2 i1 (1 : Int32) M
else
f_X12_laysResults_38 q11 r0 i1 v2 i1 (0 : Int32) M))
def f_X12_laysResults_11 (n : Nat) : Option Nat → Int32 → Mem → Option (Int32 × Mem) := lpN (fun _ _ _ => none) (b_X12_laysResults_11 ) n
def f_X12_laysResults (r0 : Option Nat) (M : Mem) : Option (Int32 × Mem) :=
cR M r0 (1, 12) (cA (f_X12_laysStates r0 M) fun v1 M1 =>
(if v1 = 0 then
tv (0 : Int32) (some ((0 : Int32), M1))
else
f_X12_laysResults_11 FU r0 (0 : Int32) M1))
def L_X12_balanced : List (Option (Instr × Nat)) := [some (.iload_n 1, 1), some (.invokestatic 159, 3), none, none, some (.ifCond .ne 5, 3), none, none, some (.iconst (-1), 1), some (.ireturn, 1), some (.aload_n 0, 1), some (.getfield 7, 3), none, none, some (.bipush 10, 2), none, some (.iload_n 1, 1), some (.iadd, 1), some (.iaload, 1), some (.istore_n 2, 1), some (.iconst (-1), 1), some (.istore_n 3, 1), some (.iconst 0, 1), some (.istore 4, 2), none, some (.iload 4, 2), none, some (.iconst 4, 1), some (.if_icmp .ge 48, 3), none, none, some (.iload_n 3, 1), some (.iconst (-1), 1), some (.if_icmp .ne 43, 3), none, none, some (.aload_n 0, 1), some (.getfield 7, 3), none, none, some (.bipush 10, 2), none, some (.iload_n 1, 1), some (.iadd, 1), some (.iload 4, 2), none, some (.iastore, 1), some (.aload_n 0, 1), some (.invokevirtual 530, 3), none, none, some (.ifCond .eq 17, 3), none, none, some (.aload_n 0, 1), some (.getfield 122, 3), none, none, some (.iconst 0, 1), some (.iaload, 1), some (.ifCond .ne 8, 3), none, none, some (.iload 4, 2), none, some (.goto 4, 3), none, none, some (.iconst (-1), 1), some (.istore_n 3, 1), some (.iinc 4 1, 3), none, none, some (.goto (-48), 3), none, none, some (.aload_n 0, 1), some (.getfield 7, 3), none, none, some (.bipush 10, 2), none, some (.iload_n 1, 1), some (.iadd, 1), some (.iload_n 2, 1), some (.iastore, 1), some (.iload_n 3, 1), some (.ireturn, 1)]
def Y_X12_balanced : YM := (⟨RX12, "balanced", "(I)I"⟩, prog_14_method_111_code, L_X12_balanced, 5, some .int)
def b_X12_balanced_24 (q24 : Option Nat → Int32 → Int32 → Int32 → Int32 → Mem → Option (Int32 × Mem)) (r0 : Option Nat) (i1 : Int32) (i2 : Int32) (i3 : Int32) (i4 : Int32) (M : Mem) : Option (Int32 × Mem) :=
(if (4 : Int32) ≤ i4 then
gR M r0 12 3 fun v1 =>
wI M v1 2 ((10 : Int32) + i1) i2 fun M1 =>
some (i3, M1)
else
(if i3 = (-1 : Int32) then
gR M r0 12 3 fun v2 =>
wI M v2 2 ((10 : Int32) + i1) i4 fun M2 =>
cR M2 r0 (1, 12) (cA (f_X12_laysResults r0 M2) fun v3 M3 =>
(if v3 = 0 then
q24 r0 i1 i2 (-1 : Int32) (i4 + (1 : Int32)) M3
else
gR M3 r0 12 62 fun v4 =>
aI M3 v4 2 (0 : Int32) fun v5 =>
(if v5 = 0 then
q24 r0 i1 i2 i4 (i4 + (1 : Int32)) M3
else
q24 r0 i1 i2 (-1 : Int32) (i4 + (1 : Int32)) M3)))
else
gR M r0 12 3 fun v6 =>
wI M v6 2 ((10 : Int32) + i1) i2 fun M4 =>
some (i3, M4)))
def f_X12_balanced_24 (n : Nat) : Option Nat → Int32 → Int32 → Int32 → Int32 → Mem → Option (Int32 × Mem) := lpN (fun _ _ _ _ _ _ => none) (b_X12_balanced_24 ) n
def f_X12_balanced (r0 : Option Nat) (i1 : Int32) (M : Mem) : Option (Int32 × Mem) :=
cA (f_X12_isMove i1 M) fun v1 M1 =>
(if v1 = 0 then
some ((-1 : Int32), M1)
else
gR M1 r0 12 3 fun v2 =>
aI M1 v2 2 ((10 : Int32) + i1) fun v3 =>
f_X12_balanced_24 FU r0 i1 v3 (-1 : Int32) (0 : Int32) M1)
def L_X12_best : List (Option (Instr × Nat)) := [some (.iload_n 1, 1), some (.iconst 0, 1), some (.iconst 1, 1), some (.invokestatic 151, 3), none, none, some (.ifCond .ne 6, 3), none, none, some (.bipush (-3), 2), none, some (.ireturn, 1), some (.aload_n 0, 1), some (.invokevirtual 530, 3), none, none, some (.ifCond .ne 6, 3), none, none, some (.bipush (-2), 2), none, some (.ireturn, 1), some (.iload_n 1, 1), some (.ifCond .ne 12, 3), none, none, some (.aload_n 0, 1), some (.getfield 122, 3), none, none, some (.iconst 0, 1), some (.iaload, 1), some (.goto 22, 3), none, none, some (.aload_n 0, 1), some (.getfield 122, 3), none, none, some (.iconst 0, 1), some (.iaload, 1), some (.ifCond .ne 7, 3), none, none, some (.iconst (-1), 1), some (.goto 9, 3), none, none, some (.aload_n 0, 1), some (.getfield 125, 3), none, none, some (.iconst 0, 1), some (.iaload, 1), some (.ireturn, 1)]
def Y_X12_best : YM := (⟨RX12, "best", "(I)I"⟩, prog_14_method_101_code, L_X12_best, 2, some .int)
def f_X12_best (r0 : Option Nat) (i1 : Int32) (M : Mem) : Option (Int32 × Mem) :=
cA (f_X12_in i1 (0 : Int32) (1 : Int32) M) fun v1 M1 =>
(if v1 = 0 then
some ((-3 : Int32), M1)
else
cR M1 r0 (1, 12) (cA (f_X12_laysResults r0 M1) fun v2 M2 =>
(if v2 = 0 then
some ((-2 : Int32), M2)
else
(if i1 = 0 then
gR M2 r0 12 62 fun v3 =>
aI M2 v3 2 (0 : Int32) fun v4 =>
some (v4, M2)
else
gR M2 r0 12 62 fun v5 =>
aI M2 v5 2 (0 : Int32) fun v6 =>
(if v6 = 0 then
some ((-1 : Int32), M2)
else
gR M2 r0 12 63 fun v7 =>
aI M2 v7 2 (0 : Int32) fun v8 =>
some (v8, M2))))))
def L_X12_isText : List (Option (Instr × Nat)) := [some (.iload_n 1, 1), some (.iconst (-1), 1), some (.if_icmp .eq 19, 3), none, none, some (.iload_n 1, 1), some (.iconst 0, 1), some (.aload_n 0, 1), some (.getfield 7, 3), none, none, some (.iconst 1, 1), some (.iaload, 1), some (.iconst 1, 1), some (.isub, 1), some (.invokestatic 151, 3), none, none, some (.ifCond .eq 7, 3), none, none, some (.iconst 1, 1), some (.goto 4, 3), none, none, some (.iconst 0, 1), some (.ireturn, 1)]
def Y_X12_isText : YM := (⟨RX12, "isText", "(I)Z"⟩, prog_14_method_44_code, L_X12_isText, 2, some .boolean)
def f_X12_isText (r0 : Option Nat) (i1 : Int32) (M : Mem) : Option (Int32 × Mem) :=
(if i1 = (-1 : Int32) then
tv (1 : Int32) (some ((1 : Int32), M))
else
gR M r0 12 3 fun v1 =>
aI M v1 2 (1 : Int32) fun v2 =>
cA (f_X12_in i1 (0 : Int32) (v2 - (1 : Int32)) M) fun v3 M1 =>
(if v3 = 0 then
tv (0 : Int32) (some ((0 : Int32), M1))
else
tv (1 : Int32) (some ((1 : Int32), M1))))
theorem fl_12_131 : FLk RX12 131 12 65 true := ⟨_, rfl, by decide, (gw_in 1181 (by decide +kernel) (by decide +kernel)), rfl⟩
set_option maxRecDepth 30000 in
theorem ok_X12_losesBy : okY Y_X12_losesBy := ⟨(gw_in 1738 rfl rfl), (gw_in 14 (by decide +kernel) (by decide +kernel)), by decide +kernel, by decide +kernel⟩
theorem ml_12_524 : MLv RX12 524 Y_X12_losesBy 4 := ⟨(gw_in 1735 (by decide +kernel) (by decide +kernel)), (gw_in 1737 (by decide +kernel) (by decide +kernel)), (gw_sel (n := 70) 112 (by decide +kernel) (by decide +kernel)), ok_X12_losesBy, by decide +kernel⟩
set_option maxRecDepth 30000 in
theorem ok_X12_isOfferOf : okY Y_X12_isOfferOf := ⟨(gw_in 1726 rfl rfl), (gw_in 14 (by decide +kernel) (by decide +kernel)), by decide +kernel, by decide +kernel⟩
theorem ml_12_518 : MLs RX12 518 Y_X12_isOfferOf 2 := ⟨(gw_in 1724 (by decide +kernel) (by decide +kernel)), (gw_in 1725 (by decide +kernel) (by decide +kernel)), ok_X12_isOfferOf, by decide +kernel⟩
set_option maxRecDepth 30000 in
theorem ok_X12_winsBy : okY Y_X12_winsBy := ⟨(gw_in 1730 rfl rfl), (gw_in 14 (by decide +kernel) (by decide +kernel)), by decide +kernel, by decide +kernel⟩
theorem ml_12_521 : MLv RX12 521 Y_X12_winsBy 4 := ⟨(gw_in 1727 (by decide +kernel) (by decide +kernel)), (gw_in 1729 (by decide +kernel) (by decide +kernel)), (gw_sel (n := 70) 110 (by decide +kernel) (by decide +kernel)), ok_X12_winsBy, by decide +kernel⟩
set_option maxRecDepth 30000 in
theorem ok_X12_settles : okY Y_X12_settles := ⟨(gw_in 1723 rfl rfl), (gw_in 14 (by decide +kernel) (by decide +kernel)), by decide +kernel, by decide +kernel⟩
theorem ml_12_527 : MLv RX12 527 Y_X12_settles 2 := ⟨(gw_in 1720 (by decide +kernel) (by decide +kernel)), (gw_in 1722 (by decide +kernel) (by decide +kernel)), (gw_sel (n := 70) 109 (by decide +kernel) (by decide +kernel)), ok_X12_settles, by decide +kernel⟩
set_option maxRecDepth 30000 in
theorem ok_X12_laysStates : okY Y_X12_laysStates := ⟨(gw_in 1694 rfl rfl), (gw_in 14 (by decide +kernel) (by decide +kernel)), by decide +kernel, by decide +kernel⟩
theorem ml_12_507 : MLv RX12 507 Y_X12_laysStates 0 := ⟨(gw_in 1691 (by decide +kernel) (by decide +kernel)), (gw_in 1693 (by decide +kernel) (by decide +kernel)), (gw_sel (n := 70) 104 (by decide +kernel) (by decide +kernel)), ok_X12_laysStates, by decide +kernel⟩
set_option maxRecDepth 30000 in
theorem ok_X12_laysResults : okY Y_X12_laysResults := ⟨(gw_in 1718 rfl rfl), (gw_in 14 (by decide +kernel) (by decide +kernel)), by decide +kernel, by decide +kernel⟩
theorem ml_12_530 : MLv RX12 530 Y_X12_laysResults 0 := ⟨(gw_in 1715 (by decide +kernel) (by decide +kernel)), (gw_in 1717 (by decide +kernel) (by decide +kernel)), (gw_sel (n := 70) 108 (by decide +kernel) (by decide +kernel)), ok_X12_laysResults, by decide +kernel⟩
set_option maxRecDepth 20000 in
theorem dk_X12_settles : ∀ pc i, L_X12_settles[pc]? = some (some i) → decode prog_14_method_99_code pc = .ok i := dk_of (by decide +kernel)
theorem s_X12_settles_134 {d : Nat} {P : Int32 → Mem → Prop}   (r0 : Option Nat) (i1 : Int32) (i4 : Int32) (i5 : Int32) (M : Mem) (h : FQ (f_X12_settles_134  r0 i1 i4 i5 M) P) : wp Y_X12_settles (rmD (d + 2) 0 0) (FM (QI P) 0 0) 0 0 134 [some (va_rf r0), some (.int i1), none, none, some (.int i4), some (.int i5), none] [] M := by
  unfold f_X12_settles_134 at h
  refine r_iload rfl rfl ?_
  refine r_if_eq 149 rfl (by decide) h (fun h => ?_) (fun h => ?_)
  · refine r_iload rfl rfl ?_
    refine r_if_eq 161 rfl (by decide) h (fun h => ?_) (fun h => ?_)
    · refine r_iload rfl rfl ?_
      refine r_if_ne 171 rfl (by decide) h (fun h => ?_) (fun h => ?_)
      · refine r_iload rfl rfl ?_
        refine r_if_eq 175 rfl (by decide) h (fun h => ?_) (fun h => ?_)
        · refine r_iconst (v := 0) rfl (by decide) ?_
          exact r_zret rfl rfl ⟨Nat.le_of_ble_eq_true rfl, Nat.le_of_ble_eq_true rfl⟩ h
        · refine r_iconst (v := 1) rfl (by decide) ?_
          refine r_goto 176 rfl (by decide) ?_
          exact r_zret rfl rfl ⟨Nat.le_of_ble_eq_true rfl, Nat.le_of_ble_eq_true rfl⟩ h
      · refine r_iconst (v := 1) rfl (by decide) ?_
        refine r_goto 176 rfl (by decide) ?_
        exact r_zret rfl rfl ⟨Nat.le_of_ble_eq_true rfl, Nat.le_of_ble_eq_true rfl⟩ h
    · refine r_aload_n rfl rfl ?_
      refine r_getR rfl fl_12_131 rfl h (fun v1 h => ?_)
      refine r_iload_n rfl rfl ?_
      refine r_iconst (v := 2) rfl (by decide) ?_
      refine r_iast rfl h (fun M1 h => ?_)
      refine r_iload rfl rfl ?_
      refine r_if_ne 171 rfl (by decide) h (fun h => ?_) (fun h => ?_)
      · refine r_iload rfl rfl ?_
        refine r_if_eq 175 rfl (by decide) h (fun h => ?_) (fun h => ?_)
        · refine r_iconst (v := 0) rfl (by decide) ?_
          exact r_zret rfl rfl ⟨Nat.le_of_ble_eq_true rfl, Nat.le_of_ble_eq_true rfl⟩ h
        · refine r_iconst (v := 1) rfl (by decide) ?_
          refine r_goto 176 rfl (by decide) ?_
          exact r_zret rfl rfl ⟨Nat.le_of_ble_eq_true rfl, Nat.le_of_ble_eq_true rfl⟩ h
      · refine r_iconst (v := 1) rfl (by decide) ?_
        refine r_goto 176 rfl (by decide) ?_
        exact r_zret rfl rfl ⟨Nat.le_of_ble_eq_true rfl, Nat.le_of_ble_eq_true rfl⟩ h
  · refine r_aload_n rfl rfl ?_
    refine r_getR rfl fl_12_131 rfl h (fun v2 h => ?_)
    refine r_iload_n rfl rfl ?_
    refine r_iconst (v := 1) rfl (by decide) ?_
    refine r_iast rfl h (fun M2 h => ?_)
    refine r_goto 161 rfl (by decide) ?_
    refine r_iload rfl rfl ?_
    refine r_if_ne 171 rfl (by decide) h (fun h => ?_) (fun h => ?_)
    · refine r_iload rfl rfl ?_
      refine r_if_eq 175 rfl (by decide) h (fun h => ?_) (fun h => ?_)
      · refine r_iconst (v := 0) rfl (by decide) ?_
        exact r_zret rfl rfl ⟨Nat.le_of_ble_eq_true rfl, Nat.le_of_ble_eq_true rfl⟩ h
      · refine r_iconst (v := 1) rfl (by decide) ?_
        refine r_goto 176 rfl (by decide) ?_
        exact r_zret rfl rfl ⟨Nat.le_of_ble_eq_true rfl, Nat.le_of_ble_eq_true rfl⟩ h
    · refine r_iconst (v := 1) rfl (by decide) ?_
      refine r_goto 176 rfl (by decide) ?_
      exact r_zret rfl rfl ⟨Nat.le_of_ble_eq_true rfl, Nat.le_of_ble_eq_true rfl⟩ h
theorem s_X12_settles_70 {d : Nat} {P : Int32 → Mem → Prop} {q16 : Option Nat → Int32 → Int32 → Int32 → Int32 → Int32 → Int32 → Mem → Option (Int32 × Mem)} (hq16 : ∀ (r0 : Option Nat) (i1 : Int32) (i2 : Int32) (i3 : Int32) (i4 : Int32) (i5 : Int32) (i6 : Int32) (M : Mem), FQ (q16 r0 i1 i2 i3 i4 i5 i6 M) P → wp Y_X12_settles (rmD (d + 2) 0 0) (FM (QI P) 0 0) 0 0 16 [some (va_rf r0), some (.int i1), some (.int i2), some (.int i3), some (.int i4), some (.int i5), some (.int i6)] [] M) (r0 : Option Nat) (i1 : Int32) (i2 : Int32) (i3 : Int32) (i5 : Int32) (i6 : Int32) (si0 : Int32) (M : Mem) (h : FQ (f_X12_settles_70 q16 r0 i1 i2 i3 i5 i6 si0 M) P) : wp Y_X12_settles (rmD (d + 2) 0 0) (FM (QI P) 0 0) 0 0 70 [some (va_rf r0), some (.int i1), some (.int i2), some (.int i3), none, some (.int i5), some (.int i6)] [.int si0] M := by
  unfold f_X12_settles_70 at h
  refine r_istore (lo' := [some (va_rf r0), some (.int i1), some (.int i2), some (.int i3), some (.int si0), some (.int i5), some (.int i6)]) rfl rfl rfl rfl ?_
  refine r_iload rfl rfl ?_
  refine r_if_eq 108 rfl (by decide) h (fun h => ?_) (fun h => ?_)
  · refine r_iconst (v := 0) rfl (by decide) ?_
    refine r_istore (lo' := [some (va_rf r0), some (.int i1), some (.int i2), some (.int i3), some (.int si0), some (.int (0 : Int32)), some (.int i6)]) rfl rfl rfl rfl ?_
    refine r_iinc (v := 1) (lo' := [some (va_rf r0), some (.int i1), some (.int i2), some (.int i3), some (.int si0), some (.int (0 : Int32)), some (.int (i6 + (1 : Int32)))]) rfl rfl rfl (by decide) rfl rfl ?_
    refine r_goto 16 rfl (by decide) ?_
    exact hq16 _ _ _ _ _ _ _ _ h
  · refine r_aload_n rfl rfl ?_
    refine r_iload_n rfl rfl ?_
    refine r_iload rfl rfl ?_
    refine r_bipush (v := 64) rfl (by decide) ?_
    refine r_idiv rfl h (fun h => ?_)
    refine r_iload rfl rfl ?_
    refine r_bipush (v := 8) rfl (by decide) ?_
    refine r_idiv rfl h (fun h => ?_)
    refine r_bipush (v := 8) rfl (by decide) ?_
    refine r_irem rfl h (fun h => ?_)
    refine r_iload rfl rfl ?_
    refine r_bipush (v := 8) rfl (by decide) ?_
    refine r_irem rfl h (fun h => ?_)
    refine r_cv_i (vs := [.int i1, .int (i6 / (64 : Int32)), .int ((i6 / (8 : Int32)) - (i6 / (8 : Int32)) / (8 : Int32) * (8 : Int32)), .int (i6 - i6 / (8 : Int32) * (8 : Int32))]) rfl ml_12_524 rfl (rOk.of rfl) ⟨Nat.zero_le _, Nat.zero_le _⟩ rfl rfl rfl h s_X12_losesBy (fun v1 M1 h => ?_)
    refine r_iload_n rfl rfl ?_
    refine r_ic_ge 108 rfl (by decide) h (fun h => ?_) (fun h => ?_)
    · refine r_iconst (v := 0) rfl (by decide) ?_
      refine r_istore (lo' := [some (va_rf r0), some (.int i1), some (.int i2), some (.int i3), some (.int si0), some (.int (0 : Int32)), some (.int i6)]) rfl rfl rfl rfl ?_
      refine r_iinc (v := 1) (lo' := [some (va_rf r0), some (.int i1), some (.int i2), some (.int i3), some (.int si0), some (.int (0 : Int32)), some (.int (i6 + (1 : Int32)))]) rfl rfl rfl (by decide) rfl rfl ?_
      refine r_goto 16 rfl (by decide) ?_
      exact hq16 _ _ _ _ _ _ _ _ h
    · refine r_iconst (v := 1) rfl (by decide) ?_
      refine r_goto 109 rfl (by decide) ?_
      refine r_istore (lo' := [some (va_rf r0), some (.int i1), some (.int i2), some (.int i3), some (.int si0), some (.int (1 : Int32)), some (.int i6)]) rfl rfl rfl rfl ?_
      refine r_iinc (v := 1) (lo' := [some (va_rf r0), some (.int i1), some (.int i2), some (.int i3), some (.int si0), some (.int (1 : Int32)), some (.int (i6 + (1 : Int32)))]) rfl rfl rfl (by decide) rfl rfl ?_
      refine r_goto 16 rfl (by decide) ?_
      exact hq16 _ _ _ _ _ _ _ _ h
theorem sb_X12_settles_16 {d : Nat} {P : Int32 → Mem → Prop} {q16 : Option Nat → Int32 → Int32 → Int32 → Int32 → Int32 → Int32 → Mem → Option (Int32 × Mem)} (hq16 : ∀ (r0 : Option Nat) (i1 : Int32) (i2 : Int32) (i3 : Int32) (i4 : Int32) (i5 : Int32) (i6 : Int32) (M : Mem), FQ (q16 r0 i1 i2 i3 i4 i5 i6 M) P → wp Y_X12_settles (rmD (d + 2) 0 0) (FM (QI P) 0 0) 0 0 16 [some (va_rf r0), some (.int i1), some (.int i2), some (.int i3), some (.int i4), some (.int i5), some (.int i6)] [] M) (r0 : Option Nat) (i1 : Int32) (i2 : Int32) (i3 : Int32) (i4 : Int32) (i5 : Int32) (i6 : Int32) (M : Mem) (h : FQ (b_X12_settles_16 q16 r0 i1 i2 i3 i4 i5 i6 M) P) : wp Y_X12_settles (rmD (d + 2) 0 0) (FM (QI P) 0 0) 0 0 16 [some (va_rf r0), some (.int i1), some (.int i2), some (.int i3), some (.int i4), some (.int i5), some (.int i6)] [] M := by
  unfold b_X12_settles_16 at h
  refine r_iload rfl rfl ?_
  refine r_sipush (v := 512) rfl (by decide) ?_
  refine r_ic_ge 117 rfl (by decide) h (fun h => ?_) (fun h => ?_)
  · refine r_iload rfl rfl ?_
    refine r_if_ne 127 rfl (by decide) h (fun h => ?_) (fun h => ?_)
    · refine r_iload rfl rfl ?_
      refine r_if_eq 134 rfl (by decide) h (fun h => ?_) (fun h => ?_)
      · refine r_msk [true, true, false, false, true, true, false] rfl ?_
        exact s_X12_settles_134 _ _ _ _ _ h
      · refine r_aload_n rfl rfl ?_
        refine r_getR rfl fl_12_125 rfl h (fun v1 h => ?_)
        refine r_iload_n rfl rfl ?_
        refine r_iload_n rfl rfl ?_
        refine r_iast rfl h (fun M1 h => ?_)
        refine r_msk [true, true, false, false, true, true, false] rfl ?_
        exact s_X12_settles_134 _ _ _ _ _ h
    · refine r_aload_n rfl rfl ?_
      refine r_getR rfl fl_12_125 rfl h (fun v2 h => ?_)
      refine r_iload_n rfl rfl ?_
      refine r_iload_n rfl rfl ?_
      refine r_iast rfl h (fun M2 h => ?_)
      refine r_msk [true, true, false, false, true, true, false] rfl ?_
      exact s_X12_settles_134 _ _ _ _ _ h
  · refine r_iload_n rfl rfl ?_
    refine r_iload rfl rfl ?_
    refine r_cs_i (vs := [.int i3, .int i6]) rfl ml_12_518 (rOk.of rfl) ⟨Nat.zero_le _, Nat.zero_le _⟩ rfl rfl rfl h s_X12_isOfferOf (fun v3 M3 h => ?_)
    refine r_if_eq 111 rfl (by decide) h (fun h => ?_) (fun h => ?_)
    · refine r_iinc (v := 1) (lo' := [some (va_rf r0), some (.int i1), some (.int i2), some (.int i3), some (.int i4), some (.int i5), some (.int (i6 + (1 : Int32)))]) rfl rfl rfl (by decide) rfl rfl ?_
      refine r_goto 16 rfl (by decide) ?_
      exact hq16 _ _ _ _ _ _ _ _ h
    · refine r_iload rfl rfl ?_
      refine r_if_ne 65 rfl (by decide) h (fun h => ?_) (fun h => ?_)
      · refine r_aload_n rfl rfl ?_
        refine r_iload_n rfl rfl ?_
        refine r_iload rfl rfl ?_
        refine r_bipush (v := 64) rfl (by decide) ?_
        refine r_idiv rfl h (fun h => ?_)
        refine r_iload rfl rfl ?_
        refine r_bipush (v := 8) rfl (by decide) ?_
        refine r_idiv rfl h (fun h => ?_)
        refine r_bipush (v := 8) rfl (by decide) ?_
        refine r_irem rfl h (fun h => ?_)
        refine r_iload rfl rfl ?_
        refine r_bipush (v := 8) rfl (by decide) ?_
        refine r_irem rfl h (fun h => ?_)
        refine r_cv_i (vs := [.int i1, .int (i6 / (64 : Int32)), .int ((i6 / (8 : Int32)) - (i6 / (8 : Int32)) / (8 : Int32) * (8 : Int32)), .int (i6 - i6 / (8 : Int32) * (8 : Int32))]) rfl ml_12_521 rfl (rOk.of rfl) ⟨Nat.zero_le _, Nat.zero_le _⟩ rfl rfl rfl h s_X12_winsBy (fun v4 M4 h => ?_)
        refine r_iload_n rfl rfl ?_
        refine r_ic_ge 69 rfl (by decide) h (fun h => ?_) (fun h => ?_)
        · refine r_iconst (v := 0) rfl (by decide) ?_
          refine r_msk [true, true, true, true, false, true, true] rfl ?_
          exact s_X12_settles_70 hq16 _ _ _ _ _ _ _ _ h
        · refine r_iconst (v := 1) rfl (by decide) ?_
          refine r_goto 70 rfl (by decide) ?_
          refine r_msk [true, true, true, true, false, true, true] rfl ?_
          exact s_X12_settles_70 hq16 _ _ _ _ _ _ _ _ h
      · refine r_iconst (v := 1) rfl (by decide) ?_
        refine r_goto 70 rfl (by decide) ?_
        refine r_msk [true, true, true, true, false, true, true] rfl ?_
        exact s_X12_settles_70 hq16 _ _ _ _ _ _ _ _ h
theorem s_X12_settles_16 {d : Nat} {P : Int32 → Mem → Prop}   : ∀ (k : Nat) (r0 : Option Nat) (i1 : Int32) (i2 : Int32) (i3 : Int32) (i4 : Int32) (i5 : Int32) (i6 : Int32) (M : Mem), FQ (f_X12_settles_16  k r0 i1 i2 i3 i4 i5 i6 M) P → wp Y_X12_settles (rmD (d + 2) 0 0) (FM (QI P) 0 0) 0 0 16 [some (va_rf r0), some (.int i1), some (.int i2), some (.int i3), some (.int i4), some (.int i5), some (.int i6)] [] M
  | 0, _, _, _, _, _, _, _, _, h => h.no
  | k + 1, r0, i1, i2, i3, i4, i5, i6, M, h => sb_X12_settles_16  (s_X12_settles_16  k) r0 i1 i2 i3 i4 i5 i6 M h
theorem s_X12_settles {d : Nat} {P : Int32 → Mem → Prop} {r0 : Option Nat} {i1 : Int32} {i2 : Int32} {M : Mem} (h : FQ (f_X12_settles r0 i1 i2 M) P) : Con Y_X12_settles (d + 2) 0 0 [va_rf r0, .int i1, .int i2] M (QI P) := by
  refine Con.of [some (va_rf r0), some (.int i1), some (.int i2), none, none, none, none] (by decide +kernel) dk_X12_settles (by simp [Y_X12_settles, cat_rf, cat_i, cat_l]) (by simp [loE, Y_X12_settles, cat_rf, cat_i, cat_l, List.replicate]) ?_
  unfold f_X12_settles at h
  refine r_aload_n rfl rfl ?_
  refine r_getR rfl fl_12_115 rfl h (fun v1 h => ?_)
  refine r_iload_n rfl rfl ?_
  refine r_iald rfl h (fun v2 h => ?_)
  refine r_istore_n (lo' := [some (va_rf r0), some (.int i1), some (.int i2), some (.int v2), none, none, none]) rfl rfl rfl rfl ?_
  refine r_iconst (v := 0) rfl (by decide) ?_
  refine r_istore (lo' := [some (va_rf r0), some (.int i1), some (.int i2), some (.int v2), some (.int (0 : Int32)), none, none]) rfl rfl rfl rfl ?_
  refine r_iconst (v := 1) rfl (by decide) ?_
  refine r_istore (lo' := [some (va_rf r0), some (.int i1), some (.int i2), some (.int v2), some (.int (0 : Int32)), some (.int (1 : Int32)), none]) rfl rfl rfl rfl ?_
  refine r_iconst (v := 0) rfl (by decide) ?_
  refine r_istore (lo' := [some (va_rf r0), some (.int i1), some (.int i2), some (.int v2), some (.int (0 : Int32)), some (.int (1 : Int32)), some (.int (0 : Int32))]) rfl rfl rfl rfl ?_
  exact s_X12_settles_16 FU _ _ _ _ _ _ _ _ h
set_option maxRecDepth 20000 in
theorem dk_X12_laysResults : ∀ pc i, L_X12_laysResults[pc]? = some (some i) → decode prog_14_method_100_code pc = .ok i := dk_of (by decide +kernel)
theorem sb_X12_laysResults_139 {d : Nat} {P : Int32 → Mem → Prop} {q83 : Option Nat → Int32 → Int32 → Mem → Option (Int32 × Mem)} {q139 : Option Nat → Int32 → Int32 → Int32 → Mem → Option (Int32 × Mem)} (hq83 : ∀ (r0 : Option Nat) (i1 : Int32) (i2 : Int32) (M : Mem), FQ (q83 r0 i1 i2 M) P → wp Y_X12_laysResults (rmD (d + 8) 0 0) (FM (QI P) 0 0) 0 0 83 [some (va_rf r0), some (.int i1), some (.int i2), none, none] [] M) (hq139 : ∀ (r0 : Option Nat) (i1 : Int32) (i2 : Int32) (i3 : Int32) (M : Mem), FQ (q139 r0 i1 i2 i3 M) P → wp Y_X12_laysResults (rmD (d + 8) 0 0) (FM (QI P) 0 0) 0 0 139 [some (va_rf r0), some (.int i1), some (.int i2), some (.int i3), none] [] M) (r0 : Option Nat) (i1 : Int32) (i2 : Int32) (i3 : Int32) (M : Mem) (h : FQ (b_X12_laysResults_139 q83 q139 r0 i1 i2 i3 M) P) : wp Y_X12_laysResults (rmD (d + 8) 0 0) (FM (QI P) 0 0) 0 0 139 [some (va_rf r0), some (.int i1), some (.int i2), some (.int i3), none] [] M := by
  unfold b_X12_laysResults_139 at h
  refine r_iload_n rfl rfl ?_
  refine r_aload_n rfl rfl ?_
  refine r_getI rfl fl_12_500 rfl h (fun v1 h => ?_)
  refine r_ic_ge 165 rfl (by decide) h (fun h => ?_) (fun h => ?_)
  · refine r_iinc (v := 1) (lo' := [some (va_rf r0), some (.int i1), some (.int (i2 + (1 : Int32))), some (.int i3), none]) rfl rfl rfl (by decide) rfl rfl ?_
    refine r_goto 83 rfl (by decide) ?_
    refine r_msk [true, true, true, false, true] rfl ?_
    exact hq83 _ _ _ _ h
  · refine r_aload_n rfl rfl ?_
    refine r_getR rfl fl_12_122 rfl h (fun v2 h => ?_)
    refine r_iload_n rfl rfl ?_
    refine r_aload_n rfl rfl ?_
    refine r_getR rfl fl_12_131 rfl h (fun v3 h => ?_)
    refine r_iload_n rfl rfl ?_
    refine r_iald rfl h (fun v4 h => ?_)
    refine r_iast rfl h (fun M1 h => ?_)
    refine r_iinc (v := 1) (lo' := [some (va_rf r0), some (.int i1), some (.int i2), some (.int (i3 + (1 : Int32))), none]) rfl rfl rfl (by decide) rfl rfl ?_
    refine r_goto 139 rfl (by decide) ?_
    exact hq139 _ _ _ _ _ h
theorem s_X12_laysResults_139 {d : Nat} {P : Int32 → Mem → Prop} {q83 : Option Nat → Int32 → Int32 → Mem → Option (Int32 × Mem)} (hq83 : ∀ (r0 : Option Nat) (i1 : Int32) (i2 : Int32) (M : Mem), FQ (q83 r0 i1 i2 M) P → wp Y_X12_laysResults (rmD (d + 8) 0 0) (FM (QI P) 0 0) 0 0 83 [some (va_rf r0), some (.int i1), some (.int i2), none, none] [] M) : ∀ (k : Nat) (r0 : Option Nat) (i1 : Int32) (i2 : Int32) (i3 : Int32) (M : Mem), FQ (f_X12_laysResults_139 q83 k r0 i1 i2 i3 M) P → wp Y_X12_laysResults (rmD (d + 8) 0 0) (FM (QI P) 0 0) 0 0 139 [some (va_rf r0), some (.int i1), some (.int i2), some (.int i3), none] [] M
  | 0, _, _, _, _, _, h => h.no
  | k + 1, r0, i1, i2, i3, M, h => sb_X12_laysResults_139 hq83 (s_X12_laysResults_139 hq83 k) r0 i1 i2 i3 M h
theorem sb_X12_laysResults_91 {d : Nat} {P : Int32 → Mem → Prop} {q83 : Option Nat → Int32 → Int32 → Mem → Option (Int32 × Mem)} {q91 : Option Nat → Int32 → Int32 → Int32 → Mem → Option (Int32 × Mem)} (hq83 : ∀ (r0 : Option Nat) (i1 : Int32) (i2 : Int32) (M : Mem), FQ (q83 r0 i1 i2 M) P → wp Y_X12_laysResults (rmD (d + 8) 0 0) (FM (QI P) 0 0) 0 0 83 [some (va_rf r0), some (.int i1), some (.int i2), none, none] [] M) (hq91 : ∀ (r0 : Option Nat) (i1 : Int32) (i2 : Int32) (i3 : Int32) (M : Mem), FQ (q91 r0 i1 i2 i3 M) P → wp Y_X12_laysResults (rmD (d + 8) 0 0) (FM (QI P) 0 0) 0 0 91 [some (va_rf r0), some (.int i1), some (.int i2), some (.int i3), none] [] M) (r0 : Option Nat) (i1 : Int32) (i2 : Int32) (i3 : Int32) (M : Mem) (h : FQ (b_X12_laysResults_91 q83 q91 r0 i1 i2 i3 M) P) : wp Y_X12_laysResults (rmD (d + 8) 0 0) (FM (QI P) 0 0) 0 0 91 [some (va_rf r0), some (.int i1), some (.int i2), some (.int i3), none] [] M := by
  unfold b_X12_laysResults_91 at h
  refine r_iload_n rfl rfl ?_
  refine r_aload_n rfl rfl ?_
  refine r_getI rfl fl_12_500 rfl h (fun v1 h => ?_)
  refine r_ic_ge 137 rfl (by decide) h (fun h => ?_) (fun h => ?_)
  · refine r_iconst (v := 0) rfl (by decide) ?_
    refine r_istore_n (lo' := [some (va_rf r0), some (.int i1), some (.int i2), some (.int (0 : Int32)), none]) rfl rfl rfl rfl ?_
    exact s_X12_laysResults_139 hq83 FU _ _ _ _ _ h
  · refine r_aload_n rfl rfl ?_
    refine r_getR rfl fl_12_122 rfl h (fun v2 h => ?_)
    refine r_iload_n rfl rfl ?_
    refine r_iald rfl h (fun v3 h => ?_)
    refine r_if_ne 131 rfl (by decide) h (fun h => ?_) (fun h => ?_)
    · refine r_aload_n rfl rfl ?_
      refine r_iload_n rfl rfl ?_
      refine r_iload_n rfl rfl ?_
      refine r_cv_i (vs := [.int i3, .int i2]) rfl ml_12_527 rfl (rOk.of rfl) ⟨Nat.zero_le _, Nat.zero_le _⟩ rfl rfl rfl h s_X12_settles (fun v4 M1 h => ?_)
      refine r_istore (lo' := [some (va_rf r0), some (.int i1), some (.int i2), some (.int i3), some (.int v4)]) rfl rfl rfl rfl ?_
      refine r_iload_n rfl rfl ?_
      refine r_if_ne 125 rfl (by decide) h (fun h => ?_) (fun h => ?_)
      · refine r_iload rfl rfl ?_
        refine r_if_eq 129 rfl (by decide) h (fun h => ?_) (fun h => ?_)
        · refine r_iconst (v := 0) rfl (by decide) ?_
          refine r_istore_n (lo' := [some (va_rf r0), some (.int (0 : Int32)), some (.int i2), some (.int i3), some (.int v4)]) rfl rfl (by simp [stOk, cat_rf]) rfl ?_
          refine r_iinc (v := 1) (lo' := [some (va_rf r0), some (.int (0 : Int32)), some (.int i2), some (.int (i3 + (1 : Int32))), some (.int v4)]) rfl rfl rfl (by decide) rfl rfl ?_
          refine r_goto 91 rfl (by decide) ?_
          refine r_msk [true, true, true, true, false] rfl ?_
          exact hq91 _ _ _ _ _ h
        · refine r_iconst (v := 1) rfl (by decide) ?_
          refine r_goto 130 rfl (by decide) ?_
          refine r_istore_n (lo' := [some (va_rf r0), some (.int (1 : Int32)), some (.int i2), some (.int i3), some (.int v4)]) rfl rfl (by simp [stOk, cat_rf]) rfl ?_
          refine r_iinc (v := 1) (lo' := [some (va_rf r0), some (.int (1 : Int32)), some (.int i2), some (.int (i3 + (1 : Int32))), some (.int v4)]) rfl rfl rfl (by decide) rfl rfl ?_
          refine r_goto 91 rfl (by decide) ?_
          refine r_msk [true, true, true, true, false] rfl ?_
          exact hq91 _ _ _ _ _ h
      · refine r_iconst (v := 1) rfl (by decide) ?_
        refine r_goto 130 rfl (by decide) ?_
        refine r_istore_n (lo' := [some (va_rf r0), some (.int (1 : Int32)), some (.int i2), some (.int i3), some (.int v4)]) rfl rfl (by simp [stOk, cat_rf]) rfl ?_
        refine r_iinc (v := 1) (lo' := [some (va_rf r0), some (.int (1 : Int32)), some (.int i2), some (.int (i3 + (1 : Int32))), some (.int v4)]) rfl rfl rfl (by decide) rfl rfl ?_
        refine r_goto 91 rfl (by decide) ?_
        refine r_msk [true, true, true, true, false] rfl ?_
        exact hq91 _ _ _ _ _ h
    · refine r_iinc (v := 1) (lo' := [some (va_rf r0), some (.int i1), some (.int i2), some (.int (i3 + (1 : Int32))), none]) rfl rfl rfl (by decide) rfl rfl ?_
      refine r_goto 91 rfl (by decide) ?_
      exact hq91 _ _ _ _ _ h
theorem s_X12_laysResults_91 {d : Nat} {P : Int32 → Mem → Prop} {q83 : Option Nat → Int32 → Int32 → Mem → Option (Int32 × Mem)} (hq83 : ∀ (r0 : Option Nat) (i1 : Int32) (i2 : Int32) (M : Mem), FQ (q83 r0 i1 i2 M) P → wp Y_X12_laysResults (rmD (d + 8) 0 0) (FM (QI P) 0 0) 0 0 83 [some (va_rf r0), some (.int i1), some (.int i2), none, none] [] M) : ∀ (k : Nat) (r0 : Option Nat) (i1 : Int32) (i2 : Int32) (i3 : Int32) (M : Mem), FQ (f_X12_laysResults_91 q83 k r0 i1 i2 i3 M) P → wp Y_X12_laysResults (rmD (d + 8) 0 0) (FM (QI P) 0 0) 0 0 91 [some (va_rf r0), some (.int i1), some (.int i2), some (.int i3), none] [] M
  | 0, _, _, _, _, _, h => h.no
  | k + 1, r0, i1, i2, i3, M, h => sb_X12_laysResults_91 hq83 (s_X12_laysResults_91 hq83 k) r0 i1 i2 i3 M h
theorem sb_X12_laysResults_83 {d : Nat} {P : Int32 → Mem → Prop} {q83 : Option Nat → Int32 → Int32 → Mem → Option (Int32 × Mem)} (hq83 : ∀ (r0 : Option Nat) (i1 : Int32) (i2 : Int32) (M : Mem), FQ (q83 r0 i1 i2 M) P → wp Y_X12_laysResults (rmD (d + 8) 0 0) (FM (QI P) 0 0) 0 0 83 [some (va_rf r0), some (.int i1), some (.int i2), none, none] [] M) (r0 : Option Nat) (i1 : Int32) (i2 : Int32) (M : Mem) (h : FQ (b_X12_laysResults_83 q83 r0 i1 i2 M) P) : wp Y_X12_laysResults (rmD (d + 8) 0 0) (FM (QI P) 0 0) 0 0 83 [some (va_rf r0), some (.int i1), some (.int i2), none, none] [] M := by
  unfold b_X12_laysResults_83 at h
  refine r_iload_n rfl rfl ?_
  refine r_if_eq 171 rfl (by decide) h (fun h => ?_) (fun h => ?_)
  · refine r_iconst (v := 1) rfl (by decide) ?_
    exact r_zret rfl rfl ⟨Nat.le_of_ble_eq_true rfl, Nat.le_of_ble_eq_true rfl⟩ h
  · refine r_iconst (v := 0) rfl (by decide) ?_
    refine r_istore_n (lo' := [some (va_rf r0), some (.int (0 : Int32)), some (.int i2), none, none]) rfl rfl (by simp [stOk, cat_rf]) rfl ?_
    refine r_iconst (v := 0) rfl (by decide) ?_
    refine r_istore_n (lo' := [some (va_rf r0), some (.int (0 : Int32)), some (.int i2), some (.int (0 : Int32)), none]) rfl rfl rfl rfl ?_
    exact s_X12_laysResults_91 hq83 FU _ _ _ _ _ h
theorem s_X12_laysResults_83 {d : Nat} {P : Int32 → Mem → Prop}   : ∀ (k : Nat) (r0 : Option Nat) (i1 : Int32) (i2 : Int32) (M : Mem), FQ (f_X12_laysResults_83  k r0 i1 i2 M) P → wp Y_X12_laysResults (rmD (d + 8) 0 0) (FM (QI P) 0 0) 0 0 83 [some (va_rf r0), some (.int i1), some (.int i2), none, none] [] M
  | 0, _, _, _, _, h => h.no
  | k + 1, r0, i1, i2, M, h => sb_X12_laysResults_83  (s_X12_laysResults_83  k) r0 i1 i2 M h
theorem s_X12_laysResults_38 {d : Nat} {P : Int32 → Mem → Prop} {q11 : Option Nat → Int32 → Mem → Option (Int32 × Mem)} (hq11 : ∀ (r0 : Option Nat) (i1 : Int32) (M : Mem), FQ (q11 r0 i1 M) P → wp Y_X12_laysResults (rmD (d + 8) 0 0) (FM (QI P) 0 0) 0 0 11 [some (va_rf r0), some (.int i1), none, none, none] [] M) (r0 : Option Nat) (i1 : Int32) (sr0 : Option Nat) (si1 : Int32) (si2 : Int32) (M : Mem) (h : FQ (f_X12_laysResults_38 q11 r0 i1 sr0 si1 si2 M) P) : wp Y_X12_laysResults (rmD (d + 8) 0 0) (FM (QI P) 0 0) 0 0 38 [some (va_rf r0), some (.int i1), none, none, none] [.int si2, .int si1, va_rf sr0] M := by
  unfold f_X12_laysResults_38 at h
  refine r_iast rfl h (fun M1 h => ?_)
  refine r_aload_n rfl rfl ?_
  refine r_getR rfl fl_12_125 rfl h (fun v1 h => ?_)
  refine r_iload_n rfl rfl ?_
  refine r_aload_n rfl rfl ?_
  refine r_getR rfl fl_12_115 rfl h (fun v2 h => ?_)
  refine r_iload_n rfl rfl ?_
  refine r_iald rfl h (fun v3 h => ?_)
  refine r_if_ne 57 rfl (by decide) h (fun h => ?_) (fun h => ?_)
  · refine r_iconst (v := 0) rfl (by decide) ?_
    refine r_goto 60 rfl (by decide) ?_
    refine r_iast rfl h (fun M2 h => ?_)
    refine r_aload_n rfl rfl ?_
    refine r_getR rfl fl_12_131 rfl h (fun v4 h => ?_)
    refine r_iload_n rfl rfl ?_
    refine r_aload_n rfl rfl ?_
    refine r_getR rfl fl_12_122 rfl h (fun v5 h => ?_)
    refine r_iload_n rfl rfl ?_
    refine r_iald rfl h (fun v6 h => ?_)
    refine r_iast rfl h (fun M3 h => ?_)
    refine r_iinc (v := 1) (lo' := [some (va_rf r0), some (.int (i1 + (1 : Int32))), none, none, none]) rfl rfl rfl (by decide) (by simp [stOk, cat_rf]) rfl ?_
    refine r_goto 11 rfl (by decide) ?_
    exact hq11 _ _ _ h
  · refine r_ldcw rfl kc_12_510 ?_
    refine r_iast rfl h (fun M4 h => ?_)
    refine r_aload_n rfl rfl ?_
    refine r_getR rfl fl_12_131 rfl h (fun v7 h => ?_)
    refine r_iload_n rfl rfl ?_
    refine r_aload_n rfl rfl ?_
    refine r_getR rfl fl_12_122 rfl h (fun v8 h => ?_)
    refine r_iload_n rfl rfl ?_
    refine r_iald rfl h (fun v9 h => ?_)
    refine r_iast rfl h (fun M5 h => ?_)
    refine r_iinc (v := 1) (lo' := [some (va_rf r0), some (.int (i1 + (1 : Int32))), none, none, none]) rfl rfl rfl (by decide) (by simp [stOk, cat_rf]) rfl ?_
    refine r_goto 11 rfl (by decide) ?_
    exact hq11 _ _ _ h
theorem sb_X12_laysResults_11 {d : Nat} {P : Int32 → Mem → Prop} {q11 : Option Nat → Int32 → Mem → Option (Int32 × Mem)} (hq11 : ∀ (r0 : Option Nat) (i1 : Int32) (M : Mem), FQ (q11 r0 i1 M) P → wp Y_X12_laysResults (rmD (d + 8) 0 0) (FM (QI P) 0 0) 0 0 11 [some (va_rf r0), some (.int i1), none, none, none] [] M) (r0 : Option Nat) (i1 : Int32) (M : Mem) (h : FQ (b_X12_laysResults_11 q11 r0 i1 M) P) : wp Y_X12_laysResults (rmD (d + 8) 0 0) (FM (QI P) 0 0) 0 0 11 [some (va_rf r0), some (.int i1), none, none, none] [] M := by
  unfold b_X12_laysResults_11 at h
  refine r_iload_n rfl rfl ?_
  refine r_aload_n rfl rfl ?_
  refine r_getI rfl fl_12_500 rfl h (fun v1 h => ?_)
  refine r_ic_ge 79 rfl (by decide) h (fun h => ?_) (fun h => ?_)
  · refine r_iconst (v := 1) rfl (by decide) ?_
    refine r_istore_n (lo' := [some (va_rf r0), some (.int (1 : Int32)), none, none, none]) rfl rfl (by simp [stOk, cat_rf]) rfl ?_
    refine r_iconst (v := 1) rfl (by decide) ?_
    refine r_istore_n (lo' := [some (va_rf r0), some (.int (1 : Int32)), some (.int (1 : Int32)), none, none]) rfl rfl rfl rfl ?_
    exact s_X12_laysResults_83 FU _ _ _ _ h
  · refine r_aload_n rfl rfl ?_
    refine r_getR rfl fl_12_122 rfl h (fun v2 h => ?_)
    refine r_iload_n rfl rfl ?_
    refine r_aload_n rfl rfl ?_
    refine r_getR rfl fl_12_115 rfl h (fun v3 h => ?_)
    refine r_iload_n rfl rfl ?_
    refine r_iald rfl h (fun v4 h => ?_)
    refine r_if_ne 37 rfl (by decide) h (fun h => ?_) (fun h => ?_)
    · refine r_iconst (v := 1) rfl (by decide) ?_
      refine r_goto 38 rfl (by decide) ?_
      exact s_X12_laysResults_38 hq11 _ _ _ _ _ _ h
    · refine r_iconst (v := 0) rfl (by decide) ?_
      exact s_X12_laysResults_38 hq11 _ _ _ _ _ _ h
theorem s_X12_laysResults_11 {d : Nat} {P : Int32 → Mem → Prop}   : ∀ (k : Nat) (r0 : Option Nat) (i1 : Int32) (M : Mem), FQ (f_X12_laysResults_11  k r0 i1 M) P → wp Y_X12_laysResults (rmD (d + 8) 0 0) (FM (QI P) 0 0) 0 0 11 [some (va_rf r0), some (.int i1), none, none, none] [] M
  | 0, _, _, _, h => h.no
  | k + 1, r0, i1, M, h => sb_X12_laysResults_11  (s_X12_laysResults_11  k) r0 i1 M h
theorem s_X12_laysResults {d : Nat} {P : Int32 → Mem → Prop} {r0 : Option Nat} {M : Mem} (h : FQ (f_X12_laysResults r0 M) P) : Con Y_X12_laysResults (d + 8) 0 0 [va_rf r0] M (QI P) := by
  refine Con.of [some (va_rf r0), none, none, none, none] (by decide +kernel) dk_X12_laysResults (by simp [Y_X12_laysResults, cat_rf, cat_i, cat_l]) (by simp [loE, Y_X12_laysResults, cat_rf, cat_i, cat_l, List.replicate]) ?_
  unfold f_X12_laysResults at h
  refine r_aload_n rfl rfl ?_
  refine r_cv_i (vs := []) rfl ml_12_507 rfl (rOk.of rfl) ⟨Nat.zero_le _, Nat.zero_le _⟩ rfl rfl rfl h s_X12_laysStates (fun v1 M1 h => ?_)
  refine r_if_ne 9 rfl (by decide) h (fun h => ?_) (fun h => ?_)
  · refine r_iconst (v := 0) rfl (by decide) ?_
    exact r_zret rfl rfl ⟨Nat.le_of_ble_eq_true rfl, Nat.le_of_ble_eq_true rfl⟩ h
  · refine r_iconst (v := 0) rfl (by decide) ?_
    refine r_istore_n (lo' := [some (va_rf r0), some (.int (0 : Int32)), none, none, none]) rfl rfl (by simp [stOk, cat_rf]) rfl ?_
    exact s_X12_laysResults_11 FU _ _ _ h
set_option maxRecDepth 20000 in
theorem dk_X12_balanced : ∀ pc i, L_X12_balanced[pc]? = some (some i) → decode prog_14_method_111_code pc = .ok i := dk_of (by decide +kernel)
theorem sb_X12_balanced_24 {d : Nat} {P : Int32 → Mem → Prop} {q24 : Option Nat → Int32 → Int32 → Int32 → Int32 → Mem → Option (Int32 × Mem)} (hq24 : ∀ (r0 : Option Nat) (i1 : Int32) (i2 : Int32) (i3 : Int32) (i4 : Int32) (M : Mem), FQ (q24 r0 i1 i2 i3 i4 M) P → wp Y_X12_balanced (rmD (d + 9) 0 0) (FM (QI P) 0 0) 0 0 24 [some (va_rf r0), some (.int i1), some (.int i2), some (.int i3), some (.int i4)] [] M) (r0 : Option Nat) (i1 : Int32) (i2 : Int32) (i3 : Int32) (i4 : Int32) (M : Mem) (h : FQ (b_X12_balanced_24 q24 r0 i1 i2 i3 i4 M) P) : wp Y_X12_balanced (rmD (d + 9) 0 0) (FM (QI P) 0 0) 0 0 24 [some (va_rf r0), some (.int i1), some (.int i2), some (.int i3), some (.int i4)] [] M := by
  unfold b_X12_balanced_24 at h
  refine r_iload rfl rfl ?_
  refine r_iconst (v := 4) rfl (by decide) ?_
  refine r_ic_ge 75 rfl (by decide) h (fun h => ?_) (fun h => ?_)
  · refine r_aload_n rfl rfl ?_
    refine r_getR rfl fl_12_7 rfl h (fun v1 h => ?_)
    refine r_bipush (v := 10) rfl (by decide) ?_
    refine r_iload_n rfl rfl ?_
    refine r_iadd rfl ?_
    refine r_iload_n rfl rfl ?_
    refine r_iast rfl h (fun M1 h => ?_)
    refine r_iload_n rfl rfl ?_
    exact r_iret rfl rfl ⟨Nat.le_of_ble_eq_true rfl, Nat.le_of_ble_eq_true rfl⟩ h
  · refine r_iload_n rfl rfl ?_
    refine r_iconst (v := -1) rfl (by decide) ?_
    refine r_ic_ne 75 rfl (by decide) h (fun h => ?_) (fun h => ?_)
    · refine r_aload_n rfl rfl ?_
      refine r_getR rfl fl_12_7 rfl h (fun v2 h => ?_)
      refine r_bipush (v := 10) rfl (by decide) ?_
      refine r_iload_n rfl rfl ?_
      refine r_iadd rfl ?_
      refine r_iload rfl rfl ?_
      refine r_iast rfl h (fun M2 h => ?_)
      refine r_aload_n rfl rfl ?_
      refine r_cv_i (vs := []) rfl ml_12_530 rfl (rOk.of rfl) ⟨Nat.zero_le _, Nat.zero_le _⟩ rfl rfl rfl h s_X12_laysResults (fun v3 M3 h => ?_)
      refine r_if_eq 67 rfl (by decide) h (fun h => ?_) (fun h => ?_)
      · refine r_iconst (v := -1) rfl (by decide) ?_
        refine r_istore_n (lo' := [some (va_rf r0), some (.int i1), some (.int i2), some (.int (-1 : Int32)), some (.int i4)]) rfl rfl rfl rfl ?_
        refine r_iinc (v := 1) (lo' := [some (va_rf r0), some (.int i1), some (.int i2), some (.int (-1 : Int32)), some (.int (i4 + (1 : Int32)))]) rfl rfl rfl (by decide) rfl rfl ?_
        refine r_goto 24 rfl (by decide) ?_
        exact hq24 _ _ _ _ _ _ h
      · refine r_aload_n rfl rfl ?_
        refine r_getR rfl fl_12_122 rfl h (fun v4 h => ?_)
        refine r_iconst (v := 0) rfl (by decide) ?_
        refine r_iald rfl h (fun v5 h => ?_)
        refine r_if_ne 67 rfl (by decide) h (fun h => ?_) (fun h => ?_)
        · refine r_iload rfl rfl ?_
          refine r_goto 68 rfl (by decide) ?_
          refine r_istore_n (lo' := [some (va_rf r0), some (.int i1), some (.int i2), some (.int i4), some (.int i4)]) rfl rfl rfl rfl ?_
          refine r_iinc (v := 1) (lo' := [some (va_rf r0), some (.int i1), some (.int i2), some (.int i4), some (.int (i4 + (1 : Int32)))]) rfl rfl rfl (by decide) rfl rfl ?_
          refine r_goto 24 rfl (by decide) ?_
          exact hq24 _ _ _ _ _ _ h
        · refine r_iconst (v := -1) rfl (by decide) ?_
          refine r_istore_n (lo' := [some (va_rf r0), some (.int i1), some (.int i2), some (.int (-1 : Int32)), some (.int i4)]) rfl rfl rfl rfl ?_
          refine r_iinc (v := 1) (lo' := [some (va_rf r0), some (.int i1), some (.int i2), some (.int (-1 : Int32)), some (.int (i4 + (1 : Int32)))]) rfl rfl rfl (by decide) rfl rfl ?_
          refine r_goto 24 rfl (by decide) ?_
          exact hq24 _ _ _ _ _ _ h
    · refine r_aload_n rfl rfl ?_
      refine r_getR rfl fl_12_7 rfl h (fun v6 h => ?_)
      refine r_bipush (v := 10) rfl (by decide) ?_
      refine r_iload_n rfl rfl ?_
      refine r_iadd rfl ?_
      refine r_iload_n rfl rfl ?_
      refine r_iast rfl h (fun M4 h => ?_)
      refine r_iload_n rfl rfl ?_
      exact r_iret rfl rfl ⟨Nat.le_of_ble_eq_true rfl, Nat.le_of_ble_eq_true rfl⟩ h
theorem s_X12_balanced_24 {d : Nat} {P : Int32 → Mem → Prop}   : ∀ (k : Nat) (r0 : Option Nat) (i1 : Int32) (i2 : Int32) (i3 : Int32) (i4 : Int32) (M : Mem), FQ (f_X12_balanced_24  k r0 i1 i2 i3 i4 M) P → wp Y_X12_balanced (rmD (d + 9) 0 0) (FM (QI P) 0 0) 0 0 24 [some (va_rf r0), some (.int i1), some (.int i2), some (.int i3), some (.int i4)] [] M
  | 0, _, _, _, _, _, _, h => h.no
  | k + 1, r0, i1, i2, i3, i4, M, h => sb_X12_balanced_24  (s_X12_balanced_24  k) r0 i1 i2 i3 i4 M h
theorem s_X12_balanced {d : Nat} {P : Int32 → Mem → Prop} {r0 : Option Nat} {i1 : Int32} {M : Mem} (h : FQ (f_X12_balanced r0 i1 M) P) : Con Y_X12_balanced (d + 9) 0 0 [va_rf r0, .int i1] M (QI P) := by
  refine Con.of [some (va_rf r0), some (.int i1), none, none, none] (by decide +kernel) dk_X12_balanced (by simp [Y_X12_balanced, cat_rf, cat_i, cat_l]) (by simp [loE, Y_X12_balanced, cat_rf, cat_i, cat_l, List.replicate]) ?_
  unfold f_X12_balanced at h
  refine r_iload_n rfl rfl ?_
  refine r_cs_i (vs := [.int i1]) rfl ml_12_159 (rOk.of rfl) ⟨Nat.zero_le _, Nat.zero_le _⟩ rfl rfl rfl h s_X12_isMove (fun v1 M1 h => ?_)
  refine r_if_ne 9 rfl (by decide) h (fun h => ?_) (fun h => ?_)
  · refine r_iconst (v := -1) rfl (by decide) ?_
    exact r_iret rfl rfl ⟨Nat.le_of_ble_eq_true rfl, Nat.le_of_ble_eq_true rfl⟩ h
  · refine r_aload_n rfl rfl ?_
    refine r_getR rfl fl_12_7 rfl h (fun v2 h => ?_)
    refine r_bipush (v := 10) rfl (by decide) ?_
    refine r_iload_n rfl rfl ?_
    refine r_iadd rfl ?_
    refine r_iald rfl h (fun v3 h => ?_)
    refine r_istore_n (lo' := [some (va_rf r0), some (.int i1), some (.int v3), none, none]) rfl rfl rfl rfl ?_
    refine r_iconst (v := -1) rfl (by decide) ?_
    refine r_istore_n (lo' := [some (va_rf r0), some (.int i1), some (.int v3), some (.int (-1 : Int32)), none]) rfl rfl rfl rfl ?_
    refine r_iconst (v := 0) rfl (by decide) ?_
    refine r_istore (lo' := [some (va_rf r0), some (.int i1), some (.int v3), some (.int (-1 : Int32)), some (.int (0 : Int32))]) rfl rfl rfl rfl ?_
    exact s_X12_balanced_24 FU _ _ _ _ _ _ h
set_option maxRecDepth 20000 in
theorem dk_X12_best : ∀ pc i, L_X12_best[pc]? = some (some i) → decode prog_14_method_101_code pc = .ok i := dk_of (by decide +kernel)
theorem s_X12_best {d : Nat} {P : Int32 → Mem → Prop} {r0 : Option Nat} {i1 : Int32} {M : Mem} (h : FQ (f_X12_best r0 i1 M) P) : Con Y_X12_best (d + 9) 0 0 [va_rf r0, .int i1] M (QI P) := by
  refine Con.of [some (va_rf r0), some (.int i1)] (by decide +kernel) dk_X12_best (by simp [Y_X12_best, cat_rf, cat_i, cat_l]) (by simp [loE, Y_X12_best, cat_rf, cat_i, cat_l, List.replicate]) ?_
  unfold f_X12_best at h
  refine r_iload_n rfl rfl ?_
  refine r_iconst (v := 0) rfl (by decide) ?_
  refine r_iconst (v := 1) rfl (by decide) ?_
  refine r_cs_i (vs := [.int i1, .int (0 : Int32), .int (1 : Int32)]) rfl ml_12_151 (rOk.of rfl) ⟨Nat.zero_le _, Nat.zero_le _⟩ rfl rfl rfl h s_X12_in (fun v1 M1 h => ?_)
  refine r_if_ne 12 rfl (by decide) h (fun h => ?_) (fun h => ?_)
  · refine r_bipush (v := -3) rfl (by decide) ?_
    exact r_iret rfl rfl ⟨Nat.le_of_ble_eq_true rfl, Nat.le_of_ble_eq_true rfl⟩ h
  · refine r_aload_n rfl rfl ?_
    refine r_cv_i (vs := []) rfl ml_12_530 rfl (rOk.of rfl) ⟨Nat.zero_le _, Nat.zero_le _⟩ rfl rfl rfl h s_X12_laysResults (fun v2 M2 h => ?_)
    refine r_if_ne 22 rfl (by decide) h (fun h => ?_) (fun h => ?_)
    · refine r_bipush (v := -2) rfl (by decide) ?_
      exact r_iret rfl rfl ⟨Nat.le_of_ble_eq_true rfl, Nat.le_of_ble_eq_true rfl⟩ h
    · refine r_iload_n rfl rfl ?_
      refine r_if_ne 35 rfl (by decide) h (fun h => ?_) (fun h => ?_)
      · refine r_aload_n rfl rfl ?_
        refine r_getR rfl fl_12_122 rfl h (fun v3 h => ?_)
        refine r_iconst (v := 0) rfl (by decide) ?_
        refine r_iald rfl h (fun v4 h => ?_)
        refine r_goto 54 rfl (by decide) ?_
        exact r_iret rfl rfl ⟨Nat.le_of_ble_eq_true rfl, Nat.le_of_ble_eq_true rfl⟩ h
      · refine r_aload_n rfl rfl ?_
        refine r_getR rfl fl_12_122 rfl h (fun v5 h => ?_)
        refine r_iconst (v := 0) rfl (by decide) ?_
        refine r_iald rfl h (fun v6 h => ?_)
        refine r_if_ne 48 rfl (by decide) h (fun h => ?_) (fun h => ?_)
        · refine r_iconst (v := -1) rfl (by decide) ?_
          refine r_goto 54 rfl (by decide) ?_
          exact r_iret rfl rfl ⟨Nat.le_of_ble_eq_true rfl, Nat.le_of_ble_eq_true rfl⟩ h
        · refine r_aload_n rfl rfl ?_
          refine r_getR rfl fl_12_125 rfl h (fun v7 h => ?_)
          refine r_iconst (v := 0) rfl (by decide) ?_
          refine r_iald rfl h (fun v8 h => ?_)
          exact r_iret rfl rfl ⟨Nat.le_of_ble_eq_true rfl, Nat.le_of_ble_eq_true rfl⟩ h
set_option maxRecDepth 20000 in
theorem dk_X12_isText : ∀ pc i, L_X12_isText[pc]? = some (some i) → decode prog_14_method_44_code pc = .ok i := dk_of (by decide +kernel)
theorem s_X12_isText {d : Nat} {P : Int32 → Mem → Prop} {r0 : Option Nat} {i1 : Int32} {M : Mem} (h : FQ (f_X12_isText r0 i1 M) P) : Con Y_X12_isText (d + 1) 0 0 [va_rf r0, .int i1] M (QI P) := by
  refine Con.of [some (va_rf r0), some (.int i1)] (by decide +kernel) dk_X12_isText (by simp [Y_X12_isText, cat_rf, cat_i, cat_l]) (by simp [loE, Y_X12_isText, cat_rf, cat_i, cat_l, List.replicate]) ?_
  unfold f_X12_isText at h
  refine r_iload_n rfl rfl ?_
  refine r_iconst (v := -1) rfl (by decide) ?_
  refine r_ic_eq 21 rfl (by decide) h (fun h => ?_) (fun h => ?_)
  · refine r_iconst (v := 1) rfl (by decide) ?_
    refine r_goto 26 rfl (by decide) ?_
    exact r_zret rfl rfl ⟨Nat.le_of_ble_eq_true rfl, Nat.le_of_ble_eq_true rfl⟩ h
  · refine r_iload_n rfl rfl ?_
    refine r_iconst (v := 0) rfl (by decide) ?_
    refine r_aload_n rfl rfl ?_
    refine r_getR rfl fl_12_7 rfl h (fun v1 h => ?_)
    refine r_iconst (v := 1) rfl (by decide) ?_
    refine r_iald rfl h (fun v2 h => ?_)
    refine r_iconst (v := 1) rfl (by decide) ?_
    refine r_isub rfl ?_
    refine r_cs_i (vs := [.int i1, .int (0 : Int32), .int (v2 - (1 : Int32))]) rfl ml_12_151 (rOk.of rfl) ⟨Nat.zero_le _, Nat.zero_le _⟩ rfl rfl rfl h s_X12_in (fun v3 M1 h => ?_)
    refine r_if_eq 25 rfl (by decide) h (fun h => ?_) (fun h => ?_)
    · refine r_iconst (v := 0) rfl (by decide) ?_
      exact r_zret rfl rfl ⟨Nat.le_of_ble_eq_true rfl, Nat.le_of_ble_eq_true rfl⟩ h
    · refine r_iconst (v := 1) rfl (by decide) ?_
      refine r_goto 26 rfl (by decide) ?_
      exact r_zret rfl rfl ⟨Nat.le_of_ble_eq_true rfl, Nat.le_of_ble_eq_true rfl⟩ h
