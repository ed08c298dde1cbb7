/-! walked by program (wip/gen): X12_loses X12_greatest X12_laysWorth X12_isNever X12_offerBy -/
def L_X12_loses : List (Option (Instr × Nat)) := [some (.aload_n 0, 1), some (.invokevirtual 410, 3), none, none, some (.aload_n 0, 1), some (.invokevirtual 422, 3), none, none, some (.aload_n 0, 1), some (.iload_n 1, 1), some (.iload_n 2, 1), some (.iload_n 3, 1), some (.invokevirtual 419, 3), none, none, some (.ifCond .ne 5, 3), none, none, some (.iconst (-1), 1), some (.ireturn, 1), some (.aload_n 0, 1), some (.invokevirtual 530, 3), none, none, some (.ifCond .ne 6, 3), none, none, some (.bipush (-2), 2), none, some (.ireturn, 1), some (.aload_n 0, 1), some (.iconst 0, 1), some (.iload_n 1, 1), some (.iload_n 2, 1), some (.iload_n 3, 1), some (.invokevirtual 511, 3), none, none, some (.ldc_w 510, 3), none, none, some (.if_icmp .ge 9, 3), none, none, some (.iconst 1, 1), some (.iload_n 1, 1), some (.ishl, 1), some (.goto 4, 3), none, none, some (.iconst 0, 1), some (.istore 4, 2), none, some (.aload_n 0, 1), some (.iconst 0, 1), some (.iload_n 2, 1), some (.iload_n 1, 1), some (.iload_n 3, 1), some (.invokevirtual 511, 3), none, none, some (.ldc_w 510, 3), none, none, some (.if_icmp .ge 12, 3), none, none, some (.iload 4, 2), none, some (.iconst 1, 1), some (.iload_n 2, 1), some (.ishl, 1), some (.ior, 1), some (.goto 5, 3), none, none, some (.iload 4, 2), none, some (.istore 4, 2), none, some (.aload_n 0, 1), some (.iconst 0, 1), some (.iload_n 3, 1), some (.iload_n 1, 1), some (.iload_n 2, 1), some (.invokevirtual 511, 3), none, none, some (.ldc_w 510, 3), none, none, some (.if_icmp .ge 12, 3), none, none, some (.iload 4, 2), none, some (.iconst 1, 1), some (.iload_n 3, 1), some (.ishl, 1), some (.ior, 1), some (.goto 5, 3), none, none, some (.iload 4, 2), none, some (.ireturn, 1)]
def Y_X12_loses : YM := (⟨RX12, "loses", "(III)I"⟩, prog_14_method_104_code, L_X12_loses, 5, some .int)
def f_X12_loses_78  (r0 : Option Nat) (i1 : Int32) (i2 : Int32) (i3 : Int32) (si0 : Int32) (M : Mem) : Option (Int32 × Mem) :=
cR M r0 (1, 12) (cA (f_X12_lostBy r0 (0 : Int32) i3 i1 i2 M) fun v1 M1 =>
(if (100000 : Int32) ≤ v1 then
some (si0, M1)
else
some ((si0 ||| ((1 : Int32) <<< (i3 &&& 31))), M1)))
def f_X12_loses_51  (r0 : Option Nat) (i1 : Int32) (i2 : Int32) (i3 : Int32) (si0 : Int32) (M : Mem) : Option (Int32 × Mem) :=
cR M r0 (1, 12) (cA (f_X12_lostBy r0 (0 : Int32) i2 i1 i3 M) fun v1 M1 =>
(if (100000 : Int32) ≤ v1 then
f_X12_loses_78 r0 i1 i2 i3 si0 M1
else
f_X12_loses_78 r0 i1 i2 i3 (si0 ||| ((1 : Int32) <<< (i2 &&& 31))) M1))
def f_X12_loses (r0 : Option Nat) (i1 : Int32) (i2 : Int32) (i3 : Int32) (M : Mem) : Option (Int32 × Mem) :=
cR M r0 (1, 12) (cA (f_X12_laysNow r0 M) fun _ M1 =>
cR M1 r0 (1, 12) (cA (f_X12_laysMoves r0 M1) fun _ M2 =>
cR M2 r0 (1, 12) (cA (f_X12_isOffer r0 i1 i2 i3 M2) fun v1 M3 =>
(if v1 = 0 then
some ((-1 : Int32), M3)
else
cR M3 r0 (1, 12) (cA (f_X12_laysResults r0 M3) fun v2 M4 =>
(if v2 = 0 then
some ((-2 : Int32), M4)
else
cR M4 r0 (1, 12) (cA (f_X12_lostBy r0 (0 : Int32) i1 i2 i3 M4) fun v3 M5 =>
(if (100000 : Int32) ≤ v3 then
f_X12_loses_51 r0 i1 i2 i3 (0 : Int32) M5
else
f_X12_loses_51 r0 i1 i2 i3 ((1 : Int32) <<< (i1 &&& 31)) M5))))))))
def L_X12_greatest : List (Option (Instr × Nat)) := [some (.iconst (-1), 1), some (.istore_n 3, 1), some (.iconst 2, 1), some (.istore 4, 2), none, some (.iload 4, 2), none, some (.ifCond .lt 51, 3), none, none, some (.iload_n 1, 1), some (.iconst 3, 1), some (.iload 4, 2), none, some (.imul, 1), some (.ishr, 1), some (.bipush 7, 2), none, some (.iand, 1), some (.istore 5, 2), none, some (.iload 5, 2), none, some (.iload_n 2, 1), some (.if_icmp .eq 28, 3), none, none, some (.iload_n 3, 1), some (.iconst (-1), 1), some (.if_icmp .eq 20, 3), none, none, some (.aload_n 0, 1), some (.getfield 103, 3), none, none, some (.iload 5, 2), none, some (.laload, 1), some (.aload_n 0, 1), some (.getfield 103, 3), none, none, some (.iload_n 3, 1), some (.laload, 1), some (.lcmp, 1), some (.ifCond .le 6, 3), none, none, some (.iload 5, 2), none, some (.istore_n 3, 1), some (.iinc 4 (-1), 3), none, none, some (.goto (-50), 3), none, none, some (.iload_n 3, 1), some (.ireturn, 1)]
def Y_X12_greatest : YM := (⟨RX12, "greatest", "(II)I"⟩, prog_14_method_74_code, L_X12_greatest, 6, some .int)
def b_X12_greatest_5 (q5 : Option Nat → Int32 → Int32 → Int32 → Int32 → Mem → Option (Int32 × Mem)) (r0 : Option Nat) (i1 : Int32) (i2 : Int32) (i3 : Int32) (i4 : Int32) (M : Mem) : Option (Int32 × Mem) :=
(if i4 < 0 then
some (i3, M)
else
(if ((i1 >>> (((3 : Int32) * i4) &&& 31)) &&& (7 : Int32)) = i2 then
q5 r0 i1 i2 i3 (i4 + (-1 : Int32)) M
else
(if i3 = (-1 : Int32) then
q5 r0 i1 i2 ((i1 >>> (((3 : Int32) * i4) &&& 31)) &&& (7 : Int32)) (i4 + (-1 : Int32)) M
else
gR M r0 12 54 fun v1 =>
aL M v1 ((i1 >>> (((3 : Int32) * i4) &&& 31)) &&& (7 : Int32)) fun v2 =>
gR M r0 12 54 fun v3 =>
aL M v3 i3 fun v4 =>
(if (lg_cmp v2 v4) ≤ 0 then
q5 r0 i1 i2 i3 (i4 + (-1 : Int32)) M
else
q5 r0 i1 i2 ((i1 >>> (((3 : Int32) * i4) &&& 31)) &&& (7 : Int32)) (i4 + (-1 : Int32)) M))))
def f_X12_greatest_5 (n : Nat) : Option Nat → Int32 → Int32 → Int32 → Int32 → Mem → Option (Int32 × Mem) := lpN (fun _ _ _ _ _ _ => none) (b_X12_greatest_5 ) n
def f_X12_greatest (r0 : Option Nat) (i1 : Int32) (i2 : Int32) (M : Mem) : Option (Int32 × Mem) :=
f_X12_greatest_5 FU r0 i1 i2 (-1 : Int32) (2 : Int32) M
def L_X12_laysWorth : List (Option (Instr × Nat)) := [some (.iconst 0, 1), some (.istore_n 3, 1), some (.iload_n 3, 1), some (.bipush 8, 2), none, some (.if_icmp .ge 42, 3), none, none, some (.aload_n 0, 1), some (.aload_n 0, 1), some (.getfield 94, 3), none, none, some (.iload_n 3, 1), some (.iaload, 1), some (.putfield 381, 3), none, none, some (.aload_n 0, 1), some (.aload_n 0, 1), some (.getfield 97, 3), none, none, some (.iload_n 3, 1), some (.iaload, 1), some (.putfield 384, 3), none, none, some (.aload_n 0, 1), some (.getfield 103, 3), none, none, some (.iload_n 3, 1), some (.aload_n 0, 1), some (.iload_n 1, 1), some (.iload_n 2, 1), some (.iload_n 3, 1), some (.invokevirtual 394, 3), none, none, some (.lastore, 1), some (.iinc 3 1, 3), none, none, some (.goto (-42), 3), none, none, some (.return_, 1)]
def Y_X12_laysWorth : YM := (⟨RX12, "laysWorth", "(II)V"⟩, prog_14_method_71_code, L_X12_laysWorth, 4, none)
def b_X12_laysWorth_2 (q2 : Option Nat → Int32 → Int32 → Int32 → Mem → Option (Unit × Mem)) (r0 : Option Nat) (i1 : Int32) (i2 : Int32) (i3 : Int32) (M : Mem) : Option (Unit × Mem) :=
(if (8 : Int32) ≤ i3 then
some ((), M)
else
gR M r0 12 50 fun v1 =>
aI M v1 2 i3 fun v2 =>
pI M r0 12 46 v2 fun M1 =>
gR M1 r0 12 51 fun v3 =>
aI M1 v3 2 i3 fun v4 =>
pI M1 r0 12 47 v4 fun M2 =>
gR M2 r0 12 54 fun v5 =>
cR M2 r0 (1, 12) (cA (f_X12_sumOf r0 i1 i2 i3 M2) fun v6 M3 =>
wL M3 v5 i3 v6 fun M4 =>
q2 r0 i1 i2 (i3 + (1 : Int32)) M4))
def f_X12_laysWorth_2 (n : Nat) : Option Nat → Int32 → Int32 → Int32 → Mem → Option (Unit × Mem) := lpN (fun _ _ _ _ _ => none) (b_X12_laysWorth_2 ) n
def f_X12_laysWorth (r0 : Option Nat) (i1 : Int32) (i2 : Int32) (M : Mem) : Option (Unit × Mem) :=
f_X12_laysWorth_2 FU r0 i1 i2 (0 : Int32) M
def L_X12_isNever : List (Option (Instr × Nat)) := [some (.iconst 0, 1), some (.istore_n 3, 1), some (.iconst 0, 1), some (.istore 4, 2), none, some (.iload_n 1, 1), some (.iconst (-1), 1), some (.if_icmp .eq 84, 3), none, none, some (.iload 4, 2), none, some (.aload_n 0, 1), some (.getfield 27, 3), none, none, some (.iload_n 1, 1), some (.iaload, 1), some (.if_icmp .ge 73, 3), none, none, some (.aload_n 0, 1), some (.getfield 30, 3), none, none, some (.bipush 20, 2), none, some (.iload_n 1, 1), some (.imul, 1), some (.iload 4, 2), none, some (.iadd, 1), some (.iaload, 1), some (.iconst 5, 1), some (.if_icmp .ne 51, 3), none, none, some (.aload_n 0, 1), some (.iload_n 2, 1), some (.aload_n 0, 1), some (.getfield 94, 3), none, none, some (.iload_n 2, 1), some (.iaload, 1), some (.aload_n 0, 1), some (.getfield 97, 3), none, none, some (.iload_n 2, 1), some (.iaload, 1), some (.invokevirtual 373, 3), none, none, some (.iload_n 3, 1), some (.ifCond .ne 24, 3), none, none, some (.aload_n 0, 1), some (.aload_n 0, 1), some (.getfield 33, 3), none, none, some (.bipush 20, 2), none, some (.iload_n 1, 1), some (.imul, 1), some (.iload 4, 2), none, some (.iadd, 1), some (.iaload, 1), some (.invokevirtual 377, 3), none, none, some (.lconst 0, 1), some (.lcmp, 1), some (.ifCond .le 7, 3), none, none, some (.iconst 1, 1), some (.goto 4, 3), none, none, some (.iconst 0, 1), some (.istore_n 3, 1), some (.iinc 4 1, 3), none, none, some (.goto (-83), 3), none, none, some (.iload_n 3, 1), some (.ireturn, 1)]
def Y_X12_isNever : YM := (⟨RX12, "isNever", "(II)Z"⟩, prog_14_method_72_code, L_X12_isNever, 5, some .boolean)
def b_X12_isNever_5 (q5 : Option Nat → Int32 → Int32 → Int32 → Int32 → Mem → Option (Int32 × Mem)) (r0 : Option Nat) (i1 : Int32) (i2 : Int32) (i3 : Int32) (i4 : Int32) (M : Mem) : Option (Int32 × Mem) :=
(if i1 = (-1 : Int32) then
tv i3 (some (i3, M))
else
gR M r0 12 9 fun v1 =>
aI M v1 2 i1 fun v2 =>
(if v2 ≤ i4 then
tv i3 (some (i3, M))
else
gR M r0 12 10 fun v3 =>
aI M v3 2 (((20 : Int32) * i1) + i4) fun v4 =>
(if v4 = (5 : Int32) then
gR M r0 12 50 fun v5 =>
aI M v5 2 i2 fun v6 =>
gR M r0 12 51 fun v7 =>
aI M v7 2 i2 fun v8 =>
cR M r0 (1, 12) (cA (f_X12_names r0 i2 v6 v8 M) fun _ M1 =>
(if i3 = 0 then
gR M1 r0 12 11 fun v9 =>
aI M1 v9 2 (((20 : Int32) * i1) + i4) fun v10 =>
cR M1 r0 (1, 12) (cA (f_X12_saysOf r0 v10 M1) fun v11 M2 =>
(if (lg_cmp v11 (0 : Int64)) ≤ 0 then
q5 r0 i1 i2 (0 : Int32) (i4 + (1 : Int32)) M2
else
q5 r0 i1 i2 (1 : Int32) (i4 + (1 : Int32)) M2))
else
q5 r0 i1 i2 (1 : Int32) (i4 + (1 : Int32)) M1))
else
q5 r0 i1 i2 i3 (i4 + (1 : Int32)) M)))
def f_X12_isNever_5 (n : Nat) : Option Nat → Int32 → Int32 → Int32 → Int32 → Mem → Option (Int32 × Mem) := lpN (fun _ _ _ _ _ _ => none) (b_X12_isNever_5 ) n
def f_X12_isNever (r0 : Option Nat) (i1 : Int32) (i2 : Int32) (M : Mem) : Option (Int32 × Mem) :=
f_X12_isNever_5 FU r0 i1 i2 (0 : Int32) (0 : Int32) M
def L_X12_offerBy : List (Option (Instr × Nat)) := [some (.iconst 0, 1), some (.istore_n 2, 1), some (.iconst 0, 1), some (.istore_n 3, 1), some (.iload_n 3, 1), some (.bipush 8, 2), none, some (.if_icmp .ge 36, 3), none, none, some (.aload_n 0, 1), some (.iload_n 3, 1), some (.invokevirtual 413, 3), none, none, some (.ifCond .eq 20, 3), none, none, some (.aload_n 0, 1), some (.iload_n 1, 1), some (.iload_n 3, 1), some (.invokevirtual 442, 3), none, none, some (.ifCond .ne 11, 3), none, none, some (.iload_n 2, 1), some (.iconst 1, 1), some (.iload_n 3, 1), some (.ishl, 1), some (.ior, 1), some (.goto 4, 3), none, none, some (.iload_n 2, 1), some (.istore_n 2, 1), some (.iinc 3 1, 3), none, none, some (.goto (-36), 3), none, none, some (.iload_n 2, 1), some (.invokestatic 407, 3), none, none, some (.iconst 3, 1), some (.if_icmp .ge 10, 3), none, none, some (.aload_n 0, 1), some (.getfield 401, 3), none, none, some (.goto 4, 3), none, none, some (.iload_n 2, 1), some (.istore_n 3, 1), some (.aload_n 0, 1), some (.iload_n 1, 1), some (.iconst 2, 1), some (.invokevirtual 446, 3), none, none, some (.iconst (-1), 1), some (.istore 4, 2), none, some (.lconst 0, 1), some (.lstore 5, 2), none, some (.iconst 0, 1), some (.istore 7, 2), none, some (.iload 7, 2), none, some (.sipush 512, 3), none, none, some (.if_icmp .ge 114, 3), none, none, some (.iload 7, 2), none, some (.bipush 64, 2), none, some (.idiv, 1), some (.istore 8, 2), none, some (.iload 7, 2), none, some (.bipush 8, 2), none, some (.idiv, 1), some (.bipush 8, 2), none, some (.irem, 1), some (.istore 9, 2), none, some (.iload 7, 2), none, some (.bipush 8, 2), none, some (.irem, 1), some (.istore 10, 2), none, some (.iload 8, 2), none, some (.iload 9, 2), none, some (.if_icmp .ge 77, 3), none, none, some (.iload 9, 2), none, some (.iload 10, 2), none, some (.if_icmp .ge 70, 3), none, none, some (.iload_n 3, 1), some (.iload 8, 2), none, some (.ishr, 1), some (.iload_n 3, 1), some (.iload 9, 2), none, some (.ishr, 1), some (.iand, 1), some (.iload_n 3, 1), some (.iload 10, 2), none, some (.ishr, 1), some (.iand, 1), some (.iconst 1, 1), some (.iand, 1), some (.iconst 1, 1), some (.if_icmp .ne 50, 3), none, none, some (.aload_n 0, 1), some (.getfield 103, 3), none, none, some (.iload 8, 2), none, some (.laload, 1), some (.aload_n 0, 1), some (.getfield 103, 3), none, none, some (.iload 9, 2), none, some (.laload, 1), some (.ladd, 1), some (.aload_n 0, 1), some (.getfield 103, 3), none, none, some (.iload 10, 2), none, some (.laload, 1), some (.ladd, 1), some (.lstore 11, 2), none, some (.iload 4, 2), none, some (.iconst (-1), 1), some (.if_icmp .eq 11, 3), none, none, some (.lload 11, 2), none, some (.lload 5, 2), none, some (.lcmp, 1), some (.ifCond .le 11, 3), none, none, some (.iload 7, 2), none, some (.istore 4, 2), none, some (.lload 11, 2), none, some (.lstore 5, 2), none, some (.iinc 7 1, 3), none, none, some (.goto (-116), 3), none, none, some (.iload 4, 2), none, some (.ireturn, 1)]
def Y_X12_offerBy : YM := (⟨RX12, "offerBy", "(I)I"⟩, prog_14_method_73_code, L_X12_offerBy, 13, some .int)
def b_X12_offerBy_75 (q75 : Option Nat → Int32 → Int32 → Int64 → Int32 → Mem → Option (Int32 × Mem)) (r0 : Option Nat) (i3 : Int32) (i4 : Int32) (l5 : Int64) (i7 : Int32) (M : Mem) : Option (Int32 × Mem) :=
(if (512 : Int32) ≤ i7 then
some (i4, M)
else
nzI (64 : Int32) (
nzI (8 : Int32) (
nzI (8 : Int32) (
nzI (8 : Int32) (
(if ((i7 / (8 : Int32)) - (i7 / (8 : Int32)) / (8 : Int32) * (8 : Int32)) ≤ (i7 / (64 : Int32)) then
q75 r0 i3 i4 l5 (i7 + (1 : Int32)) M
else
(if (i7 - i7 / (8 : Int32) * (8 : Int32)) ≤ ((i7 / (8 : Int32)) - (i7 / (8 : Int32)) / (8 : Int32) * (8 : Int32)) then
q75 r0 i3 i4 l5 (i7 + (1 : Int32)) M
else
(if ((((i3 >>> ((i7 / (64 : Int32)) &&& 31)) &&& (i3 >>> (((i7 / (8 : Int32)) - (i7 / (8 : Int32)) / (8 : Int32) * (8 : Int32)) &&& 31))) &&& (i3 >>> ((i7 - i7 / (8 : Int32) * (8 : Int32)) &&& 31))) &&& (1 : Int32)) = (1 : Int32) then
gR M r0 12 54 fun v1 =>
aL M v1 (i7 / (64 : Int32)) fun v2 =>
gR M r0 12 54 fun v3 =>
aL M v3 ((i7 / (8 : Int32)) - (i7 / (8 : Int32)) / (8 : Int32) * (8 : Int32)) fun v4 =>
gR M r0 12 54 fun v5 =>
aL M v5 (i7 - i7 / (8 : Int32) * (8 : Int32)) fun v6 =>
(if i4 = (-1 : Int32) then
q75 r0 i3 i7 ((v2 + v4) + v6) (i7 + (1 : Int32)) M
else
(if (lg_cmp ((v2 + v4) + v6) l5) ≤ 0 then
q75 r0 i3 i4 l5 (i7 + (1 : Int32)) M
else
q75 r0 i3 i7 ((v2 + v4) + v6) (i7 + (1 : Int32)) M))
else
q75 r0 i3 i4 l5 (i7 + (1 : Int32)) M))))))))
def f_X12_offerBy_75 (n : Nat) : Option Nat → Int32 → Int32 → Int64 → Int32 → Mem → Option (Int32 × Mem) := lpN (fun _ _ _ _ _ _ => none) (b_X12_offerBy_75 ) n
def b_X12_offerBy_4 (q4 : Option Nat → Int32 → Int32 → Int32 → Mem → Option (Int32 × Mem)) (r0 : Option Nat) (i1 : Int32) (i2 : Int32) (i3 : Int32) (M : Mem) : Option (Int32 × Mem) :=
(if (8 : Int32) ≤ i3 then
cA (f_X12_bits i2 M) fun v1 M1 =>
(if (3 : Int32) ≤ v1 then
cR M1 r0 (1, 12) (cA (f_X12_laysWorth r0 i1 (2 : Int32) M1) fun _ M2 =>
f_X12_offerBy_75 FU r0 i2 (-1 : Int32) (0 : Int64) (0 : Int32) M2)
else
gI M1 r0 12 49 fun v2 =>
cR M1 r0 (1, 12) (cA (f_X12_laysWorth r0 i1 (2 : Int32) M1) fun _ M3 =>
f_X12_offerBy_75 FU r0 v2 (-1 : Int32) (0 : Int64) (0 : Int32) M3))
else
cR M r0 (1, 12) (cA (f_X12_isIn r0 i3 M) fun v3 M4 =>
(if v3 = 0 then
q4 r0 i1 i2 (i3 + (1 : Int32)) M4
else
cR M4 r0 (1, 12) (cA (f_X12_isNever r0 i1 i3 M4) fun v4 M5 =>
(if v4 = 0 then
q4 r0 i1 (i2 ||| ((1 : Int32) <<< (i3 &&& 31))) (i3 + (1 : Int32)) M5
else
q4 r0 i1 i2 (i3 + (1 : Int32)) M5)))))
def f_X12_offerBy_4 (n : Nat) : Option Nat → Int32 → Int32 → Int32 → Mem → Option (Int32 × Mem) := lpN (fun _ _ _ _ _ => none) (b_X12_offerBy_4 ) n
def f_X12_offerBy (r0 : Option Nat) (i1 : Int32) (M : Mem) : Option (Int32 × Mem) :=
f_X12_offerBy_4 FU r0 i1 (0 : Int32) (0 : Int32) M
set_option maxRecDepth 30000 in
theorem ok_X12_laysWorth : okY Y_X12_laysWorth := ⟨(gw_in 1637 rfl rfl), (gw_in 14 (by decide +kernel) (by decide +kernel)), by decide +kernel, by decide +kernel⟩
theorem ml_12_446 : MLv RX12 446 Y_X12_laysWorth 2 := ⟨(gw_in 1634 (by decide +kernel) (by decide +kernel)), (gw_in 1636 (by decide +kernel) (by decide +kernel)), (gw_sel (n := 70) 97 (by decide +kernel) (by decide +kernel)), ok_X12_laysWorth, by decide +kernel⟩
set_option maxRecDepth 30000 in
theorem ok_X12_isNever : okY Y_X12_isNever := ⟨(gw_in 1633 rfl rfl), (gw_in 14 (by decide +kernel) (by decide +kernel)), by decide +kernel, by decide +kernel⟩
theorem ml_12_442 : MLv RX12 442 Y_X12_isNever 2 := ⟨(gw_in 1630 (by decide +kernel) (by decide +kernel)), (gw_in 1632 (by decide +kernel) (by decide +kernel)), (gw_sel (n := 70) 96 (by decide +kernel) (by decide +kernel)), ok_X12_isNever, by decide +kernel⟩
set_option maxRecDepth 20000 in
theorem dk_X12_loses : ∀ pc i, L_X12_loses[pc]? = some (some i) → decode prog_14_method_104_code pc = .ok i := dk_of (by decide +kernel)
theorem s_X12_loses_78 {d : Nat} {P : Int32 → Mem → Prop}   (r0 : Option Nat) (i1 : Int32) (i2 : Int32) (i3 : Int32) (si0 : Int32) (M : Mem) (h : FQ (f_X12_loses_78  r0 i1 i2 i3 si0 M) P) : wp Y_X12_loses (rmD (d + 9) 0 0) (FM (QI P) 0 0) 0 0 78 [some (va_rf r0), some (.int i1), some (.int i2), some (.int i3), none] [.int si0] M := by
  unfold f_X12_loses_78 at h
  refine r_istore (lo' := [some (va_rf r0), some (.int i1), some (.int i2), some (.int i3), some (.int si0)]) rfl rfl rfl rfl ?_
  refine r_aload_n rfl rfl ?_
  refine r_iconst (v := 0) rfl (by decide) ?_
  refine r_iload_n rfl rfl ?_
  refine r_iload_n rfl rfl ?_
  refine r_iload_n rfl rfl ?_
  refine r_cv_i (vs := [.int (0 : Int32), .int i3, .int i1, .int i2]) rfl ml_12_511 rfl (rOk.of rfl) ⟨Nat.zero_le _, Nat.zero_le _⟩ rfl rfl rfl h s_X12_lostBy (fun v1 M1 h => ?_)
  refine r_ldcw rfl kc_12_510 ?_
  refine r_ic_ge 103 rfl (by decide) h (fun h => ?_) (fun h => ?_)
  · refine r_iload rfl rfl ?_
    exact r_iret rfl rfl ⟨Nat.le_of_ble_eq_true rfl, Nat.le_of_ble_eq_true rfl⟩ h
  · refine r_iload rfl rfl ?_
    refine r_iconst (v := 1) rfl (by decide) ?_
    refine r_iload_n rfl rfl ?_
    refine r_ishl rfl ?_
    refine r_ior rfl ?_
    refine r_goto 105 rfl (by decide) ?_
    exact r_iret rfl rfl ⟨Nat.le_of_ble_eq_true rfl, Nat.le_of_ble_eq_true rfl⟩ h
theorem s_X12_loses_51 {d : Nat} {P : Int32 → Mem → Prop}   (r0 : Option Nat) (i1 : Int32) (i2 : Int32) (i3 : Int32) (si0 : Int32) (M : Mem) (h : FQ (f_X12_loses_51  r0 i1 i2 i3 si0 M) P) : wp Y_X12_loses (rmD (d + 9) 0 0) (FM (QI P) 0 0) 0 0 51 [some (va_rf r0), some (.int i1), some (.int i2), some (.int i3), none] [.int si0] M := by
  unfold f_X12_loses_51 at h
  refine r_istore (lo' := [some (va_rf r0), some (.int i1), some (.int i2), some (.int i3), some (.int si0)]) rfl rfl rfl rfl ?_
  refine r_aload_n rfl rfl ?_
  refine r_iconst (v := 0) rfl (by decide) ?_
  refine r_iload_n rfl rfl ?_
  refine r_iload_n rfl rfl ?_
  refine r_iload_n rfl rfl ?_
  refine r_cv_i (vs := [.int (0 : Int32), .int i2, .int i1, .int i3]) rfl ml_12_511 rfl (rOk.of rfl) ⟨Nat.zero_le _, Nat.zero_le _⟩ rfl rfl rfl h s_X12_lostBy (fun v1 M1 h => ?_)
  refine r_ldcw rfl kc_12_510 ?_
  refine r_ic_ge 76 rfl (by decide) h (fun h => ?_) (fun h => ?_)
  · refine r_iload rfl rfl ?_
    refine r_msk [true, true, true, true, false] rfl ?_
    exact s_X12_loses_78 _ _ _ _ _ _ h
  · refine r_iload rfl rfl ?_
    refine r_iconst (v := 1) rfl (by decide) ?_
    refine r_iload_n rfl rfl ?_
    refine r_ishl rfl ?_
    refine r_ior rfl ?_
    refine r_goto 78 rfl (by decide) ?_
    refine r_msk [true, true, true, true, false] rfl ?_
    exact s_X12_loses_78 _ _ _ _ _ _ h
theorem s_X12_loses {d : Nat} {P : Int32 → Mem → Prop} {r0 : Option Nat} {i1 : Int32} {i2 : Int32} {i3 : Int32} {M : Mem} (h : FQ (f_X12_loses r0 i1 i2 i3 M) P) : Con Y_X12_loses (d + 9) 0 0 [va_rf r0, .int i1, .int i2, .int i3] M (QI P) := by
  refine Con.of [some (va_rf r0), some (.int i1), some (.int i2), some (.int i3), none] (by decide +kernel) dk_X12_loses (by simp [Y_X12_loses, cat_rf, cat_i, cat_l]) (by simp [loE, Y_X12_loses, cat_rf, cat_i, cat_l, List.replicate]) ?_
  unfold f_X12_loses at h
  refine r_aload_n rfl rfl ?_
  refine r_cv_v (vs := []) rfl ml_12_410 rfl (rOk.of rfl) ⟨Nat.zero_le _, Nat.zero_le _⟩ rfl rfl rfl h s_X12_laysNow (fun _ M1 h => ?_)
  refine r_aload_n rfl rfl ?_
  refine r_cv_v (vs := []) rfl ml_12_422 rfl (rOk.of rfl) ⟨Nat.zero_le _, Nat.zero_le _⟩ rfl rfl rfl h s_X12_laysMoves (fun _ M2 h => ?_)
  refine r_aload_n rfl rfl ?_
  refine r_iload_n rfl rfl ?_
  refine r_iload_n rfl rfl ?_
  refine r_iload_n rfl rfl ?_
  refine r_cv_i (vs := [.int i1, .int i2, .int i3]) rfl ml_12_419 rfl (rOk.of rfl) ⟨Nat.zero_le _, Nat.zero_le _⟩ rfl rfl rfl h s_X12_isOffer (fun v1 M3 h => ?_)
  refine r_if_ne 20 rfl (by decide) h (fun h => ?_) (fun h => ?_)
  · refine r_iconst (v := -1) rfl (by decide) ?_
    exact r_iret rfl rfl ⟨Nat.le_of_ble_eq_true rfl, Nat.le_of_ble_eq_true rfl⟩ h
  · refine r_aload_n rfl rfl ?_
    refine r_cv_i (vs := []) rfl ml_12_530 rfl (rOk.of rfl) ⟨Nat.zero_le _, Nat.zero_le _⟩ rfl rfl rfl h s_X12_laysResults (fun v2 M4 h => ?_)
    refine r_if_ne 30 rfl (by decide) h (fun h => ?_) (fun h => ?_)
    · refine r_bipush (v := -2) rfl (by decide) ?_
      exact r_iret rfl rfl ⟨Nat.le_of_ble_eq_true rfl, Nat.le_of_ble_eq_true rfl⟩ h
    · refine r_aload_n rfl rfl ?_
      refine r_iconst (v := 0) rfl (by decide) ?_
      refine r_iload_n rfl rfl ?_
      refine r_iload_n rfl rfl ?_
      refine r_iload_n rfl rfl ?_
      refine r_cv_i (vs := [.int (0 : Int32), .int i1, .int i2, .int i3]) rfl ml_12_511 rfl (rOk.of rfl) ⟨Nat.zero_le _, Nat.zero_le _⟩ rfl rfl rfl h s_X12_lostBy (fun v3 M5 h => ?_)
      refine r_ldcw rfl kc_12_510 ?_
      refine r_ic_ge 50 rfl (by decide) h (fun h => ?_) (fun h => ?_)
      · refine r_iconst (v := 0) rfl (by decide) ?_
        exact s_X12_loses_51 _ _ _ _ _ _ h
      · refine r_iconst (v := 1) rfl (by decide) ?_
        refine r_iload_n rfl rfl ?_
        refine r_ishl rfl ?_
        refine r_goto 51 rfl (by decide) ?_
        exact s_X12_loses_51 _ _ _ _ _ _ h
set_option maxRecDepth 20000 in
theorem dk_X12_greatest : ∀ pc i, L_X12_greatest[pc]? = some (some i) → decode prog_14_method_74_code pc = .ok i := dk_of (by decide +kernel)
theorem sb_X12_greatest_5 {d : Nat} {P : Int32 → Mem → Prop} {q5 : Option Nat → Int32 → Int32 → Int32 → Int32 → Mem → Option (Int32 × Mem)} (hq5 : ∀ (r0 : Option Nat) (i1 : Int32) (i2 : Int32) (i3 : Int32) (i4 : Int32) (M : Mem), FQ (q5 r0 i1 i2 i3 i4 M) P → wp Y_X12_greatest (rmD d 0 0) (FM (QI P) 0 0) 0 0 5 [some (va_rf r0), some (.int i1), some (.int i2), some (.int i3), some (.int i4), none] [] M) (r0 : Option Nat) (i1 : Int32) (i2 : Int32) (i3 : Int32) (i4 : Int32) (M : Mem) (h : FQ (b_X12_greatest_5 q5 r0 i1 i2 i3 i4 M) P) : wp Y_X12_greatest (rmD d 0 0) (FM (QI P) 0 0) 0 0 5 [some (va_rf r0), some (.int i1), some (.int i2), some (.int i3), some (.int i4), none] [] M := by
  unfold b_X12_greatest_5 at h
  refine r_iload rfl rfl ?_
  refine r_if_lt 58 rfl (by decide) h (fun h => ?_) (fun h => ?_)
  · refine r_iload_n rfl rfl ?_
    exact r_iret rfl rfl ⟨Nat.le_of_ble_eq_true rfl, Nat.le_of_ble_eq_true rfl⟩ h
  · refine r_iload_n rfl rfl ?_
    refine r_iconst (v := 3) rfl (by decide) ?_
    refine r_iload rfl rfl ?_
    refine r_imul rfl ?_
    refine r_ishr rfl ?_
    refine r_bipush (v := 7) rfl (by decide) ?_
    refine r_iand rfl ?_
    refine r_istore (lo' := [some (va_rf r0), some (.int i1), some (.int i2), some (.int i3), some (.int i4), some (.int ((i1 >>> (((3 : Int32) * i4) &&& 31)) &&& (7 : Int32)))]) rfl rfl rfl rfl ?_
    refine r_iload rfl rfl ?_
    refine r_iload_n rfl rfl ?_
    refine r_ic_eq 52 rfl (by decide) h (fun h => ?_) (fun h => ?_)
    · refine r_iinc (v := -1) (lo' := [some (va_rf r0), some (.int i1), some (.int i2), some (.int i3), some (.int (i4 + (-1 : Int32))), some (.int ((i1 >>> (((3 : Int32) * i4) &&& 31)) &&& (7 : Int32)))]) rfl rfl rfl (by decide) rfl rfl ?_
      refine r_goto 5 rfl (by decide) ?_
      refine r_msk [true, true, true, true, true, false] rfl ?_
      exact hq5 _ _ _ _ _ _ h
    · refine r_iload_n rfl rfl ?_
      refine r_iconst (v := -1) rfl (by decide) ?_
      refine r_ic_eq 49 rfl (by decide) h (fun h => ?_) (fun h => ?_)
      · refine r_iload rfl rfl ?_
        refine r_istore_n (lo' := [some (va_rf r0), some (.int i1), some (.int i2), some (.int ((i1 >>> (((3 : Int32) * i4) &&& 31)) &&& (7 : Int32))), some (.int i4), some (.int ((i1 >>> (((3 : Int32) * i4) &&& 31)) &&& (7 : Int32)))]) rfl rfl rfl rfl ?_
        refine r_iinc (v := -1) (lo' := [some (va_rf r0), some (.int i1), some (.int i2), some (.int ((i1 >>> (((3 : Int32) * i4) &&& 31)) &&& (7 : Int32))), some (.int (i4 + (-1 : Int32))), some (.int ((i1 >>> (((3 : Int32) * i4) &&& 31)) &&& (7 : Int32)))]) rfl rfl rfl (by decide) rfl rfl ?_
        refine r_goto 5 rfl (by decide) ?_
        refine r_msk [true, true, true, true, true, false] rfl ?_
        exact hq5 _ _ _ _ _ _ h
      · refine r_aload_n rfl rfl ?_
        refine r_getR rfl fl_12_103 rfl h (fun v1 h => ?_)
        refine r_iload rfl rfl ?_
        refine r_lald rfl h (fun v2 h => ?_)
        refine r_aload_n rfl rfl ?_
        refine r_getR rfl fl_12_103 rfl h (fun v3 h => ?_)
        refine r_iload_n rfl rfl ?_
        refine r_lald rfl h (fun v4 h => ?_)
        refine r_lcmp rfl ?_
        refine r_if_le 52 rfl (by decide) h (fun h => ?_) (fun h => ?_)
        · refine r_iinc (v := -1) (lo' := [some (va_rf r0), some (.int i1), some (.int i2), some (.int i3), some (.int (i4 + (-1 : Int32))), some (.int ((i1 >>> (((3 : Int32) * i4) &&& 31)) &&& (7 : Int32)))]) rfl rfl rfl (by decide) rfl rfl ?_
          refine r_goto 5 rfl (by decide) ?_
          refine r_msk [true, true, true, true, true, false] rfl ?_
          exact hq5 _ _ _ _ _ _ h
        · refine r_iload rfl rfl ?_
          refine r_istore_n (lo' := [some (va_rf r0), some (.int i1), some (.int i2), some (.int ((i1 >>> (((3 : Int32) * i4) &&& 31)) &&& (7 : Int32))), some (.int i4), some (.int ((i1 >>> (((3 : Int32) * i4) &&& 31)) &&& (7 : Int32)))]) rfl rfl rfl rfl ?_
          refine r_iinc (v := -1) (lo' := [some (va_rf r0), some (.int i1), some (.int i2), some (.int ((i1 >>> (((3 : Int32) * i4) &&& 31)) &&& (7 : Int32))), some (.int (i4 + (-1 : Int32))), some (.int ((i1 >>> (((3 : Int32) * i4) &&& 31)) &&& (7 : Int32)))]) rfl rfl rfl (by decide) rfl rfl ?_
          refine r_goto 5 rfl (by decide) ?_
          refine r_msk [true, true, true, true, true, false] rfl ?_
          exact hq5 _ _ _ _ _ _ h
theorem s_X12_greatest_5 {d : Nat} {P : Int32 → Mem → Prop}   : ∀ (k : Nat) (r0 : Option Nat) (i1 : Int32) (i2 : Int32) (i3 : Int32) (i4 : Int32) (M : Mem), FQ (f_X12_greatest_5  k r0 i1 i2 i3 i4 M) P → wp Y_X12_greatest (rmD d 0 0) (FM (QI P) 0 0) 0 0 5 [some (va_rf r0), some (.int i1), some (.int i2), some (.int i3), some (.int i4), none] [] M
  | 0, _, _, _, _, _, _, h => h.no
  | k + 1, r0, i1, i2, i3, i4, M, h => sb_X12_greatest_5  (s_X12_greatest_5  k) r0 i1 i2 i3 i4 M h
theorem s_X12_greatest {d : Nat} {P : Int32 → Mem → Prop} {r0 : Option Nat} {i1 : Int32} {i2 : Int32} {M : Mem} (h : FQ (f_X12_greatest r0 i1 i2 M) P) : Con Y_X12_greatest d 0 0 [va_rf r0, .int i1, .int i2] M (QI P) := by
  refine Con.of [some (va_rf r0), some (.int i1), some (.int i2), none, none, none] (by decide +kernel) dk_X12_greatest (by simp [Y_X12_greatest, cat_rf, cat_i, cat_l]) (by simp [loE, Y_X12_greatest, cat_rf, cat_i, cat_l, List.replicate]) ?_
  unfold f_X12_greatest at h
  refine r_iconst (v := -1) rfl (by decide) ?_
  refine r_istore_n (lo' := [some (va_rf r0), some (.int i1), some (.int i2), some (.int (-1 : Int32)), none, none]) rfl rfl rfl rfl ?_
  refine r_iconst (v := 2) rfl (by decide) ?_
  refine r_istore (lo' := [some (va_rf r0), some (.int i1), some (.int i2), some (.int (-1 : Int32)), some (.int (2 : Int32)), none]) rfl rfl rfl rfl ?_
  exact s_X12_greatest_5 FU _ _ _ _ _ _ h
set_option maxRecDepth 20000 in
theorem dk_X12_laysWorth : ∀ pc i, L_X12_laysWorth[pc]? = some (some i) → decode prog_14_method_71_code pc = .ok i := dk_of (by decide +kernel)
theorem sb_X12_laysWorth_2 {d : Nat} {P : Unit → Mem → Prop} {q2 : Option Nat → Int32 → Int32 → Int32 → Mem → Option (Unit × Mem)} (hq2 : ∀ (r0 : Option Nat) (i1 : Int32) (i2 : Int32) (i3 : Int32) (M : Mem), FQ (q2 r0 i1 i2 i3 M) P → wp Y_X12_laysWorth (rmD (d + 4) 0 0) (FM (QV P) 0 0) 0 0 2 [some (va_rf r0), some (.int i1), some (.int i2), some (.int i3)] [] M) (r0 : Option Nat) (i1 : Int32) (i2 : Int32) (i3 : Int32) (M : Mem) (h : FQ (b_X12_laysWorth_2 q2 r0 i1 i2 i3 M) P) : wp Y_X12_laysWorth (rmD (d + 4) 0 0) (FM (QV P) 0 0) 0 0 2 [some (va_rf r0), some (.int i1), some (.int i2), some (.int i3)] [] M := by
  unfold b_X12_laysWorth_2 at h
  refine r_iload_n rfl rfl ?_
  refine r_bipush (v := 8) rfl (by decide) ?_
  refine r_ic_ge 47 rfl (by decide) h (fun h => ?_) (fun h => ?_)
  · exact r_vret rfl rfl ⟨Nat.le_of_ble_eq_true rfl, Nat.le_of_ble_eq_true rfl⟩ h
  · refine r_aload_n rfl rfl ?_
    refine r_aload_n rfl rfl ?_
    refine r_getR rfl fl_12_94 rfl h (fun v1 h => ?_)
    refine r_iload_n rfl rfl ?_
    refine r_iald rfl h (fun v2 h => ?_)
    refine r_putI rfl fl_12_381 (fun z => by cases z) rfl h (fun M1 h => ?_)
    refine r_aload_n rfl rfl ?_
    refine r_aload_n rfl rfl ?_
    refine r_getR rfl fl_12_97 rfl h (fun v3 h => ?_)
    refine r_iload_n rfl rfl ?_
    refine r_iald rfl h (fun v4 h => ?_)
    refine r_putI rfl fl_12_384 (fun z => by cases z) rfl h (fun M2 h => ?_)
    refine r_aload_n rfl rfl ?_
    refine r_getR rfl fl_12_103 rfl h (fun v5 h => ?_)
    refine r_iload_n rfl rfl ?_
    refine r_aload_n rfl rfl ?_
    refine r_iload_n rfl rfl ?_
    refine r_iload_n rfl rfl ?_
    refine r_iload_n rfl rfl ?_
    refine r_cv_l (vs := [.int i1, .int i2, .int i3]) rfl ml_12_394 rfl (rOk.of rfl) ⟨Nat.zero_le _, Nat.zero_le _⟩ rfl rfl rfl h s_X12_sumOf (fun v6 M3 h => ?_)
    refine r_last rfl h (fun M4 h => ?_)
    refine r_iinc (v := 1) (lo' := [some (va_rf r0), some (.int i1), some (.int i2), some (.int (i3 + (1 : Int32)))]) rfl rfl rfl (by decide) rfl rfl ?_
    refine r_goto 2 rfl (by decide) ?_
    exact hq2 _ _ _ _ _ h
theorem s_X12_laysWorth_2 {d : Nat} {P : Unit → Mem → Prop}   : ∀ (k : Nat) (r0 : Option Nat) (i1 : Int32) (i2 : Int32) (i3 : Int32) (M : Mem), FQ (f_X12_laysWorth_2  k r0 i1 i2 i3 M) P → wp Y_X12_laysWorth (rmD (d + 4) 0 0) (FM (QV P) 0 0) 0 0 2 [some (va_rf r0), some (.int i1), some (.int i2), some (.int i3)] [] M
  | 0, _, _, _, _, _, h => h.no
  | k + 1, r0, i1, i2, i3, M, h => sb_X12_laysWorth_2  (s_X12_laysWorth_2  k) r0 i1 i2 i3 M h
theorem s_X12_laysWorth {d : Nat} {P : Unit → Mem → Prop} {r0 : Option Nat} {i1 : Int32} {i2 : Int32} {M : Mem} (h : FQ (f_X12_laysWorth r0 i1 i2 M) P) : Con Y_X12_laysWorth (d + 4) 0 0 [va_rf r0, .int i1, .int i2] M (QV P) := by
  refine Con.of [some (va_rf r0), some (.int i1), some (.int i2), none] (by decide +kernel) dk_X12_laysWorth (by simp [Y_X12_laysWorth, cat_rf, cat_i, cat_l]) (by simp [loE, Y_X12_laysWorth, cat_rf, cat_i, cat_l, List.replicate]) ?_
  unfold f_X12_laysWorth at h
  refine r_iconst (v := 0) rfl (by decide) ?_
  refine r_istore_n (lo' := [some (va_rf r0), some (.int i1), some (.int i2), some (.int (0 : Int32))]) rfl rfl rfl rfl ?_
  exact s_X12_laysWorth_2 FU _ _ _ _ _ h
set_option maxRecDepth 20000 in
theorem dk_X12_isNever : ∀ pc i, L_X12_isNever[pc]? = some (some i) → decode prog_14_method_72_code pc = .ok i := dk_of (by decide +kernel)
theorem sb_X12_isNever_5 {d : Nat} {P : Int32 → Mem → Prop} {q5 : Option Nat → Int32 → Int32 → Int32 → Int32 → Mem → Option (Int32 × Mem)} (hq5 : ∀ (r0 : Option Nat) (i1 : Int32) (i2 : Int32) (i3 : Int32) (i4 : Int32) (M : Mem), FQ (q5 r0 i1 i2 i3 i4 M) P → wp Y_X12_isNever (rmD (d + 3) 0 0) (FM (QI P) 0 0) 0 0 5 [some (va_rf r0), some (.int i1), some (.int i2), some (.int i3), some (.int i4)] [] M) (r0 : Option Nat) (i1 : Int32) (i2 : Int32) (i3 : Int32) (i4 : Int32) (M : Mem) (h : FQ (b_X12_isNever_5 q5 r0 i1 i2 i3 i4 M) P) : wp Y_X12_isNever (rmD (d + 3) 0 0) (FM (QI P) 0 0) 0 0 5 [some (va_rf r0), some (.int i1), some (.int i2), some (.int i3), some (.int i4)] [] M := by
  unfold b_X12_isNever_5 at h
  refine r_iload_n rfl rfl ?_
  refine r_iconst (v := -1) rfl (by decide) ?_
  refine r_ic_eq 91 rfl (by decide) h (fun h => ?_) (fun h => ?_)
  · refine r_iload_n rfl rfl ?_
    exact r_zret rfl rfl ⟨Nat.le_of_ble_eq_true rfl, Nat.le_of_ble_eq_true rfl⟩ h
  · refine r_iload rfl rfl ?_
    refine r_aload_n rfl rfl ?_
    refine r_getR rfl fl_12_27 rfl h (fun v1 h => ?_)
    refine r_iload_n rfl rfl ?_
    refine r_iald rfl h (fun v2 h => ?_)
    refine r_ic_ge 91 rfl (by decide) h (fun h => ?_) (fun h => ?_)
    · refine r_iload_n rfl rfl ?_
      exact r_zret rfl rfl ⟨Nat.le_of_ble_eq_true rfl, Nat.le_of_ble_eq_true rfl⟩ h
    · refine r_aload_n rfl rfl ?_
      refine r_getR rfl fl_12_30 rfl h (fun v3 h => ?_)
      refine r_bipush (v := 20) rfl (by decide) ?_
      refine r_iload_n rfl rfl ?_
      refine r_imul rfl ?_
      refine r_iload rfl rfl ?_
      refine r_iadd rfl ?_
      refine r_iald rfl h (fun v4 h => ?_)
      refine r_iconst (v := 5) rfl (by decide) ?_
      refine r_ic_ne 85 rfl (by decide) h (fun h => ?_) (fun h => ?_)
      · refine r_aload_n rfl rfl ?_
        refine r_iload_n rfl rfl ?_
        refine r_aload_n rfl rfl ?_
        refine r_getR rfl fl_12_94 rfl h (fun v5 h => ?_)
        refine r_iload_n rfl rfl ?_
        refine r_iald rfl h (fun v6 h => ?_)
        refine r_aload_n rfl rfl ?_
        refine r_getR rfl fl_12_97 rfl h (fun v7 h => ?_)
        refine r_iload_n rfl rfl ?_
        refine r_iald rfl h (fun v8 h => ?_)
        refine r_cv_v (vs := [.int i2, .int v6, .int v8]) rfl ml_12_373 rfl (rOk.of rfl) ⟨Nat.zero_le _, Nat.zero_le _⟩ rfl rfl rfl h s_X12_names (fun _ M1 h => ?_)
        refine r_iload_n rfl rfl ?_
        refine r_if_ne 79 rfl (by decide) h (fun h => ?_) (fun h => ?_)
        · refine r_aload_n rfl rfl ?_
          refine r_aload_n rfl rfl ?_
          refine r_getR rfl fl_12_33 rfl h (fun v9 h => ?_)
          refine r_bipush (v := 20) rfl (by decide) ?_
          refine r_iload_n rfl rfl ?_
          refine r_imul rfl ?_
          refine r_iload rfl rfl ?_
          refine r_iadd rfl ?_
          refine r_iald rfl h (fun v10 h => ?_)
          refine r_cv_l (vs := [.int v10]) rfl ml_12_377 rfl (rOk.of rfl) ⟨Nat.zero_le _, Nat.zero_le _⟩ rfl rfl rfl h s_X12_saysOf (fun v11 M2 h => ?_)
          refine r_lconst (v := 0) rfl (by decide) ?_
          refine r_lcmp rfl ?_
          refine r_if_le 83 rfl (by decide) h (fun h => ?_) (fun h => ?_)
          · refine r_iconst (v := 0) rfl (by decide) ?_
            refine r_istore_n (lo' := [some (va_rf r0), some (.int i1), some (.int i2), some (.int (0 : Int32)), some (.int i4)]) rfl rfl rfl rfl ?_
            refine r_iinc (v := 1) (lo' := [some (va_rf r0), some (.int i1), some (.int i2), some (.int (0 : Int32)), some (.int (i4 + (1 : Int32)))]) rfl rfl rfl (by decide) rfl rfl ?_
            refine r_goto 5 rfl (by decide) ?_
            exact hq5 _ _ _ _ _ _ h
          · refine r_iconst (v := 1) rfl (by decide) ?_
            refine r_goto 84 rfl (by decide) ?_
            refine r_istore_n (lo' := [some (va_rf r0), some (.int i1), some (.int i2), some (.int (1 : Int32)), some (.int i4)]) rfl rfl rfl rfl ?_
            refine r_iinc (v := 1) (lo' := [some (va_rf r0), some (.int i1), some (.int i2), some (.int (1 : Int32)), some (.int (i4 + (1 : Int32)))]) rfl rfl rfl (by decide) rfl rfl ?_
            refine r_goto 5 rfl (by decide) ?_
            exact hq5 _ _ _ _ _ _ h
        · refine r_iconst (v := 1) rfl (by decide) ?_
          refine r_goto 84 rfl (by decide) ?_
          refine r_istore_n (lo' := [some (va_rf r0), some (.int i1), some (.int i2), some (.int (1 : Int32)), some (.int i4)]) rfl rfl rfl rfl ?_
          refine r_iinc (v := 1) (lo' := [some (va_rf r0), some (.int i1), some (.int i2), some (.int (1 : Int32)), some (.int (i4 + (1 : Int32)))]) rfl rfl rfl (by decide) rfl rfl ?_
          refine r_goto 5 rfl (by decide) ?_
          exact hq5 _ _ _ _ _ _ h
      · refine r_iinc (v := 1) (lo' := [some (va_rf r0), some (.int i1), some (.int i2), some (.int i3), some (.int (i4 + (1 : Int32)))]) rfl rfl rfl (by decide) rfl rfl ?_
        refine r_goto 5 rfl (by decide) ?_
        exact hq5 _ _ _ _ _ _ h
theorem s_X12_isNever_5 {d : Nat} {P : Int32 → Mem → Prop}   : ∀ (k : Nat) (r0 : Option Nat) (i1 : Int32) (i2 : Int32) (i3 : Int32) (i4 : Int32) (M : Mem), FQ (f_X12_isNever_5  k r0 i1 i2 i3 i4 M) P → wp Y_X12_isNever (rmD (d + 3) 0 0) (FM (QI P) 0 0) 0 0 5 [some (va_rf r0), some (.int i1), some (.int i2), some (.int i3), some (.int i4)] [] M
  | 0, _, _, _, _, _, _, h => h.no
  | k + 1, r0, i1, i2, i3, i4, M, h => sb_X12_isNever_5  (s_X12_isNever_5  k) r0 i1 i2 i3 i4 M h
theorem s_X12_isNever {d : Nat} {P : Int32 → Mem → Prop} {r0 : Option Nat} {i1 : Int32} {i2 : Int32} {M : Mem} (h : FQ (f_X12_isNever r0 i1 i2 M) P) : Con Y_X12_isNever (d + 3) 0 0 [va_rf r0, .int i1, .int i2] M (QI P) := by
  refine Con.of [some (va_rf r0), some (.int i1), some (.int i2), none, none] (by decide +kernel) dk_X12_isNever (by simp [Y_X12_isNever, cat_rf, cat_i, cat_l]) (by simp [loE, Y_X12_isNever, cat_rf, cat_i, cat_l, List.replicate]) ?_
  unfold f_X12_isNever at h
  refine r_iconst (v := 0) rfl (by decide) ?_
  refine r_istore_n (lo' := [some (va_rf r0), some (.int i1), some (.int i2), some (.int (0 : Int32)), none]) rfl rfl rfl rfl ?_
  refine r_iconst (v := 0) rfl (by decide) ?_
  refine r_istore (lo' := [some (va_rf r0), some (.int i1), some (.int i2), some (.int (0 : Int32)), some (.int (0 : Int32))]) rfl rfl rfl rfl ?_
  exact s_X12_isNever_5 FU _ _ _ _ _ _ h
set_option maxRecDepth 20000 in
theorem dk_X12_offerBy : ∀ pc i, L_X12_offerBy[pc]? = some (some i) → decode prog_14_method_73_code pc = .ok i := dk_of (by decide +kernel)
theorem sb_X12_offerBy_75 {d : Nat} {P : Int32 → Mem → Prop} {q75 : Option Nat → Int32 → Int32 → Int64 → Int32 → Mem → Option (Int32 × Mem)} (hq75 : ∀ (r0 : Option Nat) (i3 : Int32) (i4 : Int32) (l5 : Int64) (i7 : Int32) (M : Mem), FQ (q75 r0 i3 i4 l5 i7 M) P → wp Y_X12_offerBy (rmD (d + 5) 0 0) (FM (QI P) 0 0) 0 0 75 [some (va_rf r0), none, none, some (.int i3), some (.int i4), some (.long l5), none, some (.int i7), none, none, none, none, none] [] M) (r0 : Option Nat) (i3 : Int32) (i4 : Int32) (l5 : Int64) (i7 : Int32) (M : Mem) (h : FQ (b_X12_offerBy_75 q75 r0 i3 i4 l5 i7 M) P) : wp Y_X12_offerBy (rmD (d + 5) 0 0) (FM (QI P) 0 0) 0 0 75 [some (va_rf r0), none, none, some (.int i3), some (.int i4), some (.long l5), none, some (.int i7), none, none, none, none, none] [] M := by
  unfold b_X12_offerBy_75 at h
  refine r_iload rfl rfl ?_
  refine r_sipush (v := 512) rfl (by decide) ?_
  refine r_ic_ge 194 rfl (by decide) h (fun h => ?_) (fun h => ?_)
  · refine r_iload rfl rfl ?_
    exact r_iret rfl rfl ⟨Nat.le_of_ble_eq_true rfl, Nat.le_of_ble_eq_true rfl⟩ h
  · refine r_iload rfl rfl ?_
    refine r_bipush (v := 64) rfl (by decide) ?_
    refine r_idiv rfl h (fun h => ?_)
    refine r_istore (lo' := [some (va_rf r0), none, none, some (.int i3), some (.int i4), some (.long l5), none, some (.int i7), some (.int (i7 / (64 : Int32))), none, none, none, none]) rfl rfl rfl rfl ?_
    refine r_iload rfl rfl ?_
    refine r_bipush (v := 8) rfl (by decide) ?_
    refine r_idiv rfl h (fun h => ?_)
    refine r_bipush (v := 8) rfl (by decide) ?_
    refine r_irem rfl h (fun h => ?_)
    refine r_istore (lo' := [some (va_rf r0), none, none, some (.int i3), some (.int i4), some (.long l5), none, some (.int i7), some (.int (i7 / (64 : Int32))), some (.int ((i7 / (8 : Int32)) - (i7 / (8 : Int32)) / (8 : Int32) * (8 : Int32))), none, none, none]) rfl rfl rfl rfl ?_
    refine r_iload rfl rfl ?_
    refine r_bipush (v := 8) rfl (by decide) ?_
    refine r_irem rfl h (fun h => ?_)
    refine r_istore (lo' := [some (va_rf r0), none, none, some (.int i3), some (.int i4), some (.long l5), none, some (.int i7), some (.int (i7 / (64 : Int32))), some (.int ((i7 / (8 : Int32)) - (i7 / (8 : Int32)) / (8 : Int32) * (8 : Int32))), some (.int (i7 - i7 / (8 : Int32) * (8 : Int32))), none, none]) rfl rfl rfl rfl ?_
    refine r_iload rfl rfl ?_
    refine r_iload rfl rfl ?_
    refine r_ic_ge 188 rfl (by decide) h (fun h => ?_) (fun h => ?_)
    · refine r_iinc (v := 1) (lo' := [some (va_rf r0), none, none, some (.int i3), some (.int i4), some (.long l5), none, some (.int (i7 + (1 : Int32))), some (.int (i7 / (64 : Int32))), some (.int ((i7 / (8 : Int32)) - (i7 / (8 : Int32)) / (8 : Int32) * (8 : Int32))), some (.int (i7 - i7 / (8 : Int32) * (8 : Int32))), none, none]) rfl rfl rfl (by decide) rfl rfl ?_
      refine r_goto 75 rfl (by decide) ?_
      refine r_msk [true, true, true, true, true, true, true, true, false, false, false, true, true] rfl ?_
      exact hq75 _ _ _ _ _ _ h
    · refine r_iload rfl rfl ?_
      refine r_iload rfl rfl ?_
      refine r_ic_ge 188 rfl (by decide) h (fun h => ?_) (fun h => ?_)
      · refine r_iinc (v := 1) (lo' := [some (va_rf r0), none, none, some (.int i3), some (.int i4), some (.long l5), none, some (.int (i7 + (1 : Int32))), some (.int (i7 / (64 : Int32))), some (.int ((i7 / (8 : Int32)) - (i7 / (8 : Int32)) / (8 : Int32) * (8 : Int32))), some (.int (i7 - i7 / (8 : Int32) * (8 : Int32))), none, none]) rfl rfl rfl (by decide) rfl rfl ?_
        refine r_goto 75 rfl (by decide) ?_
        refine r_msk [true, true, true, true, true, true, true, true, false, false, false, true, true] rfl ?_
        exact hq75 _ _ _ _ _ _ h
      · refine r_iload_n rfl rfl ?_
        refine r_iload rfl rfl ?_
        refine r_ishr rfl ?_
        refine r_iload_n rfl rfl ?_
        refine r_iload rfl rfl ?_
        refine r_ishr rfl ?_
        refine r_iand rfl ?_
        refine r_iload_n rfl rfl ?_
        refine r_iload rfl rfl ?_
        refine r_ishr rfl ?_
        refine r_iand rfl ?_
        refine r_iconst (v := 1) rfl (by decide) ?_
        refine r_iand rfl ?_
        refine r_iconst (v := 1) rfl (by decide) ?_
        refine r_ic_ne 188 rfl (by decide) h (fun h => ?_) (fun h => ?_)
        · refine r_aload_n rfl rfl ?_
          refine r_getR rfl fl_12_103 rfl h (fun v1 h => ?_)
          refine r_iload rfl rfl ?_
          refine r_lald rfl h (fun v2 h => ?_)
          refine r_aload_n rfl rfl ?_
          refine r_getR rfl fl_12_103 rfl h (fun v3 h => ?_)
          refine r_iload rfl rfl ?_
          refine r_lald rfl h (fun v4 h => ?_)
          refine r_ladd rfl ?_
          refine r_aload_n rfl rfl ?_
          refine r_getR rfl fl_12_103 rfl h (fun v5 h => ?_)
          refine r_iload rfl rfl ?_
          refine r_lald rfl h (fun v6 h => ?_)
          refine r_ladd rfl ?_
          refine r_lstore (lo' := [some (va_rf r0), none, none, some (.int i3), some (.int i4), some (.long l5), none, some (.int i7), some (.int (i7 / (64 : Int32))), some (.int ((i7 / (8 : Int32)) - (i7 / (8 : Int32)) / (8 : Int32) * (8 : Int32))), some (.int (i7 - i7 / (8 : Int32) * (8 : Int32))), some (.long ((v2 + v4) + v6)), none]) rfl rfl rfl rfl ?_
          refine r_iload rfl rfl ?_
          refine r_iconst (v := -1) rfl (by decide) ?_
          refine r_ic_eq 180 rfl (by decide) h (fun h => ?_) (fun h => ?_)
          · refine r_iload rfl rfl ?_
            refine r_istore (lo' := [some (va_rf r0), none, none, some (.int i3), some (.int i7), some (.long l5), none, some (.int i7), some (.int (i7 / (64 : Int32))), some (.int ((i7 / (8 : Int32)) - (i7 / (8 : Int32)) / (8 : Int32) * (8 : Int32))), some (.int (i7 - i7 / (8 : Int32) * (8 : Int32))), some (.long ((v2 + v4) + v6)), none]) rfl rfl rfl rfl ?_
            refine r_lload rfl rfl ?_
            refine r_lstore (lo' := [some (va_rf r0), none, none, some (.int i3), some (.int i7), some (.long ((v2 + v4) + v6)), none, some (.int i7), some (.int (i7 / (64 : Int32))), some (.int ((i7 / (8 : Int32)) - (i7 / (8 : Int32)) / (8 : Int32) * (8 : Int32))), some (.int (i7 - i7 / (8 : Int32) * (8 : Int32))), some (.long ((v2 + v4) + v6)), none]) rfl rfl rfl rfl ?_
            refine r_iinc (v := 1) (lo' := [some (va_rf r0), none, none, some (.int i3), some (.int i7), some (.long ((v2 + v4) + v6)), none, some (.int (i7 + (1 : Int32))), some (.int (i7 / (64 : Int32))), some (.int ((i7 / (8 : Int32)) - (i7 / (8 : Int32)) / (8 : Int32) * (8 : Int32))), some (.int (i7 - i7 / (8 : Int32) * (8 : Int32))), some (.long ((v2 + v4) + v6)), none]) rfl rfl rfl (by decide) rfl rfl ?_
            refine r_goto 75 rfl (by decide) ?_
            refine r_msk [true, true, true, true, true, true, true, true, false, false, false, false, true] rfl ?_
            exact hq75 _ _ _ _ _ _ h
          · refine r_lload rfl rfl ?_
            refine r_lload rfl rfl ?_
            refine r_lcmp rfl ?_
            refine r_if_le 188 rfl (by decide) h (fun h => ?_) (fun h => ?_)
            · refine r_iinc (v := 1) (lo' := [some (va_rf r0), none, none, some (.int i3), some (.int i4), some (.long l5), none, some (.int (i7 + (1 : Int32))), some (.int (i7 / (64 : Int32))), some (.int ((i7 / (8 : Int32)) - (i7 / (8 : Int32)) / (8 : Int32) * (8 : Int32))), some (.int (i7 - i7 / (8 : Int32) * (8 : Int32))), some (.long ((v2 + v4) + v6)), none]) rfl rfl rfl (by decide) rfl rfl ?_
              refine r_goto 75 rfl (by decide) ?_
              refine r_msk [true, true, true, true, true, true, true, true, false, false, false, false, true] rfl ?_
              exact hq75 _ _ _ _ _ _ h
            · refine r_iload rfl rfl ?_
              refine r_istore (lo' := [some (va_rf r0), none, none, some (.int i3), some (.int i7), some (.long l5), none, some (.int i7), some (.int (i7 / (64 : Int32))), some (.int ((i7 / (8 : Int32)) - (i7 / (8 : Int32)) / (8 : Int32) * (8 : Int32))), some (.int (i7 - i7 / (8 : Int32) * (8 : Int32))), some (.long ((v2 + v4) + v6)), none]) rfl rfl rfl rfl ?_
              refine r_lload rfl rfl ?_
              refine r_lstore (lo' := [some (va_rf r0), none, none, some (.int i3), some (.int i7), some (.long ((v2 + v4) + v6)), none, some (.int i7), some (.int (i7 / (64 : Int32))), some (.int ((i7 / (8 : Int32)) - (i7 / (8 : Int32)) / (8 : Int32) * (8 : Int32))), some (.int (i7 - i7 / (8 : Int32) * (8 : Int32))), some (.long ((v2 + v4) + v6)), none]) rfl rfl rfl rfl ?_
              refine r_iinc (v := 1) (lo' := [some (va_rf r0), none, none, some (.int i3), some (.int i7), some (.long ((v2 + v4) + v6)), none, some (.int (i7 + (1 : Int32))), some (.int (i7 / (64 : Int32))), some (.int ((i7 / (8 : Int32)) - (i7 / (8 : Int32)) / (8 : Int32) * (8 : Int32))), some (.int (i7 - i7 / (8 : Int32) * (8 : Int32))), some (.long ((v2 + v4) + v6)), none]) rfl rfl rfl (by decide) rfl rfl ?_
              refine r_goto 75 rfl (by decide) ?_
              refine r_msk [true, true, true, true, true, true, true, true, false, false, false, false, true] rfl ?_
              exact hq75 _ _ _ _ _ _ h
        · refine r_iinc (v := 1) (lo' := [some (va_rf r0), none, none, some (.int i3), some (.int i4), some (.long l5), none, some (.int (i7 + (1 : Int32))), some (.int (i7 / (64 : Int32))), some (.int ((i7 / (8 : Int32)) - (i7 / (8 : Int32)) / (8 : Int32) * (8 : Int32))), some (.int (i7 - i7 / (8 : Int32) * (8 : Int32))), none, none]) rfl rfl rfl (by decide) rfl rfl ?_
          refine r_goto 75 rfl (by decide) ?_
          refine r_msk [true, true, true, true, true, true, true, true, false, false, false, true, true] rfl ?_
          exact hq75 _ _ _ _ _ _ h
theorem s_X12_offerBy_75 {d : Nat} {P : Int32 → Mem → Prop}   : ∀ (k : Nat) (r0 : Option Nat) (i3 : Int32) (i4 : Int32) (l5 : Int64) (i7 : Int32) (M : Mem), FQ (f_X12_offerBy_75  k r0 i3 i4 l5 i7 M) P → wp Y_X12_offerBy (rmD (d + 5) 0 0) (FM (QI P) 0 0) 0 0 75 [some (va_rf r0), none, none, some (.int i3), some (.int i4), some (.long l5), none, some (.int i7), none, none, none, none, none] [] M
  | 0, _, _, _, _, _, _, h => h.no
  | k + 1, r0, i3, i4, l5, i7, M, h => sb_X12_offerBy_75  (s_X12_offerBy_75  k) r0 i3 i4 l5 i7 M h
theorem sb_X12_offerBy_4 {d : Nat} {P : Int32 → Mem → Prop} {q4 : Option Nat → Int32 → Int32 → Int32 → Mem → Option (Int32 × Mem)} (hq4 : ∀ (r0 : Option Nat) (i1 : Int32) (i2 : Int32) (i3 : Int32) (M : Mem), FQ (q4 r0 i1 i2 i3 M) P → wp Y_X12_offerBy (rmD (d + 5) 0 0) (FM (QI P) 0 0) 0 0 4 [some (va_rf r0), some (.int i1), some (.int i2), some (.int i3), none, none, none, none, none, none, none, none, none] [] M) (r0 : Option Nat) (i1 : Int32) (i2 : Int32) (i3 : Int32) (M : Mem) (h : FQ (b_X12_offerBy_4 q4 r0 i1 i2 i3 M) P) : wp Y_X12_offerBy (rmD (d + 5) 0 0) (FM (QI P) 0 0) 0 0 4 [some (va_rf r0), some (.int i1), some (.int i2), some (.int i3), none, none, none, none, none, none, none, none, none] [] M := by
  unfold b_X12_offerBy_4 at h
  refine r_iload_n rfl rfl ?_
  refine r_bipush (v := 8) rfl (by decide) ?_
  refine r_ic_ge 43 rfl (by decide) h (fun h => ?_) (fun h => ?_)
  · refine r_iload_n rfl rfl ?_
    refine r_cs_i (vs := [.int i2]) rfl ml_12_407 (rOk.of rfl) ⟨Nat.zero_le _, Nat.zero_le _⟩ rfl rfl rfl h s_X12_bits (fun v1 M1 h => ?_)
    refine r_iconst (v := 3) rfl (by decide) ?_
    refine r_ic_ge 58 rfl (by decide) h (fun h => ?_) (fun h => ?_)
    · refine r_iload_n rfl rfl ?_
      refine r_istore_n (lo' := [some (va_rf r0), some (.int i1), some (.int i2), some (.int i2), none, none, none, none, none, none, none, none, none]) rfl rfl rfl rfl ?_
      refine r_aload_n rfl rfl ?_
      refine r_iload_n rfl rfl ?_
      refine r_iconst (v := 2) rfl (by decide) ?_
      refine r_cv_v (vs := [.int i1, .int (2 : Int32)]) rfl ml_12_446 rfl (rOk.of rfl) ⟨Nat.zero_le _, Nat.zero_le _⟩ rfl rfl rfl h s_X12_laysWorth (fun _ M2 h => ?_)
      refine r_iconst (v := -1) rfl (by decide) ?_
      refine r_istore (lo' := [some (va_rf r0), some (.int i1), some (.int i2), some (.int i2), some (.int (-1 : Int32)), none, none, none, none, none, none, none, none]) rfl rfl rfl rfl ?_
      refine r_lconst (v := 0) rfl (by decide) ?_
      refine r_lstore (lo' := [some (va_rf r0), some (.int i1), some (.int i2), some (.int i2), some (.int (-1 : Int32)), some (.long (0 : Int64)), none, none, none, none, none, none, none]) rfl rfl rfl rfl ?_
      refine r_iconst (v := 0) rfl (by decide) ?_
      refine r_istore (lo' := [some (va_rf r0), some (.int i1), some (.int i2), some (.int i2), some (.int (-1 : Int32)), some (.long (0 : Int64)), none, some (.int (0 : Int32)), none, none, none, none, none]) rfl rfl rfl rfl ?_
      refine r_msk [true, false, false, true, true, true, true, true, true, true, true, true, true] rfl ?_
      exact s_X12_offerBy_75 FU _ _ _ _ _ _ h
    · refine r_aload_n rfl rfl ?_
      refine r_getI rfl fl_12_401 rfl h (fun v2 h => ?_)
      refine r_goto 59 rfl (by decide) ?_
      refine r_istore_n (lo' := [some (va_rf r0), some (.int i1), some (.int i2), some (.int v2), none, none, none, none, none, none, none, none, none]) rfl rfl rfl rfl ?_
      refine r_aload_n rfl rfl ?_
      refine r_iload_n rfl rfl ?_
      refine r_iconst (v := 2) rfl (by decide) ?_
      refine r_cv_v (vs := [.int i1, .int (2 : Int32)]) rfl ml_12_446 rfl (rOk.of rfl) ⟨Nat.zero_le _, Nat.zero_le _⟩ rfl rfl rfl h s_X12_laysWorth (fun _ M3 h => ?_)
      refine r_iconst (v := -1) rfl (by decide) ?_
      refine r_istore (lo' := [some (va_rf r0), some (.int i1), some (.int i2), some (.int v2), some (.int (-1 : Int32)), none, none, none, none, none, none, none, none]) rfl rfl rfl rfl ?_
      refine r_lconst (v := 0) rfl (by decide) ?_
      refine r_lstore (lo' := [some (va_rf r0), some (.int i1), some (.int i2), some (.int v2), some (.int (-1 : Int32)), some (.long (0 : Int64)), none, none, none, none, none, none, none]) rfl rfl rfl rfl ?_
      refine r_iconst (v := 0) rfl (by decide) ?_
      refine r_istore (lo' := [some (va_rf r0), some (.int i1), some (.int i2), some (.int v2), some (.int (-1 : Int32)), some (.long (0 : Int64)), none, some (.int (0 : Int32)), none, none, none, none, none]) rfl rfl rfl rfl ?_
      refine r_msk [true, false, false, true, true, true, true, true, true, true, true, true, true] rfl ?_
      exact s_X12_offerBy_75 FU _ _ _ _ _ _ h
  · refine r_aload_n rfl rfl ?_
    refine r_iload_n rfl rfl ?_
    refine r_cv_i (vs := [.int i3]) rfl ml_12_413 rfl (rOk.of rfl) ⟨Nat.zero_le _, Nat.zero_le _⟩ rfl rfl rfl h s_X12_isIn (fun v3 M4 h => ?_)
    refine r_if_eq 35 rfl (by decide) h (fun h => ?_) (fun h => ?_)
    · refine r_iload_n rfl rfl ?_
      refine r_istore_n (lo' := [some (va_rf r0), some (.int i1), some (.int i2), some (.int i3), none, none, none, none, none, none, none, none, none]) rfl rfl rfl rfl ?_
      refine r_iinc (v := 1) (lo' := [some (va_rf r0), some (.int i1), some (.int i2), some (.int (i3 + (1 : Int32))), none, none, none, none, none, none, none, none, none]) rfl rfl rfl (by decide) rfl rfl ?_
      refine r_goto 4 rfl (by decide) ?_
      exact hq4 _ _ _ _ _ h
    · refine r_aload_n rfl rfl ?_
      refine r_iload_n rfl rfl ?_
      refine r_iload_n rfl rfl ?_
      refine r_cv_i (vs := [.int i1, .int i3]) rfl ml_12_442 rfl (rOk.of rfl) ⟨Nat.zero_le _, Nat.zero_le _⟩ rfl rfl rfl h s_X12_isNever (fun v4 M5 h => ?_)
      refine r_if_ne 35 rfl (by decide) h (fun h => ?_) (fun h => ?_)
      · refine r_iload_n rfl rfl ?_
        refine r_iconst (v := 1) rfl (by decide) ?_
        refine r_iload_n rfl rfl ?_
        refine r_ishl rfl ?_
        refine r_ior rfl ?_
        refine r_goto 36 rfl (by decide) ?_
        refine r_istore_n (lo' := [some (va_rf r0), some (.int i1), some (.int (i2 ||| ((1 : Int32) <<< (i3 &&& 31)))), some (.int i3), none, none, none, none, none, none, none, none, none]) rfl rfl rfl rfl ?_
        refine r_iinc (v := 1) (lo' := [some (va_rf r0), some (.int i1), some (.int (i2 ||| ((1 : Int32) <<< (i3 &&& 31)))), some (.int (i3 + (1 : Int32))), none, none, none, none, none, none, none, none, none]) rfl rfl rfl (by decide) rfl rfl ?_
        refine r_goto 4 rfl (by decide) ?_
        exact hq4 _ _ _ _ _ h
      · refine r_iload_n rfl rfl ?_
        refine r_istore_n (lo' := [some (va_rf r0), some (.int i1), some (.int i2), some (.int i3), none, none, none, none, none, none, none, none, none]) rfl rfl rfl rfl ?_
        refine r_iinc (v := 1) (lo' := [some (va_rf r0), some (.int i1), some (.int i2), some (.int (i3 + (1 : Int32))), none, none, none, none, none, none, none, none, none]) rfl rfl rfl (by decide) rfl rfl ?_
        refine r_goto 4 rfl (by decide) ?_
        exact hq4 _ _ _ _ _ h
theorem s_X12_offerBy_4 {d : Nat} {P : Int32 → Mem → Prop}   : ∀ (k : Nat) (r0 : Option Nat) (i1 : Int32) (i2 : Int32) (i3 : Int32) (M : Mem), FQ (f_X12_offerBy_4  k r0 i1 i2 i3 M) P → wp Y_X12_offerBy (rmD (d + 5) 0 0) (FM (QI P) 0 0) 0 0 4 [some (va_rf r0), some (.int i1), some (.int i2), some (.int i3), none, none, none, none, none, none, none, none, none] [] M
  | 0, _, _, _, _, _, h => h.no
  | k + 1, r0, i1, i2, i3, M, h => sb_X12_offerBy_4  (s_X12_offerBy_4  k) r0 i1 i2 i3 M h
theorem s_X12_offerBy {d : Nat} {P : Int32 → Mem → Prop} {r0 : Option Nat} {i1 : Int32} {M : Mem} (h : FQ (f_X12_offerBy r0 i1 M) P) : Con Y_X12_offerBy (d + 5) 0 0 [va_rf r0, .int i1] M (QI P) := by
  refine Con.of [some (va_rf r0), some (.int i1), none, none, none, none, none, none, none, none, none, none, none] (by decide +kernel) dk_X12_offerBy (by simp [Y_X12_offerBy, cat_rf, cat_i, cat_l]) (by simp [loE, Y_X12_offerBy, cat_rf, cat_i, cat_l, List.replicate]) ?_
  unfold f_X12_offerBy at h
  refine r_iconst (v := 0) rfl (by decide) ?_
  refine r_istore_n (lo' := [some (va_rf r0), some (.int i1), some (.int (0 : Int32)), none, none, none, none, none, none, none, none, none, none]) rfl rfl rfl rfl ?_
  refine r_iconst (v := 0) rfl (by decide) ?_
  refine r_istore_n (lo' := [some (va_rf r0), some (.int i1), some (.int (0 : Int32)), some (.int (0 : Int32)), none, none, none, none, none, none, none, none, none]) rfl rfl rfl rfl ?_
  exact s_X12_offerBy_4 FU _ _ _ _ _ h
