/-! walked by program (wip/gen): X12_losesOn X12_winsOn X12_line -/
def L_X12_losesOn : List (Option (Instr × Nat)) := [some (.aload_n 0, 1), some (.iconst (-1), 1), some (.putfield 536, 3), none, none, some (.iconst (-1), 1), some (.istore_n 2, 1), some (.iconst 0, 1), some (.istore_n 3, 1), some (.iload_n 3, 1), some (.sipush 512, 3), none, none, some (.if_icmp .ge 58, 3), none, none, some (.aload_n 0, 1), some (.getfield 115, 3), none, none, some (.iload_n 1, 1), some (.iaload, 1), some (.iload_n 3, 1), some (.invokestatic 518, 3), none, none, some (.ifCond .eq 39, 3), none, none, some (.aload_n 0, 1), some (.iload_n 1, 1), some (.iload_n 3, 1), some (.bipush 64, 2), none, some (.idiv, 1), some (.iload_n 3, 1), some (.bipush 8, 2), none, some (.idiv, 1), some (.bipush 8, 2), none, some (.irem, 1), some (.iload_n 3, 1), some (.bipush 8, 2), none, some (.irem, 1), some (.invokevirtual 524, 3), none, none, some (.istore 4, 2), none, some (.iload 4, 2), none, some (.iload_n 2, 1), some (.if_icmp .le 11, 3), none, none, some (.iload 4, 2), none, some (.istore_n 2, 1), some (.aload_n 0, 1), some (.iload_n 3, 1), some (.putfield 536, 3), none, none, some (.iinc 3 1, 3), none, none, some (.goto (-59), 3), none, none, some (.ldc_w 510, 3), none, none, some (.istore_n 3, 1), some (.iconst 0, 1), some (.istore 4, 2), none, some (.iload 4, 2), none, some (.iconst 3, 1), some (.if_icmp .ge 130, 3), none, none, some (.aload_n 0, 1), some (.getfield 536, 3), none, none, some (.iload 4, 2), none, some (.invokestatic 539, 3), none, none, some (.istore 5, 2), none, some (.aload_n 0, 1), some (.getfield 536, 3), none, none, some (.iload 4, 2), none, some (.ifCond .ne 7, 3), none, none, some (.iconst 1, 1), some (.goto 4, 3), none, none, some (.iconst 0, 1), some (.invokestatic 539, 3), none, none, some (.istore 6, 2), none, some (.aload_n 0, 1), some (.getfield 536, 3), none, none, some (.iload 4, 2), none, some (.iconst 2, 1), some (.if_icmp .ne 7, 3), none, none, some (.iconst 1, 1), some (.goto 4, 3), none, none, some (.iconst 2, 1), some (.invokestatic 539, 3), none, none, some (.istore 7, 2), none, some (.aload_n 0, 1), some (.iload_n 1, 1), some (.iload 5, 2), none, some (.iload 6, 2), none, some (.iload 7, 2), none, some (.invokevirtual 515, 3), none, none, some (.istore 8, 2), none, some (.iload 8, 2), none, some (.iload_n 3, 1), some (.if_icmp .ge 55, 3), none, none, some (.iload 8, 2), none, some (.istore_n 3, 1), some (.aload_n 0, 1), some (.iload 5, 2), none, some (.putfield 542, 3), none, none, some (.aload_n 0, 1), some (.getfield 119, 3), none, none, some (.bipush 64, 2), none, some (.iload_n 1, 1), some (.imul, 1), some (.bipush 8, 2), none, some (.iload 5, 2), none, some (.imul, 1), some (.iadd, 1), some (.iload 6, 2), none, some (.iadd, 1), some (.iaload, 1), some (.istore 9, 2), none, some (.aload_n 0, 1), some (.aload_n 0, 1), some (.getfield 125, 3), none, none, some (.iload 9, 2), none, some (.iaload, 1), some (.iload 8, 2), none, some (.if_icmp .ne 8, 3), none, none, some (.iload 6, 2), none, some (.goto 5, 3), none, none, some (.iload 7, 2), none, some (.putfield 545, 3), none, none, some (.iinc 4 1, 3), none, none, some (.goto (-130), 3), none, none, some (.return_, 1)]
def Y_X12_losesOn : YM := (⟨RX12, "losesOn", "(I)V"⟩, prog_14_method_107_code, L_X12_losesOn, 10, none)
def f_X12_losesOn_129 (q78 : Option Nat → Int32 → Int32 → Int32 → Mem → Option (Unit × Mem)) (r0 : Option Nat) (i1 : Int32) (i3 : Int32) (i4 : Int32) (i5 : Int32) (i6 : Int32) (si0 : Int32) (si1 : Int32) (M : Mem) : Option (Unit × Mem) :=
cA (f_X12_partOf si0 si1 M) fun v1 M1 =>
cR M1 r0 (1, 12) (cA (f_X12_wonBy r0 i1 i5 i6 v1 M1) fun v2 M2 =>
(if i3 ≤ v2 then
q78 r0 i1 i3 (i4 + (1 : Int32)) M2
else
pI M2 r0 12 67 i5 fun M3 =>
gR M3 r0 12 61 fun v3 =>
aI M3 v3 2 ((((64 : Int32) * i1) + ((8 : Int32) * i5)) + i6) fun v4 =>
gR M3 r0 12 63 fun v5 =>
aI M3 v5 2 v4 fun v6 =>
(if v6 = v2 then
pI M3 r0 12 68 i6 fun M4 =>
q78 r0 i1 v2 (i4 + (1 : Int32)) M4
else
pI M3 r0 12 68 v1 fun M5 =>
q78 r0 i1 v2 (i4 + (1 : Int32)) M5)))
def b_X12_losesOn_78 (q78 : Option Nat → Int32 → Int32 → Int32 → Mem → Option (Unit × Mem)) (r0 : Option Nat) (i1 : Int32) (i3 : Int32) (i4 : Int32) (M : Mem) : Option (Unit × Mem) :=
(if (3 : Int32) ≤ i4 then
some ((), M)
else
gI M r0 12 66 fun v1 =>
cA (f_X12_partOf v1 i4 M) fun v2 M1 =>
gI M1 r0 12 66 fun v3 =>
(if i4 = 0 then
cA (f_X12_partOf v3 (1 : Int32) M1) fun v4 M2 =>
gI M2 r0 12 66 fun v5 =>
(if i4 = (2 : Int32) then
f_X12_losesOn_129 q78 r0 i1 i3 i4 v2 v4 v5 (1 : Int32) M2
else
f_X12_losesOn_129 q78 r0 i1 i3 i4 v2 v4 v5 (2 : Int32) M2)
else
cA (f_X12_partOf v3 (0 : Int32) M1) fun v6 M3 =>
gI M3 r0 12 66 fun v7 =>
(if i4 = (2 : Int32) then
f_X12_losesOn_129 q78 r0 i1 i3 i4 v2 v6 v7 (1 : Int32) M3
else
f_X12_losesOn_129 q78 r0 i1 i3 i4 v2 v6 v7 (2 : Int32) M3)))
def f_X12_losesOn_78 (n : Nat) : Option Nat → Int32 → Int32 → Int32 → Mem → Option (Unit × Mem) := lpN (fun _ _ _ _ _ => none) (b_X12_losesOn_78 ) n
def b_X12_losesOn_9 (q9 : Option Nat → Int32 → Int32 → Int32 → Mem → Option (Unit × Mem)) (r0 : Option Nat) (i1 : Int32) (i2 : Int32) (i3 : Int32) (M : Mem) : Option (Unit × Mem) :=
(if (512 : Int32) ≤ i3 then
f_X12_losesOn_78 FU r0 i1 (100000 : Int32) (0 : Int32) M
else
gR M r0 12 60 fun v1 =>
aI M v1 2 i1 fun v2 =>
cA (f_X12_isOfferOf v2 i3 M) fun v3 M1 =>
(if v3 = 0 then
q9 r0 i1 i2 (i3 + (1 : Int32)) M1
else
nzI (64 : Int32) (
nzI (8 : Int32) (
nzI (8 : Int32) (
nzI (8 : Int32) (
cR M1 r0 (1, 12) (cA (f_X12_losesBy r0 i1 (i3 / (64 : Int32)) ((i3 / (8 : Int32)) - (i3 / (8 : Int32)) / (8 : Int32) * (8 : Int32)) (i3 - i3 / (8 : Int32) * (8 : Int32)) M1) fun v4 M2 =>
(if v4 ≤ i2 then
q9 r0 i1 i2 (i3 + (1 : Int32)) M2
else
pI M2 r0 12 66 i3 fun M3 =>
q9 r0 i1 v4 (i3 + (1 : Int32)) M3))))))))
def f_X12_losesOn_9 (n : Nat) : Option Nat → Int32 → Int32 → Int32 → Mem → Option (Unit × Mem) := lpN (fun _ _ _ _ _ => none) (b_X12_losesOn_9 ) n
def f_X12_losesOn (r0 : Option Nat) (i1 : Int32) (M : Mem) : Option (Unit × Mem) :=
pI M r0 12 66 (-1 : Int32) fun M1 =>
f_X12_losesOn_9 FU r0 i1 (-1 : Int32) (0 : Int32) M1
def L_X12_winsOn : List (Option (Instr × Nat)) := [some (.aload_n 0, 1), some (.iconst (-1), 1), some (.putfield 536, 3), none, none, some (.iconst 0, 1), some (.istore_n 2, 1), some (.iload_n 2, 1), some (.sipush 512, 3), none, none, some (.if_icmp .ge 68, 3), none, none, some (.aload_n 0, 1), some (.getfield 536, 3), none, none, some (.iconst (-1), 1), some (.if_icmp .ne 60, 3), none, none, some (.aload_n 0, 1), some (.aload_n 0, 1), some (.getfield 115, 3), none, none, some (.iload_n 1, 1), some (.iaload, 1), some (.iload_n 2, 1), some (.invokestatic 518, 3), none, none, some (.ifCond .eq 36, 3), none, none, some (.aload_n 0, 1), some (.iload_n 1, 1), some (.iload_n 2, 1), some (.bipush 64, 2), none, some (.idiv, 1), some (.iload_n 2, 1), some (.bipush 8, 2), none, some (.idiv, 1), some (.bipush 8, 2), none, some (.irem, 1), some (.iload_n 2, 1), some (.bipush 8, 2), none, some (.irem, 1), some (.invokevirtual 521, 3), none, none, some (.aload_n 0, 1), some (.getfield 125, 3), none, none, some (.iload_n 1, 1), some (.iaload, 1), some (.if_icmp .ge 7, 3), none, none, some (.iload_n 2, 1), some (.goto 4, 3), none, none, some (.iconst (-1), 1), some (.putfield 536, 3), none, none, some (.iinc 2 1, 3), none, none, some (.goto (-69), 3), none, none, some (.iconst (-1), 1), some (.istore_n 2, 1), some (.iconst 0, 1), some (.istore_n 3, 1), some (.iload_n 3, 1), some (.iconst 3, 1), some (.if_icmp .ge 138, 3), none, none, some (.aload_n 0, 1), some (.getfield 536, 3), none, none, some (.iload_n 3, 1), some (.invokestatic 539, 3), none, none, some (.istore 4, 2), none, some (.aload_n 0, 1), some (.getfield 536, 3), none, none, some (.iload_n 3, 1), some (.ifCond .ne 7, 3), none, none, some (.iconst 1, 1), some (.goto 4, 3), none, none, some (.iconst 0, 1), some (.invokestatic 539, 3), none, none, some (.istore 5, 2), none, some (.aload_n 0, 1), some (.getfield 536, 3), none, none, some (.iload_n 3, 1), some (.iconst 2, 1), some (.if_icmp .ne 7, 3), none, none, some (.iconst 1, 1), some (.goto 4, 3), none, none, some (.iconst 2, 1), some (.invokestatic 539, 3), none, none, some (.istore 6, 2), none, some (.aload_n 0, 1), some (.iload_n 1, 1), some (.iload 4, 2), none, some (.iload 5, 2), none, some (.iload 6, 2), none, some (.invokevirtual 511, 3), none, none, some (.istore 7, 2), none, some (.iload 7, 2), none, some (.iload_n 2, 1), some (.if_icmp .le 66, 3), none, none, some (.iload 7, 2), none, some (.istore_n 2, 1), some (.aload_n 0, 1), some (.iload 4, 2), none, some (.putfield 542, 3), none, none, some (.aload_n 0, 1), some (.getfield 119, 3), none, none, some (.bipush 64, 2), none, some (.iload_n 1, 1), some (.imul, 1), some (.bipush 8, 2), none, some (.iload 4, 2), none, some (.imul, 1), some (.iadd, 1), some (.iload 5, 2), none, some (.iadd, 1), some (.iaload, 1), some (.istore 8, 2), none, some (.aload_n 0, 1), some (.aload_n 0, 1), some (.getfield 122, 3), none, none, some (.iload 8, 2), none, some (.iaload, 1), some (.iconst 2, 1), some (.if_icmp .ne 20, 3), none, none, some (.aload_n 0, 1), some (.getfield 125, 3), none, none, some (.iload 8, 2), none, some (.iaload, 1), some (.iload 7, 2), none, some (.if_icmp .ne 8, 3), none, none, some (.iload 5, 2), none, some (.goto 5, 3), none, none, some (.iload 6, 2), none, some (.putfield 545, 3), none, none, some (.iinc 3 1, 3), none, none, some (.goto (-137), 3), none, none, some (.return_, 1)]
def Y_X12_winsOn : YM := (⟨RX12, "winsOn", "(I)V"⟩, prog_14_method_106_code, L_X12_winsOn, 9, none)
def f_X12_winsOn_130 (q83 : Option Nat → Int32 → Int32 → Int32 → Mem → Option (Unit × Mem)) (r0 : Option Nat) (i1 : Int32) (i2 : Int32) (i3 : Int32) (i4 : Int32) (i5 : Int32) (si0 : Int32) (si1 : Int32) (M : Mem) : Option (Unit × Mem) :=
cA (f_X12_partOf si0 si1 M) fun v1 M1 =>
cR M1 r0 (1, 12) (cA (f_X12_lostBy r0 i1 i4 i5 v1 M1) fun v2 M2 =>
(if v2 ≤ i2 then
q83 r0 i1 i2 (i3 + (1 : Int32)) M2
else
pI M2 r0 12 67 i4 fun M3 =>
gR M3 r0 12 61 fun v3 =>
aI M3 v3 2 ((((64 : Int32) * i1) + ((8 : Int32) * i4)) + i5) fun v4 =>
gR M3 r0 12 62 fun v5 =>
aI M3 v5 2 v4 fun v6 =>
(if v6 = (2 : Int32) then
gR M3 r0 12 63 fun v7 =>
aI M3 v7 2 v4 fun v8 =>
(if v8 = v2 then
pI M3 r0 12 68 i5 fun M4 =>
q83 r0 i1 v2 (i3 + (1 : Int32)) M4
else
pI M3 r0 12 68 v1 fun M5 =>
q83 r0 i1 v2 (i3 + (1 : Int32)) M5)
else
pI M3 r0 12 68 v1 fun M6 =>
q83 r0 i1 v2 (i3 + (1 : Int32)) M6)))
def b_X12_winsOn_83 (q83 : Option Nat → Int32 → Int32 → Int32 → Mem → Option (Unit × Mem)) (r0 : Option Nat) (i1 : Int32) (i2 : Int32) (i3 : Int32) (M : Mem) : Option (Unit × Mem) :=
(if (3 : Int32) ≤ i3 then
some ((), M)
else
gI M r0 12 66 fun v1 =>
cA (f_X12_partOf v1 i3 M) fun v2 M1 =>
gI M1 r0 12 66 fun v3 =>
(if i3 = 0 then
cA (f_X12_partOf v3 (1 : Int32) M1) fun v4 M2 =>
gI M2 r0 12 66 fun v5 =>
(if i3 = (2 : Int32) then
f_X12_winsOn_130 q83 r0 i1 i2 i3 v2 v4 v5 (1 : Int32) M2
else
f_X12_winsOn_130 q83 r0 i1 i2 i3 v2 v4 v5 (2 : Int32) M2)
else
cA (f_X12_partOf v3 (0 : Int32) M1) fun v6 M3 =>
gI M3 r0 12 66 fun v7 =>
(if i3 = (2 : Int32) then
f_X12_winsOn_130 q83 r0 i1 i2 i3 v2 v6 v7 (1 : Int32) M3
else
f_X12_winsOn_130 q83 r0 i1 i2 i3 v2 v6 v7 (2 : Int32) M3)))
def f_X12_winsOn_83 (n : Nat) : Option Nat → Int32 → Int32 → Int32 → Mem → Option (Unit × Mem) := lpN (fun _ _ _ _ _ => none) (b_X12_winsOn_83 ) n
def b_X12_winsOn_7 (q7 : Option Nat → Int32 → Int32 → Mem → Option (Unit × Mem)) (r0 : Option Nat) (i1 : Int32) (i2 : Int32) (M : Mem) : Option (Unit × Mem) :=
(if (512 : Int32) ≤ i2 then
f_X12_winsOn_83 FU r0 i1 (-1 : Int32) (0 : Int32) M
else
gI M r0 12 66 fun v1 =>
(if v1 = (-1 : Int32) then
gR M r0 12 60 fun v2 =>
aI M v2 2 i1 fun v3 =>
cA (f_X12_isOfferOf v3 i2 M) fun v4 M1 =>
(if v4 = 0 then
pI M1 r0 12 66 (-1 : Int32) fun M2 =>
q7 r0 i1 (i2 + (1 : Int32)) M2
else
nzI (64 : Int32) (
nzI (8 : Int32) (
nzI (8 : Int32) (
nzI (8 : Int32) (
cR M1 r0 (1, 12) (cA (f_X12_winsBy r0 i1 (i2 / (64 : Int32)) ((i2 / (8 : Int32)) - (i2 / (8 : Int32)) / (8 : Int32) * (8 : Int32)) (i2 - i2 / (8 : Int32) * (8 : Int32)) M1) fun v5 M3 =>
gR M3 r0 12 63 fun v6 =>
aI M3 v6 2 i1 fun v7 =>
(if v7 ≤ v5 then
pI M3 r0 12 66 (-1 : Int32) fun M4 =>
q7 r0 i1 (i2 + (1 : Int32)) M4
else
pI M3 r0 12 66 i2 fun M5 =>
q7 r0 i1 (i2 + (1 : Int32)) M5)))))))
else
f_X12_winsOn_83 FU r0 i1 (-1 : Int32) (0 : Int32) M))
def f_X12_winsOn_7 (n : Nat) : Option Nat → Int32 → Int32 → Mem → Option (Unit × Mem) := lpN (fun _ _ _ _ => none) (b_X12_winsOn_7 ) n
def f_X12_winsOn (r0 : Option Nat) (i1 : Int32) (M : Mem) : Option (Unit × Mem) :=
pI M r0 12 66 (-1 : Int32) fun M1 =>
f_X12_winsOn_7 FU r0 i1 (0 : Int32) M1
def L_X12_line : List (Option (Instr × Nat)) := [some (.iload_n 1, 1), some (.ifCond .lt 12, 3), none, none, some (.iload_n 2, 1), some (.iconst 0, 1), some (.iconst 4, 1), some (.invokestatic 151, 3), none, none, some (.ifCond .ne 5, 3), none, none, some (.iconst (-1), 1), some (.ireturn, 1), some (.aload_n 0, 1), some (.invokevirtual 530, 3), none, none, some (.ifCond .ne 6, 3), none, none, some (.bipush (-2), 2), none, some (.ireturn, 1), some (.iconst 0, 1), some (.istore_n 3, 1), some (.iconst 0, 1), some (.istore 4, 2), none, some (.iload 4, 2), none, some (.iload_n 1, 1), some (.if_icmp .gt 81, 3), none, none, some (.aload_n 0, 1), some (.getfield 122, 3), none, none, some (.iload_n 3, 1), some (.iaload, 1), some (.ifCond .eq 12, 3), none, none, some (.aload_n 0, 1), some (.getfield 115, 3), none, none, some (.iload_n 3, 1), some (.iaload, 1), some (.ifCond .ne 5, 3), none, none, some (.iconst (-1), 1), some (.ireturn, 1), some (.aload_n 0, 1), some (.getfield 122, 3), none, none, some (.iload_n 3, 1), some (.iaload, 1), some (.iconst 1, 1), some (.if_icmp .ne 11, 3), none, none, some (.aload_n 0, 1), some (.iload_n 3, 1), some (.invokevirtual 548, 3), none, none, some (.goto 8, 3), none, none, some (.aload_n 0, 1), some (.iload_n 3, 1), some (.invokevirtual 551, 3), none, none, some (.iload 4, 2), none, some (.iload_n 1, 1), some (.if_icmp .ge 26, 3), none, none, some (.aload_n 0, 1), some (.getfield 119, 3), none, none, some (.bipush 64, 2), none, some (.iload_n 3, 1), some (.imul, 1), some (.bipush 8, 2), none, some (.aload_n 0, 1), some (.getfield 542, 3), none, none, some (.imul, 1), some (.iadd, 1), some (.aload_n 0, 1), some (.getfield 545, 3), none, none, some (.iadd, 1), some (.iaload, 1), some (.istore_n 3, 1), some (.iinc 4 1, 3), none, none, some (.goto (-81), 3), none, none, some (.iload_n 2, 1), some (.iconst 3, 1), some (.if_icmp .ge 14, 3), none, none, some (.aload_n 0, 1), some (.getfield 536, 3), none, none, some (.iload_n 2, 1), some (.invokestatic 539, 3), none, none, some (.goto 19, 3), none, none, some (.iload_n 2, 1), some (.iconst 3, 1), some (.if_icmp .ne 10, 3), none, none, some (.aload_n 0, 1), some (.getfield 542, 3), none, none, some (.goto 7, 3), none, none, some (.aload_n 0, 1), some (.getfield 545, 3), none, none, some (.ireturn, 1)]
def Y_X12_line : YM := (⟨RX12, "line", "(II)I"⟩, prog_14_method_108_code, L_X12_line, 5, some .int)
def f_X12_line_79 (q30 : Option Nat → Int32 → Int32 → Int32 → Int32 → Mem → Option (Int32 × Mem)) (r0 : Option Nat) (i1 : Int32) (i2 : Int32) (i3 : Int32) (i4 : Int32) (M : Mem) : Option (Int32 × Mem) :=
(if i1 ≤ i4 then
q30 r0 i1 i2 i3 (i4 + (1 : Int32)) M
else
gR M r0 12 61 fun v1 =>
gI M r0 12 67 fun v2 =>
gI M r0 12 68 fun v3 =>
aI M v1 2 ((((64 : Int32) * i3) + ((8 : Int32) * v2)) + v3) fun v4 =>
q30 r0 i1 i2 v4 (i4 + (1 : Int32)) M)
def b_X12_line_30 (q30 : Option Nat → Int32 → Int32 → Int32 → Int32 → Mem → Option (Int32 × Mem)) (r0 : Option Nat) (i1 : Int32) (i2 : Int32) (i3 : Int32) (i4 : Int32) (M : Mem) : Option (Int32 × Mem) :=
(if i1 < i4 then
(if (3 : Int32) ≤ i2 then
(if i2 = (3 : Int32) then
gI M r0 12 67 fun v1 =>
some (v1, M)
else
gI M r0 12 68 fun v2 =>
some (v2, M))
else
gI M r0 12 66 fun v3 =>
cA (f_X12_partOf v3 i2 M) fun v4 M1 =>
some (v4, M1))
else
gR M r0 12 62 fun v5 =>
aI M v5 2 i3 fun v6 =>
(if v6 = 0 then
some ((-1 : Int32), M)
else
gR M r0 12 60 fun v7 =>
aI M v7 2 i3 fun v8 =>
(if v8 = 0 then
some ((-1 : Int32), M)
else
gR M r0 12 62 fun v9 =>
aI M v9 2 i3 fun v10 =>
(if v10 = (1 : Int32) then
cR M r0 (1, 12) (cA (f_X12_winsOn r0 i3 M) fun _ M2 =>
f_X12_line_79 q30 r0 i1 i2 i3 i4 M2)
else
cR M r0 (1, 12) (cA (f_X12_losesOn r0 i3 M) fun _ M3 =>
f_X12_line_79 q30 r0 i1 i2 i3 i4 M3)))))
def f_X12_line_30 (n : Nat) : Option Nat → Int32 → Int32 → Int32 → Int32 → Mem → Option (Int32 × Mem) := lpN (fun _ _ _ _ _ _ => none) (b_X12_line_30 ) n
def f_X12_line (r0 : Option Nat) (i1 : Int32) (i2 : Int32) (M : Mem) : Option (Int32 × Mem) :=
(if i1 < 0 then
some ((-1 : Int32), M)
else
cA (f_X12_in i2 (0 : Int32) (4 : Int32) M) fun v1 M1 =>
(if v1 = 0 then
some ((-1 : Int32), M1)
else
cR M1 r0 (1, 12) (cA (f_X12_laysResults r0 M1) fun v2 M2 =>
(if v2 = 0 then
some ((-2 : Int32), M2)
else
f_X12_line_30 FU r0 i1 i2 (0 : Int32) (0 : Int32) M2))))
set_option maxRecDepth 30000 in
theorem ok_X12_partOf : okY Y_X12_partOf := ⟨(gw_in 1765 rfl rfl), (gw_in 14 (by decide +kernel) (by decide +kernel)), by decide +kernel, by decide +kernel⟩
theorem ml_12_539 : MLs RX12 539 Y_X12_partOf 2 := ⟨(gw_in 1763 (by decide +kernel) (by decide +kernel)), (gw_in 1764 (by decide +kernel) (by decide +kernel)), ok_X12_partOf, by decide +kernel⟩
theorem fl_12_542 : FLk RX12 542 12 67 false := ⟨_, rfl, by decide, (gw_in 1183 (by decide +kernel) (by decide +kernel)), rfl⟩
theorem fl_12_545 : FLk RX12 545 12 68 false := ⟨_, rfl, by decide, (gw_in 1184 (by decide +kernel) (by decide +kernel)), rfl⟩
theorem fl_12_536 : FLk RX12 536 12 66 false := ⟨_, rfl, by decide, (gw_in 1182 (by decide +kernel) (by decide +kernel)), rfl⟩
set_option maxRecDepth 30000 in
theorem ok_X12_winsOn : okY Y_X12_winsOn := ⟨(gw_in 1762 rfl rfl), (gw_in 14 (by decide +kernel) (by decide +kernel)), by decide +kernel, by decide +kernel⟩
theorem ml_12_548 : MLv RX12 548 Y_X12_winsOn 1 := ⟨(gw_in 1759 (by decide +kernel) (by decide +kernel)), (gw_in 1761 (by decide +kernel) (by decide +kernel)), (gw_sel (n := 70) 115 (by decide +kernel) (by decide +kernel)), ok_X12_winsOn, by decide +kernel⟩
set_option maxRecDepth 30000 in
theorem ok_X12_losesOn : okY Y_X12_losesOn := ⟨(gw_in 1769 rfl rfl), (gw_in 14 (by decide +kernel) (by decide +kernel)), by decide +kernel, by decide +kernel⟩
theorem ml_12_551 : MLv RX12 551 Y_X12_losesOn 1 := ⟨(gw_in 1766 (by decide +kernel) (by decide +kernel)), (gw_in 1768 (by decide +kernel) (by decide +kernel)), (gw_sel (n := 70) 116 (by decide +kernel) (by decide +kernel)), ok_X12_losesOn, by decide +kernel⟩
set_option maxRecDepth 20000 in
theorem dk_X12_losesOn : ∀ pc i, L_X12_losesOn[pc]? = some (some i) → decode prog_14_method_107_code pc = .ok i := dk_of (by decide +kernel)
theorem s_X12_losesOn_129 {d : Nat} {P : Unit → Mem → Prop} {q78 : Option Nat → Int32 → Int32 → Int32 → Mem → Option (Unit × Mem)} (hq78 : ∀ (r0 : Option Nat) (i1 : Int32) (i3 : Int32) (i4 : Int32) (M : Mem), FQ (q78 r0 i1 i3 i4 M) P → wp Y_X12_losesOn (rmD (d + 2) 0 0) (FM (QV P) 0 0) 0 0 78 [some (va_rf r0), some (.int i1), none, some (.int i3), some (.int i4), none, none, none, none, none] [] M) (r0 : Option Nat) (i1 : Int32) (i3 : Int32) (i4 : Int32) (i5 : Int32) (i6 : Int32) (si0 : Int32) (si1 : Int32) (M : Mem) (h : FQ (f_X12_losesOn_129 q78 r0 i1 i3 i4 i5 i6 si0 si1 M) P) : wp Y_X12_losesOn (rmD (d + 2) 0 0) (FM (QV P) 0 0) 0 0 129 [some (va_rf r0), some (.int i1), none, some (.int i3), some (.int i4), some (.int i5), some (.int i6), none, none, none] [.int si1, .int si0] M := by
  unfold f_X12_losesOn_129 at h
  refine r_cs_i (vs := [.int si0, .int si1]) rfl ml_12_539 (rOk.of rfl) ⟨Nat.zero_le _, Nat.zero_le _⟩ rfl rfl rfl h s_X12_partOf (fun v1 M1 h => ?_)
  refine r_istore (lo' := [some (va_rf r0), some (.int i1), none, some (.int i3), some (.int i4), some (.int i5), some (.int i6), some (.int v1), none, none]) rfl rfl rfl rfl ?_
  refine r_aload_n rfl rfl ?_
  refine r_iload_n rfl rfl ?_
  refine r_iload rfl rfl ?_
  refine r_iload rfl rfl ?_
  refine r_iload rfl rfl ?_
  refine r_cv_i (vs := [.int i1, .int i5, .int i6, .int v1]) rfl ml_12_515 rfl (rOk.of rfl) ⟨Nat.zero_le _, Nat.zero_le _⟩ rfl rfl rfl h s_X12_wonBy (fun v2 M2 h => ?_)
  refine r_istore (lo' := [some (va_rf r0), some (.int i1), none, some (.int i3), some (.int i4), some (.int i5), some (.int i6), some (.int v1), some (.int v2), none]) rfl rfl rfl rfl ?_
  refine r_iload rfl rfl ?_
  refine r_iload_n rfl rfl ?_
  refine r_ic_ge 205 rfl (by decide) h (fun h => ?_) (fun h => ?_)
  · refine r_iinc (v := 1) (lo' := [some (va_rf r0), some (.int i1), none, some (.int i3), some (.int (i4 + (1 : Int32))), some (.int i5), some (.int i6), some (.int v1), some (.int v2), none]) rfl rfl rfl (by decide) rfl rfl ?_
    refine r_goto 78 rfl (by decide) ?_
    refine r_msk [true, true, true, true, true, false, false, false, false, true] rfl ?_
    exact hq78 _ _ _ _ _ h
  · refine r_iload rfl rfl ?_
    refine r_istore_n (lo' := [some (va_rf r0), some (.int i1), none, some (.int v2), some (.int i4), some (.int i5), some (.int i6), some (.int v1), some (.int v2), none]) rfl rfl rfl rfl ?_
    refine r_aload_n rfl rfl ?_
    refine r_iload rfl rfl ?_
    refine r_putI rfl fl_12_542 (fun z => by cases z) rfl h (fun M3 h => ?_)
    refine r_aload_n rfl rfl ?_
    refine r_getR rfl fl_12_119 rfl h (fun v3 h => ?_)
    refine r_bipush (v := 64) rfl (by decide) ?_
    refine r_iload_n rfl rfl ?_
    refine r_imul rfl ?_
    refine r_bipush (v := 8) rfl (by decide) ?_
    refine r_iload rfl rfl ?_
    refine r_imul rfl ?_
    refine r_iadd rfl ?_
    refine r_iload rfl rfl ?_
    refine r_iadd rfl ?_
    refine r_iald rfl h (fun v4 h => ?_)
    refine r_istore (lo' := [some (va_rf r0), some (.int i1), none, some (.int v2), some (.int i4), some (.int i5), some (.int i6), some (.int v1), some (.int v2), some (.int v4)]) rfl rfl rfl rfl ?_
    refine r_aload_n rfl rfl ?_
    refine r_aload_n rfl rfl ?_
    refine r_getR rfl fl_12_125 rfl h (fun v5 h => ?_)
    refine r_iload rfl rfl ?_
    refine r_iald rfl h (fun v6 h => ?_)
    refine r_iload rfl rfl ?_
    refine r_ic_ne 200 rfl (by decide) h (fun h => ?_) (fun h => ?_)
    · refine r_iload rfl rfl ?_
      refine r_goto 202 rfl (by decide) ?_
      refine r_putI rfl fl_12_545 (fun z => by cases z) rfl h (fun M4 h => ?_)
      refine r_iinc (v := 1) (lo' := [some (va_rf r0), some (.int i1), none, some (.int v2), some (.int (i4 + (1 : Int32))), some (.int i5), some (.int i6), some (.int v1), some (.int v2), some (.int v4)]) rfl rfl rfl (by decide) rfl rfl ?_
      refine r_goto 78 rfl (by decide) ?_
      refine r_msk [true, true, true, true, true, false, false, false, false, false] rfl ?_
      exact hq78 _ _ _ _ _ h
    · refine r_iload rfl rfl ?_
      refine r_putI rfl fl_12_545 (fun z => by cases z) rfl h (fun M5 h => ?_)
      refine r_iinc (v := 1) (lo' := [some (va_rf r0), some (.int i1), none, some (.int v2), some (.int (i4 + (1 : Int32))), some (.int i5), some (.int i6), some (.int v1), some (.int v2), some (.int v4)]) rfl rfl rfl (by decide) rfl rfl ?_
      refine r_goto 78 rfl (by decide) ?_
      refine r_msk [true, true, true, true, true, false, false, false, false, false] rfl ?_
      exact hq78 _ _ _ _ _ h
theorem sb_X12_losesOn_78 {d : Nat} {P : Unit → Mem → Prop} {q78 : Option Nat → Int32 → Int32 → Int32 → Mem → Option (Unit × Mem)} (hq78 : ∀ (r0 : Option Nat) (i1 : Int32) (i3 : Int32) (i4 : Int32) (M : Mem), FQ (q78 r0 i1 i3 i4 M) P → wp Y_X12_losesOn (rmD (d + 2) 0 0) (FM (QV P) 0 0) 0 0 78 [some (va_rf r0), some (.int i1), none, some (.int i3), some (.int i4), none, none, none, none, none] [] M) (r0 : Option Nat) (i1 : Int32) (i3 : Int32) (i4 : Int32) (M : Mem) (h : FQ (b_X12_losesOn_78 q78 r0 i1 i3 i4 M) P) : wp Y_X12_losesOn (rmD (d + 2) 0 0) (FM (QV P) 0 0) 0 0 78 [some (va_rf r0), some (.int i1), none, some (.int i3), some (.int i4), none, none, none, none, none] [] M := by
  unfold b_X12_losesOn_78 at h
  refine r_iload rfl rfl ?_
  refine r_iconst (v := 3) rfl (by decide) ?_
  refine r_ic_ge 211 rfl (by decide) h (fun h => ?_) (fun h => ?_)
  · exact r_vret rfl rfl ⟨Nat.le_of_ble_eq_true rfl, Nat.le_of_ble_eq_true rfl⟩ h
  · refine r_aload_n rfl rfl ?_
    refine r_getI rfl fl_12_536 rfl h (fun v1 h => ?_)
    refine r_iload rfl rfl ?_
    refine r_cs_i (vs := [.int v1, .int i4]) rfl ml_12_539 (rOk.of rfl) ⟨Nat.zero_le _, Nat.zero_le _⟩ rfl rfl rfl h s_X12_partOf (fun v2 M1 h => ?_)
    refine r_istore (lo' := [some (va_rf r0), some (.int i1), none, some (.int i3), some (.int i4), some (.int v2), none, none, none, none]) rfl rfl rfl rfl ?_
    refine r_aload_n rfl rfl ?_
    refine r_getI rfl fl_12_536 rfl h (fun v3 h => ?_)
    refine r_iload rfl rfl ?_
    refine r_if_ne 108 rfl (by decide) h (fun h => ?_) (fun h => ?_)
    · refine r_iconst (v := 1) rfl (by decide) ?_
      refine r_goto 109 rfl (by decide) ?_
      refine r_cs_i (vs := [.int v3, .int (1 : Int32)]) rfl ml_12_539 (rOk.of rfl) ⟨Nat.zero_le _, Nat.zero_le _⟩ rfl rfl rfl h s_X12_partOf (fun v4 M2 h => ?_)
      refine r_istore (lo' := [some (va_rf r0), some (.int i1), none, some (.int i3), some (.int i4), some (.int v2), some (.int v4), none, none, none]) rfl rfl rfl rfl ?_
      refine r_aload_n rfl rfl ?_
      refine r_getI rfl fl_12_536 rfl h (fun v5 h => ?_)
      refine r_iload rfl rfl ?_
      refine r_iconst (v := 2) rfl (by decide) ?_
      refine r_ic_ne 128 rfl (by decide) h (fun h => ?_) (fun h => ?_)
      · refine r_iconst (v := 1) rfl (by decide) ?_
        refine r_goto 129 rfl (by decide) ?_
        exact s_X12_losesOn_129 hq78 _ _ _ _ _ _ _ _ _ h
      · refine r_iconst (v := 2) rfl (by decide) ?_
        exact s_X12_losesOn_129 hq78 _ _ _ _ _ _ _ _ _ h
    · refine r_iconst (v := 0) rfl (by decide) ?_
      refine r_cs_i (vs := [.int v3, .int (0 : Int32)]) rfl ml_12_539 (rOk.of rfl) ⟨Nat.zero_le _, Nat.zero_le _⟩ rfl rfl rfl h s_X12_partOf (fun v6 M3 h => ?_)
      refine r_istore (lo' := [some (va_rf r0), some (.int i1), none, some (.int i3), some (.int i4), some (.int v2), some (.int v6), none, none, none]) rfl rfl rfl rfl ?_
      refine r_aload_n rfl rfl ?_
      refine r_getI rfl fl_12_536 rfl h (fun v7 h => ?_)
      refine r_iload rfl rfl ?_
      refine r_iconst (v := 2) rfl (by decide) ?_
      refine r_ic_ne 128 rfl (by decide) h (fun h => ?_) (fun h => ?_)
      · refine r_iconst (v := 1) rfl (by decide) ?_
        refine r_goto 129 rfl (by decide) ?_
        exact s_X12_losesOn_129 hq78 _ _ _ _ _ _ _ _ _ h
      · refine r_iconst (v := 2) rfl (by decide) ?_
        exact s_X12_losesOn_129 hq78 _ _ _ _ _ _ _ _ _ h
theorem s_X12_losesOn_78 {d : Nat} {P : Unit → Mem → Prop}   : ∀ (k : Nat) (r0 : Option Nat) (i1 : Int32) (i3 : Int32) (i4 : Int32) (M : Mem), FQ (f_X12_losesOn_78  k r0 i1 i3 i4 M) P → wp Y_X12_losesOn (rmD (d + 2) 0 0) (FM (QV P) 0 0) 0 0 78 [some (va_rf r0), some (.int i1), none, some (.int i3), some (.int i4), none, none, none, none, none] [] M
  | 0, _, _, _, _, _, h => h.no
  | k + 1, r0, i1, i3, i4, M, h => sb_X12_losesOn_78  (s_X12_losesOn_78  k) r0 i1 i3 i4 M h
theorem sb_X12_losesOn_9 {d : Nat} {P : Unit → Mem → Prop} {q9 : Option Nat → Int32 → Int32 → Int32 → Mem → Option (Unit × Mem)} (hq9 : ∀ (r0 : Option Nat) (i1 : Int32) (i2 : Int32) (i3 : Int32) (M : Mem), FQ (q9 r0 i1 i2 i3 M) P → wp Y_X12_losesOn (rmD (d + 2) 0 0) (FM (QV P) 0 0) 0 0 9 [some (va_rf r0), some (.int i1), some (.int i2), some (.int i3), none, none, none, none, none, none] [] M) (r0 : Option Nat) (i1 : Int32) (i2 : Int32) (i3 : Int32) (M : Mem) (h : FQ (b_X12_losesOn_9 q9 r0 i1 i2 i3 M) P) : wp Y_X12_losesOn (rmD (d + 2) 0 0) (FM (QV P) 0 0) 0 0 9 [some (va_rf r0), some (.int i1), some (.int i2), some (.int i3), none, none, none, none, none, none] [] M := by
  unfold b_X12_losesOn_9 at h
  refine r_iload_n rfl rfl ?_
  refine r_sipush (v := 512) rfl (by decide) ?_
  refine r_ic_ge 71 rfl (by decide) h (fun h => ?_) (fun h => ?_)
  · refine r_ldcw rfl kc_12_510 ?_
    refine r_istore_n (lo' := [some (va_rf r0), some (.int i1), some (.int i2), some (.int (100000 : Int32)), none, none, none, none, none, none]) rfl rfl rfl rfl ?_
    refine r_iconst (v := 0) rfl (by decide) ?_
    refine r_istore (lo' := [some (va_rf r0), some (.int i1), some (.int i2), some (.int (100000 : Int32)), some (.int (0 : Int32)), none, none, none, none, none]) rfl rfl rfl rfl ?_
    refine r_msk [true, true, false, true, true, true, true, true, true, true] rfl ?_
    exact s_X12_losesOn_78 FU _ _ _ _ _ h
  · refine r_aload_n rfl rfl ?_
    refine r_getR rfl fl_12_115 rfl h (fun v1 h => ?_)
    refine r_iload_n rfl rfl ?_
    refine r_iald rfl h (fun v2 h => ?_)
    refine r_iload_n rfl rfl ?_
    refine r_cs_i (vs := [.int v2, .int i3]) rfl ml_12_518 (rOk.of rfl) ⟨Nat.zero_le _, Nat.zero_le _⟩ rfl rfl rfl h s_X12_isOfferOf (fun v3 M1 h => ?_)
    refine r_if_eq 65 rfl (by decide) h (fun h => ?_) (fun h => ?_)
    · refine r_iinc (v := 1) (lo' := [some (va_rf r0), some (.int i1), some (.int i2), some (.int (i3 + (1 : Int32))), none, none, none, none, none, none]) rfl rfl rfl (by decide) rfl rfl ?_
      refine r_goto 9 rfl (by decide) ?_
      exact hq9 _ _ _ _ _ h
    · refine r_aload_n rfl rfl ?_
      refine r_iload_n rfl rfl ?_
      refine r_iload_n rfl rfl ?_
      refine r_bipush (v := 64) rfl (by decide) ?_
      refine r_idiv rfl h (fun h => ?_)
      refine r_iload_n rfl rfl ?_
      refine r_bipush (v := 8) rfl (by decide) ?_
      refine r_idiv rfl h (fun h => ?_)
      refine r_bipush (v := 8) rfl (by decide) ?_
      refine r_irem rfl h (fun h => ?_)
      refine r_iload_n rfl rfl ?_
      refine r_bipush (v := 8) rfl (by decide) ?_
      refine r_irem rfl h (fun h => ?_)
      refine r_cv_i (vs := [.int i1, .int (i3 / (64 : Int32)), .int ((i3 / (8 : Int32)) - (i3 / (8 : Int32)) / (8 : Int32) * (8 : Int32)), .int (i3 - i3 / (8 : Int32) * (8 : Int32))]) rfl ml_12_524 rfl (rOk.of rfl) ⟨Nat.zero_le _, Nat.zero_le _⟩ rfl rfl rfl h s_X12_losesBy (fun v4 M2 h => ?_)
      refine r_istore (lo' := [some (va_rf r0), some (.int i1), some (.int i2), some (.int i3), some (.int v4), none, none, none, none, none]) rfl rfl rfl rfl ?_
      refine r_iload rfl rfl ?_
      refine r_iload_n rfl rfl ?_
      refine r_ic_le 65 rfl (by decide) h (fun h => ?_) (fun h => ?_)
      · refine r_iinc (v := 1) (lo' := [some (va_rf r0), some (.int i1), some (.int i2), some (.int (i3 + (1 : Int32))), some (.int v4), none, none, none, none, none]) rfl rfl rfl (by decide) rfl rfl ?_
        refine r_goto 9 rfl (by decide) ?_
        refine r_msk [true, true, true, true, false, true, true, true, true, true] rfl ?_
        exact hq9 _ _ _ _ _ h
      · refine r_iload rfl rfl ?_
        refine r_istore_n (lo' := [some (va_rf r0), some (.int i1), some (.int v4), some (.int i3), some (.int v4), none, none, none, none, none]) rfl rfl rfl rfl ?_
        refine r_aload_n rfl rfl ?_
        refine r_iload_n rfl rfl ?_
        refine r_putI rfl fl_12_536 (fun z => by cases z) rfl h (fun M3 h => ?_)
        refine r_iinc (v := 1) (lo' := [some (va_rf r0), some (.int i1), some (.int v4), some (.int (i3 + (1 : Int32))), some (.int v4), none, none, none, none, none]) rfl rfl rfl (by decide) rfl rfl ?_
        refine r_goto 9 rfl (by decide) ?_
        refine r_msk [true, true, true, true, false, true, true, true, true, true] rfl ?_
        exact hq9 _ _ _ _ _ h
theorem s_X12_losesOn_9 {d : Nat} {P : Unit → Mem → Prop}   : ∀ (k : Nat) (r0 : Option Nat) (i1 : Int32) (i2 : Int32) (i3 : Int32) (M : Mem), FQ (f_X12_losesOn_9  k r0 i1 i2 i3 M) P → wp Y_X12_losesOn (rmD (d + 2) 0 0) (FM (QV P) 0 0) 0 0 9 [some (va_rf r0), some (.int i1), some (.int i2), some (.int i3), none, none, none, none, none, none] [] M
  | 0, _, _, _, _, _, h => h.no
  | k + 1, r0, i1, i2, i3, M, h => sb_X12_losesOn_9  (s_X12_losesOn_9  k) r0 i1 i2 i3 M h
theorem s_X12_losesOn {d : Nat} {P : Unit → Mem → Prop} {r0 : Option Nat} {i1 : Int32} {M : Mem} (h : FQ (f_X12_losesOn r0 i1 M) P) : Con Y_X12_losesOn (d + 2) 0 0 [va_rf r0, .int i1] M (QV P) := by
  refine Con.of [some (va_rf r0), some (.int i1), none, none, none, none, none, none, none, none] (by decide +kernel) dk_X12_losesOn (by simp [Y_X12_losesOn, cat_rf, cat_i, cat_l]) (by simp [loE, Y_X12_losesOn, cat_rf, cat_i, cat_l, List.replicate]) ?_
  unfold f_X12_losesOn at h
  refine r_aload_n rfl rfl ?_
  refine r_iconst (v := -1) rfl (by decide) ?_
  refine r_putI rfl fl_12_536 (fun z => by cases z) rfl h (fun M1 h => ?_)
  refine r_iconst (v := -1) rfl (by decide) ?_
  refine r_istore_n (lo' := [some (va_rf r0), some (.int i1), some (.int (-1 : Int32)), none, none, none, none, none, none, none]) rfl rfl rfl rfl ?_
  refine r_iconst (v := 0) rfl (by decide) ?_
  refine r_istore_n (lo' := [some (va_rf r0), some (.int i1), some (.int (-1 : Int32)), some (.int (0 : Int32)), none, none, none, none, none, none]) rfl rfl rfl rfl ?_
  exact s_X12_losesOn_9 FU _ _ _ _ _ h
set_option maxRecDepth 20000 in
theorem dk_X12_winsOn : ∀ pc i, L_X12_winsOn[pc]? = some (some i) → decode prog_14_method_106_code pc = .ok i := dk_of (by decide +kernel)
theorem s_X12_winsOn_130 {d : Nat} {P : Unit → Mem → Prop} {q83 : Option Nat → Int32 → Int32 → Int32 → Mem → Option (Unit × Mem)} (hq83 : ∀ (r0 : Option Nat) (i1 : Int32) (i2 : Int32) (i3 : Int32) (M : Mem), FQ (q83 r0 i1 i2 i3 M) P → wp Y_X12_winsOn (rmD (d + 2) 0 0) (FM (QV P) 0 0) 0 0 83 [some (va_rf r0), some (.int i1), some (.int i2), some (.int i3), none, none, none, none, none] [] M) (r0 : Option Nat) (i1 : Int32) (i2 : Int32) (i3 : Int32) (i4 : Int32) (i5 : Int32) (si0 : Int32) (si1 : Int32) (M : Mem) (h : FQ (f_X12_winsOn_130 q83 r0 i1 i2 i3 i4 i5 si0 si1 M) P) : wp Y_X12_winsOn (rmD (d + 2) 0 0) (FM (QV P) 0 0) 0 0 130 [some (va_rf r0), some (.int i1), some (.int i2), some (.int i3), some (.int i4), some (.int i5), none, none, none] [.int si1, .int si0] M := by
  unfold f_X12_winsOn_130 at h
  refine r_cs_i (vs := [.int si0, .int si1]) rfl ml_12_539 (rOk.of rfl) ⟨Nat.zero_le _, Nat.zero_le _⟩ rfl rfl rfl h s_X12_partOf (fun v1 M1 h => ?_)
  refine r_istore (lo' := [some (va_rf r0), some (.int i1), some (.int i2), some (.int i3), some (.int i4), some (.int i5), some (.int v1), none, none]) rfl rfl rfl rfl ?_
  refine r_aload_n rfl rfl ?_
  refine r_iload_n rfl rfl ?_
  refine r_iload rfl rfl ?_
  refine r_iload rfl rfl ?_
  refine r_iload rfl rfl ?_
  refine r_cv_i (vs := [.int i1, .int i4, .int i5, .int v1]) rfl ml_12_511 rfl (rOk.of rfl) ⟨Nat.zero_le _, Nat.zero_le _⟩ rfl rfl rfl h s_X12_lostBy (fun v2 M2 h => ?_)
  refine r_istore (lo' := [some (va_rf r0), some (.int i1), some (.int i2), some (.int i3), some (.int i4), some (.int i5), some (.int v1), some (.int v2), none]) rfl rfl rfl rfl ?_
  refine r_iload rfl rfl ?_
  refine r_iload_n rfl rfl ?_
  refine r_ic_le 217 rfl (by decide) h (fun h => ?_) (fun h => ?_)
  · refine r_iinc (v := 1) (lo' := [some (va_rf r0), some (.int i1), some (.int i2), some (.int (i3 + (1 : Int32))), some (.int i4), some (.int i5), some (.int v1), some (.int v2), none]) rfl rfl rfl (by decide) rfl rfl ?_
    refine r_goto 83 rfl (by decide) ?_
    refine r_msk [true, true, true, true, false, false, false, false, true] rfl ?_
    exact hq83 _ _ _ _ _ h
  · refine r_iload rfl rfl ?_
    refine r_istore_n (lo' := [some (va_rf r0), some (.int i1), some (.int v2), some (.int i3), some (.int i4), some (.int i5), some (.int v1), some (.int v2), none]) rfl rfl rfl rfl ?_
    refine r_aload_n rfl rfl ?_
    refine r_iload rfl rfl ?_
    refine r_putI rfl fl_12_542 (fun z => by cases z) rfl h (fun M3 h => ?_)
    refine r_aload_n rfl rfl ?_
    refine r_getR rfl fl_12_119 rfl h (fun v3 h => ?_)
    refine r_bipush (v := 64) rfl (by decide) ?_
    refine r_iload_n rfl rfl ?_
    refine r_imul rfl ?_
    refine r_bipush (v := 8) rfl (by decide) ?_
    refine r_iload rfl rfl ?_
    refine r_imul rfl ?_
    refine r_iadd rfl ?_
    refine r_iload rfl rfl ?_
    refine r_iadd rfl ?_
    refine r_iald rfl h (fun v4 h => ?_)
    refine r_istore (lo' := [some (va_rf r0), some (.int i1), some (.int v2), some (.int i3), some (.int i4), some (.int i5), some (.int v1), some (.int v2), some (.int v4)]) rfl rfl rfl rfl ?_
    refine r_aload_n rfl rfl ?_
    refine r_aload_n rfl rfl ?_
    refine r_getR rfl fl_12_122 rfl h (fun v5 h => ?_)
    refine r_iload rfl rfl ?_
    refine r_iald rfl h (fun v6 h => ?_)
    refine r_iconst (v := 2) rfl (by decide) ?_
    refine r_ic_ne 212 rfl (by decide) h (fun h => ?_) (fun h => ?_)
    · refine r_aload_n rfl rfl ?_
      refine r_getR rfl fl_12_125 rfl h (fun v7 h => ?_)
      refine r_iload rfl rfl ?_
      refine r_iald rfl h (fun v8 h => ?_)
      refine r_iload rfl rfl ?_
      refine r_ic_ne 212 rfl (by decide) h (fun h => ?_) (fun h => ?_)
      · refine r_iload rfl rfl ?_
        refine r_goto 214 rfl (by decide) ?_
        refine r_putI rfl fl_12_545 (fun z => by cases z) rfl h (fun M4 h => ?_)
        refine r_iinc (v := 1) (lo' := [some (va_rf r0), some (.int i1), some (.int v2), some (.int (i3 + (1 : Int32))), some (.int i4), some (.int i5), some (.int v1), some (.int v2), some (.int v4)]) rfl rfl rfl (by decide) rfl rfl ?_
        refine r_goto 83 rfl (by decide) ?_
        refine r_msk [true, true, true, true, false, false, false, false, false] rfl ?_
        exact hq83 _ _ _ _ _ h
      · refine r_iload rfl rfl ?_
        refine r_putI rfl fl_12_545 (fun z => by cases z) rfl h (fun M5 h => ?_)
        refine r_iinc (v := 1) (lo' := [some (va_rf r0), some (.int i1), some (.int v2), some (.int (i3 + (1 : Int32))), some (.int i4), some (.int i5), some (.int v1), some (.int v2), some (.int v4)]) rfl rfl rfl (by decide) rfl rfl ?_
        refine r_goto 83 rfl (by decide) ?_
        refine r_msk [true, true, true, true, false, false, false, false, false] rfl ?_
        exact hq83 _ _ _ _ _ h
    · refine r_iload rfl rfl ?_
      refine r_putI rfl fl_12_545 (fun z => by cases z) rfl h (fun M6 h => ?_)
      refine r_iinc (v := 1) (lo' := [some (va_rf r0), some (.int i1), some (.int v2), some (.int (i3 + (1 : Int32))), some (.int i4), some (.int i5), some (.int v1), some (.int v2), some (.int v4)]) rfl rfl rfl (by decide) rfl rfl ?_
      refine r_goto 83 rfl (by decide) ?_
      refine r_msk [true, true, true, true, false, false, false, false, false] rfl ?_
      exact hq83 _ _ _ _ _ h
theorem sb_X12_winsOn_83 {d : Nat} {P : Unit → Mem → Prop} {q83 : Option Nat → Int32 → Int32 → Int32 → Mem → Option (Unit × Mem)} (hq83 : ∀ (r0 : Option Nat) (i1 : Int32) (i2 : Int32) (i3 : Int32) (M : Mem), FQ (q83 r0 i1 i2 i3 M) P → wp Y_X12_winsOn (rmD (d + 2) 0 0) (FM (QV P) 0 0) 0 0 83 [some (va_rf r0), some (.int i1), some (.int i2), some (.int i3), none, none, none, none, none] [] M) (r0 : Option Nat) (i1 : Int32) (i2 : Int32) (i3 : Int32) (M : Mem) (h : FQ (b_X12_winsOn_83 q83 r0 i1 i2 i3 M) P) : wp Y_X12_winsOn (rmD (d + 2) 0 0) (FM (QV P) 0 0) 0 0 83 [some (va_rf r0), some (.int i1), some (.int i2), some (.int i3), none, none, none, none, none] [] M := by
  unfold b_X12_winsOn_83 at h
  refine r_iload_n rfl rfl ?_
  refine r_iconst (v := 3) rfl (by decide) ?_
  refine r_ic_ge 223 rfl (by decide) h (fun h => ?_) (fun h => ?_)
  · exact r_vret rfl rfl ⟨Nat.le_of_ble_eq_true rfl, Nat.le_of_ble_eq_true rfl⟩ h
  · refine r_aload_n rfl rfl ?_
    refine r_getI rfl fl_12_536 rfl h (fun v1 h => ?_)
    refine r_iload_n rfl rfl ?_
    refine r_cs_i (vs := [.int v1, .int i3]) rfl ml_12_539 (rOk.of rfl) ⟨Nat.zero_le _, Nat.zero_le _⟩ rfl rfl rfl h s_X12_partOf (fun v2 M1 h => ?_)
    refine r_istore (lo' := [some (va_rf r0), some (.int i1), some (.int i2), some (.int i3), some (.int v2), none, none, none, none]) rfl rfl rfl rfl ?_
    refine r_aload_n rfl rfl ?_
    refine r_getI rfl fl_12_536 rfl h (fun v3 h => ?_)
    refine r_iload_n rfl rfl ?_
    refine r_if_ne 110 rfl (by decide) h (fun h => ?_) (fun h => ?_)
    · refine r_iconst (v := 1) rfl (by decide) ?_
      refine r_goto 111 rfl (by decide) ?_
      refine r_cs_i (vs := [.int v3, .int (1 : Int32)]) rfl ml_12_539 (rOk.of rfl) ⟨Nat.zero_le _, Nat.zero_le _⟩ rfl rfl rfl h s_X12_partOf (fun v4 M2 h => ?_)
      refine r_istore (lo' := [some (va_rf r0), some (.int i1), some (.int i2), some (.int i3), some (.int v2), some (.int v4), none, none, none]) rfl rfl rfl rfl ?_
      refine r_aload_n rfl rfl ?_
      refine r_getI rfl fl_12_536 rfl h (fun v5 h => ?_)
      refine r_iload_n rfl rfl ?_
      refine r_iconst (v := 2) rfl (by decide) ?_
      refine r_ic_ne 129 rfl (by decide) h (fun h => ?_) (fun h => ?_)
      · refine r_iconst (v := 1) rfl (by decide) ?_
        refine r_goto 130 rfl (by decide) ?_
        exact s_X12_winsOn_130 hq83 _ _ _ _ _ _ _ _ _ h
      · refine r_iconst (v := 2) rfl (by decide) ?_
        exact s_X12_winsOn_130 hq83 _ _ _ _ _ _ _ _ _ h
    · refine r_iconst (v := 0) rfl (by decide) ?_
      refine r_cs_i (vs := [.int v3, .int (0 : Int32)]) rfl ml_12_539 (rOk.of rfl) ⟨Nat.zero_le _, Nat.zero_le _⟩ rfl rfl rfl h s_X12_partOf (fun v6 M3 h => ?_)
      refine r_istore (lo' := [some (va_rf r0), some (.int i1), some (.int i2), some (.int i3), some (.int v2), some (.int v6), none, none, none]) rfl rfl rfl rfl ?_
      refine r_aload_n rfl rfl ?_
      refine r_getI rfl fl_12_536 rfl h (fun v7 h => ?_)
      refine r_iload_n rfl rfl ?_
      refine r_iconst (v := 2) rfl (by decide) ?_
      refine r_ic_ne 129 rfl (by decide) h (fun h => ?_) (fun h => ?_)
      · refine r_iconst (v := 1) rfl (by decide) ?_
        refine r_goto 130 rfl (by decide) ?_
        exact s_X12_winsOn_130 hq83 _ _ _ _ _ _ _ _ _ h
      · refine r_iconst (v := 2) rfl (by decide) ?_
        exact s_X12_winsOn_130 hq83 _ _ _ _ _ _ _ _ _ h
theorem s_X12_winsOn_83 {d : Nat} {P : Unit → Mem → Prop}   : ∀ (k : Nat) (r0 : Option Nat) (i1 : Int32) (i2 : Int32) (i3 : Int32) (M : Mem), FQ (f_X12_winsOn_83  k r0 i1 i2 i3 M) P → wp Y_X12_winsOn (rmD (d + 2) 0 0) (FM (QV P) 0 0) 0 0 83 [some (va_rf r0), some (.int i1), some (.int i2), some (.int i3), none, none, none, none, none] [] M
  | 0, _, _, _, _, _, h => h.no
  | k + 1, r0, i1, i2, i3, M, h => sb_X12_winsOn_83  (s_X12_winsOn_83  k) r0 i1 i2 i3 M h
theorem sb_X12_winsOn_7 {d : Nat} {P : Unit → Mem → Prop} {q7 : Option Nat → Int32 → Int32 → Mem → Option (Unit × Mem)} (hq7 : ∀ (r0 : Option Nat) (i1 : Int32) (i2 : Int32) (M : Mem), FQ (q7 r0 i1 i2 M) P → wp Y_X12_winsOn (rmD (d + 2) 0 0) (FM (QV P) 0 0) 0 0 7 [some (va_rf r0), some (.int i1), some (.int i2), none, none, none, none, none, none] [] M) (r0 : Option Nat) (i1 : Int32) (i2 : Int32) (M : Mem) (h : FQ (b_X12_winsOn_7 q7 r0 i1 i2 M) P) : wp Y_X12_winsOn (rmD (d + 2) 0 0) (FM (QV P) 0 0) 0 0 7 [some (va_rf r0), some (.int i1), some (.int i2), none, none, none, none, none, none] [] M := by
  unfold b_X12_winsOn_7 at h
  refine r_iload_n rfl rfl ?_
  refine r_sipush (v := 512) rfl (by decide) ?_
  refine r_ic_ge 79 rfl (by decide) h (fun h => ?_) (fun h => ?_)
  · refine r_iconst (v := -1) rfl (by decide) ?_
    refine r_istore_n (lo' := [some (va_rf r0), some (.int i1), some (.int (-1 : Int32)), none, none, none, none, none, none]) rfl rfl rfl rfl ?_
    refine r_iconst (v := 0) rfl (by decide) ?_
    refine r_istore_n (lo' := [some (va_rf r0), some (.int i1), some (.int (-1 : Int32)), some (.int (0 : Int32)), none, none, none, none, none]) rfl rfl rfl rfl ?_
    exact s_X12_winsOn_83 FU _ _ _ _ _ h
  · refine r_aload_n rfl rfl ?_
    refine r_getI rfl fl_12_536 rfl h (fun v1 h => ?_)
    refine r_iconst (v := -1) rfl (by decide) ?_
    refine r_ic_ne 79 rfl (by decide) h (fun h => ?_) (fun h => ?_)
    · refine r_aload_n rfl rfl ?_
      refine r_aload_n rfl rfl ?_
      refine r_getR rfl fl_12_115 rfl h (fun v2 h => ?_)
      refine r_iload_n rfl rfl ?_
      refine r_iald rfl h (fun v3 h => ?_)
      refine r_iload_n rfl rfl ?_
      refine r_cs_i (vs := [.int v3, .int i2]) rfl ml_12_518 (rOk.of rfl) ⟨Nat.zero_le _, Nat.zero_le _⟩ rfl rfl rfl h s_X12_isOfferOf (fun v4 M1 h => ?_)
      refine r_if_eq 69 rfl (by decide) h (fun h => ?_) (fun h => ?_)
      · refine r_iconst (v := -1) rfl (by decide) ?_
        refine r_putI rfl fl_12_536 (fun z => by cases z) rfl h (fun M2 h => ?_)
        refine r_iinc (v := 1) (lo' := [some (va_rf r0), some (.int i1), some (.int (i2 + (1 : Int32))), none, none, none, none, none, none]) rfl rfl rfl (by decide) rfl rfl ?_
        refine r_goto 7 rfl (by decide) ?_
        exact hq7 _ _ _ _ h
      · refine r_aload_n rfl rfl ?_
        refine r_iload_n rfl rfl ?_
        refine r_iload_n rfl rfl ?_
        refine r_bipush (v := 64) rfl (by decide) ?_
        refine r_idiv rfl h (fun h => ?_)
        refine r_iload_n rfl rfl ?_
        refine r_bipush (v := 8) rfl (by decide) ?_
        refine r_idiv rfl h (fun h => ?_)
        refine r_bipush (v := 8) rfl (by decide) ?_
        refine r_irem rfl h (fun h => ?_)
        refine r_iload_n rfl rfl ?_
        refine r_bipush (v := 8) rfl (by decide) ?_
        refine r_irem rfl h (fun h => ?_)
        refine r_cv_i (vs := [.int i1, .int (i2 / (64 : Int32)), .int ((i2 / (8 : Int32)) - (i2 / (8 : Int32)) / (8 : Int32) * (8 : Int32)), .int (i2 - i2 / (8 : Int32) * (8 : Int32))]) rfl ml_12_521 rfl (rOk.of rfl) ⟨Nat.zero_le _, Nat.zero_le _⟩ rfl rfl rfl h s_X12_winsBy (fun v5 M3 h => ?_)
        refine r_aload_n rfl rfl ?_
        refine r_getR rfl fl_12_125 rfl h (fun v6 h => ?_)
        refine r_iload_n rfl rfl ?_
        refine r_iald rfl h (fun v7 h => ?_)
        refine r_ic_ge 69 rfl (by decide) h (fun h => ?_) (fun h => ?_)
        · refine r_iconst (v := -1) rfl (by decide) ?_
          refine r_putI rfl fl_12_536 (fun z => by cases z) rfl h (fun M4 h => ?_)
          refine r_iinc (v := 1) (lo' := [some (va_rf r0), some (.int i1), some (.int (i2 + (1 : Int32))), none, none, none, none, none, none]) rfl rfl rfl (by decide) rfl rfl ?_
          refine r_goto 7 rfl (by decide) ?_
          exact hq7 _ _ _ _ h
        · refine r_iload_n rfl rfl ?_
          refine r_goto 70 rfl (by decide) ?_
          refine r_putI rfl fl_12_536 (fun z => by cases z) rfl h (fun M5 h => ?_)
          refine r_iinc (v := 1) (lo' := [some (va_rf r0), some (.int i1), some (.int (i2 + (1 : Int32))), none, none, none, none, none, none]) rfl rfl rfl (by decide) rfl rfl ?_
          refine r_goto 7 rfl (by decide) ?_
          exact hq7 _ _ _ _ h
    · refine r_iconst (v := -1) rfl (by decide) ?_
      refine r_istore_n (lo' := [some (va_rf r0), some (.int i1), some (.int (-1 : Int32)), none, none, none, none, none, none]) rfl rfl rfl rfl ?_
      refine r_iconst (v := 0) rfl (by decide) ?_
      refine r_istore_n (lo' := [some (va_rf r0), some (.int i1), some (.int (-1 : Int32)), some (.int (0 : Int32)), none, none, none, none, none]) rfl rfl rfl rfl ?_
      exact s_X12_winsOn_83 FU _ _ _ _ _ h
theorem s_X12_winsOn_7 {d : Nat} {P : Unit → Mem → Prop}   : ∀ (k : Nat) (r0 : Option Nat) (i1 : Int32) (i2 : Int32) (M : Mem), FQ (f_X12_winsOn_7  k r0 i1 i2 M) P → wp Y_X12_winsOn (rmD (d + 2) 0 0) (FM (QV P) 0 0) 0 0 7 [some (va_rf r0), some (.int i1), some (.int i2), none, none, none, none, none, none] [] M
  | 0, _, _, _, _, h => h.no
  | k + 1, r0, i1, i2, M, h => sb_X12_winsOn_7  (s_X12_winsOn_7  k) r0 i1 i2 M h
theorem s_X12_winsOn {d : Nat} {P : Unit → Mem → Prop} {r0 : Option Nat} {i1 : Int32} {M : Mem} (h : FQ (f_X12_winsOn r0 i1 M) P) : Con Y_X12_winsOn (d + 2) 0 0 [va_rf r0, .int i1] M (QV P) := by
  refine Con.of [some (va_rf r0), some (.int i1), none, none, none, none, none, none, none] (by decide +kernel) dk_X12_winsOn (by simp [Y_X12_winsOn, cat_rf, cat_i, cat_l]) (by simp [loE, Y_X12_winsOn, cat_rf, cat_i, cat_l, List.replicate]) ?_
  unfold f_X12_winsOn at h
  refine r_aload_n rfl rfl ?_
  refine r_iconst (v := -1) rfl (by decide) ?_
  refine r_putI rfl fl_12_536 (fun z => by cases z) rfl h (fun M1 h => ?_)
  refine r_iconst (v := 0) rfl (by decide) ?_
  refine r_istore_n (lo' := [some (va_rf r0), some (.int i1), some (.int (0 : Int32)), none, none, none, none, none, none]) rfl rfl rfl rfl ?_
  exact s_X12_winsOn_7 FU _ _ _ _ h
set_option maxRecDepth 20000 in
theorem dk_X12_line : ∀ pc i, L_X12_line[pc]? = some (some i) → decode prog_14_method_108_code pc = .ok i := dk_of (by decide +kernel)
theorem s_X12_line_79 {d : Nat} {P : Int32 → Mem → Prop} {q30 : Option Nat → Int32 → Int32 → Int32 → Int32 → Mem → Option (Int32 × Mem)} (hq30 : ∀ (r0 : Option Nat) (i1 : Int32) (i2 : Int32) (i3 : Int32) (i4 : Int32) (M : Mem), FQ (q30 r0 i1 i2 i3 i4 M) P → wp Y_X12_line (rmD (d + 9) 0 0) (FM (QI P) 0 0) 0 0 30 [some (va_rf r0), some (.int i1), some (.int i2), some (.int i3), some (.int i4)] [] M) (r0 : Option Nat) (i1 : Int32) (i2 : Int32) (i3 : Int32) (i4 : Int32) (M : Mem) (h : FQ (f_X12_line_79 q30 r0 i1 i2 i3 i4 M) P) : wp Y_X12_line (rmD (d + 9) 0 0) (FM (QI P) 0 0) 0 0 79 [some (va_rf r0), some (.int i1), some (.int i2), some (.int i3), some (.int i4)] [] M := by
  unfold f_X12_line_79 at h
  refine r_iload rfl rfl ?_
  refine r_iload_n rfl rfl ?_
  refine r_ic_ge 108 rfl (by decide) h (fun h => ?_) (fun h => ?_)
  · refine r_iinc (v := 1) (lo' := [some (va_rf r0), some (.int i1), some (.int i2), some (.int i3), some (.int (i4 + (1 : Int32)))]) rfl rfl rfl (by decide) rfl rfl ?_
    refine r_goto 30 rfl (by decide) ?_
    exact hq30 _ _ _ _ _ _ h
  · refine r_aload_n rfl rfl ?_
    refine r_getR rfl fl_12_119 rfl h (fun v1 h => ?_)
    refine r_bipush (v := 64) rfl (by decide) ?_
    refine r_iload_n rfl rfl ?_
    refine r_imul rfl ?_
    refine r_bipush (v := 8) rfl (by decide) ?_
    refine r_aload_n rfl rfl ?_
    refine r_getI rfl fl_12_542 rfl h (fun v2 h => ?_)
    refine r_imul rfl ?_
    refine r_iadd rfl ?_
    refine r_aload_n rfl rfl ?_
    refine r_getI rfl fl_12_545 rfl h (fun v3 h => ?_)
    refine r_iadd rfl ?_
    refine r_iald rfl h (fun v4 h => ?_)
    refine r_istore_n (lo' := [some (va_rf r0), some (.int i1), some (.int i2), some (.int v4), some (.int i4)]) rfl rfl rfl rfl ?_
    refine r_iinc (v := 1) (lo' := [some (va_rf r0), some (.int i1), some (.int i2), some (.int v4), some (.int (i4 + (1 : Int32)))]) rfl rfl rfl (by decide) rfl rfl ?_
    refine r_goto 30 rfl (by decide) ?_
    exact hq30 _ _ _ _ _ _ h
theorem sb_X12_line_30 {d : Nat} {P : Int32 → Mem → Prop} {q30 : Option Nat → Int32 → Int32 → Int32 → Int32 → Mem → Option (Int32 × Mem)} (hq30 : ∀ (r0 : Option Nat) (i1 : Int32) (i2 : Int32) (i3 : Int32) (i4 : Int32) (M : Mem), FQ (q30 r0 i1 i2 i3 i4 M) P → wp Y_X12_line (rmD (d + 9) 0 0) (FM (QI P) 0 0) 0 0 30 [some (va_rf r0), some (.int i1), some (.int i2), some (.int i3), some (.int i4)] [] M) (r0 : Option Nat) (i1 : Int32) (i2 : Int32) (i3 : Int32) (i4 : Int32) (M : Mem) (h : FQ (b_X12_line_30 q30 r0 i1 i2 i3 i4 M) P) : wp Y_X12_line (rmD (d + 9) 0 0) (FM (QI P) 0 0) 0 0 30 [some (va_rf r0), some (.int i1), some (.int i2), some (.int i3), some (.int i4)] [] M := by
  unfold b_X12_line_30 at h
  refine r_iload rfl rfl ?_
  refine r_iload_n rfl rfl ?_
  refine r_ic_gt 114 rfl (by decide) h (fun h => ?_) (fun h => ?_)
  · refine r_iload_n rfl rfl ?_
    refine r_iconst (v := 3) rfl (by decide) ?_
    refine r_ic_ge 130 rfl (by decide) h (fun h => ?_) (fun h => ?_)
    · refine r_iload_n rfl rfl ?_
      refine r_iconst (v := 3) rfl (by decide) ?_
      refine r_ic_ne 142 rfl (by decide) h (fun h => ?_) (fun h => ?_)
      · refine r_aload_n rfl rfl ?_
        refine r_getI rfl fl_12_542 rfl h (fun v1 h => ?_)
        refine r_goto 146 rfl (by decide) ?_
        exact r_iret rfl rfl ⟨Nat.le_of_ble_eq_true rfl, Nat.le_of_ble_eq_true rfl⟩ h
      · refine r_aload_n rfl rfl ?_
        refine r_getI rfl fl_12_545 rfl h (fun v2 h => ?_)
        exact r_iret rfl rfl ⟨Nat.le_of_ble_eq_true rfl, Nat.le_of_ble_eq_true rfl⟩ h
    · refine r_aload_n rfl rfl ?_
      refine r_getI rfl fl_12_536 rfl h (fun v3 h => ?_)
      refine r_iload_n rfl rfl ?_
      refine r_cs_i (vs := [.int v3, .int i2]) rfl ml_12_539 (rOk.of rfl) ⟨Nat.zero_le _, Nat.zero_le _⟩ rfl rfl rfl h s_X12_partOf (fun v4 M1 h => ?_)
      refine r_goto 146 rfl (by decide) ?_
      exact r_iret rfl rfl ⟨Nat.le_of_ble_eq_true rfl, Nat.le_of_ble_eq_true rfl⟩ h
  · refine r_aload_n rfl rfl ?_
    refine r_getR rfl fl_12_122 rfl h (fun v5 h => ?_)
    refine r_iload_n rfl rfl ?_
    refine r_iald rfl h (fun v6 h => ?_)
    refine r_if_eq 54 rfl (by decide) h (fun h => ?_) (fun h => ?_)
    · refine r_iconst (v := -1) rfl (by decide) ?_
      exact r_iret rfl rfl ⟨Nat.le_of_ble_eq_true rfl, Nat.le_of_ble_eq_true rfl⟩ h
    · refine r_aload_n rfl rfl ?_
      refine r_getR rfl fl_12_115 rfl h (fun v7 h => ?_)
      refine r_iload_n rfl rfl ?_
      refine r_iald rfl h (fun v8 h => ?_)
      refine r_if_ne 56 rfl (by decide) h (fun h => ?_) (fun h => ?_)
      · refine r_iconst (v := -1) rfl (by decide) ?_
        exact r_iret rfl rfl ⟨Nat.le_of_ble_eq_true rfl, Nat.le_of_ble_eq_true rfl⟩ h
      · refine r_aload_n rfl rfl ?_
        refine r_getR rfl fl_12_122 rfl h (fun v9 h => ?_)
        refine r_iload_n rfl rfl ?_
        refine r_iald rfl h (fun v10 h => ?_)
        refine r_iconst (v := 1) rfl (by decide) ?_
        refine r_ic_ne 74 rfl (by decide) h (fun h => ?_) (fun h => ?_)
        · refine r_aload_n rfl rfl ?_
          refine r_iload_n rfl rfl ?_
          refine r_cv_v (vs := [.int i3]) rfl ml_12_548 rfl (rOk.of rfl) ⟨Nat.zero_le _, Nat.zero_le _⟩ rfl rfl rfl h s_X12_winsOn (fun _ M2 h => ?_)
          refine r_goto 79 rfl (by decide) ?_
          exact s_X12_line_79 hq30 _ _ _ _ _ _ h
        · refine r_aload_n rfl rfl ?_
          refine r_iload_n rfl rfl ?_
          refine r_cv_v (vs := [.int i3]) rfl ml_12_551 rfl (rOk.of rfl) ⟨Nat.zero_le _, Nat.zero_le _⟩ rfl rfl rfl h s_X12_losesOn (fun _ M3 h => ?_)
          exact s_X12_line_79 hq30 _ _ _ _ _ _ h
theorem s_X12_line_30 {d : Nat} {P : Int32 → Mem → Prop}   : ∀ (k : Nat) (r0 : Option Nat) (i1 : Int32) (i2 : Int32) (i3 : Int32) (i4 : Int32) (M : Mem), FQ (f_X12_line_30  k r0 i1 i2 i3 i4 M) P → wp Y_X12_line (rmD (d + 9) 0 0) (FM (QI P) 0 0) 0 0 30 [some (va_rf r0), some (.int i1), some (.int i2), some (.int i3), some (.int i4)] [] M
  | 0, _, _, _, _, _, _, h => h.no
  | k + 1, r0, i1, i2, i3, i4, M, h => sb_X12_line_30  (s_X12_line_30  k) r0 i1 i2 i3 i4 M h
theorem s_X12_line {d : Nat} {P : Int32 → Mem → Prop} {r0 : Option Nat} {i1 : Int32} {i2 : Int32} {M : Mem} (h : FQ (f_X12_line r0 i1 i2 M) P) : Con Y_X12_line (d + 9) 0 0 [va_rf r0, .int i1, .int i2] M (QI P) := by
  refine Con.of [some (va_rf r0), some (.int i1), some (.int i2), none, none] (by decide +kernel) dk_X12_line (by simp [Y_X12_line, cat_rf, cat_i, cat_l]) (by simp [loE, Y_X12_line, cat_rf, cat_i, cat_l, List.replicate]) ?_
  unfold f_X12_line at h
  refine r_iload_n rfl rfl ?_
  refine r_if_lt 13 rfl (by decide) h (fun h => ?_) (fun h => ?_)
  · refine r_iconst (v := -1) rfl (by decide) ?_
    exact r_iret rfl rfl ⟨Nat.le_of_ble_eq_true rfl, Nat.le_of_ble_eq_true rfl⟩ h
  · refine r_iload_n rfl rfl ?_
    refine r_iconst (v := 0) rfl (by decide) ?_
    refine r_iconst (v := 4) rfl (by decide) ?_
    refine r_cs_i (vs := [.int i2, .int (0 : Int32), .int (4 : Int32)]) rfl ml_12_151 (rOk.of rfl) ⟨Nat.zero_le _, Nat.zero_le _⟩ rfl rfl rfl h s_X12_in (fun v1 M1 h => ?_)
    refine r_if_ne 15 rfl (by decide) h (fun h => ?_) (fun h => ?_)
    · refine r_iconst (v := -1) rfl (by decide) ?_
      exact r_iret rfl rfl ⟨Nat.le_of_ble_eq_true rfl, Nat.le_of_ble_eq_true rfl⟩ h
    · refine r_aload_n rfl rfl ?_
      refine r_cv_i (vs := []) rfl ml_12_530 rfl (rOk.of rfl) ⟨Nat.zero_le _, Nat.zero_le _⟩ rfl rfl rfl h s_X12_laysResults (fun v2 M2 h => ?_)
      refine r_if_ne 25 rfl (by decide) h (fun h => ?_) (fun h => ?_)
      · refine r_bipush (v := -2) rfl (by decide) ?_
        exact r_iret rfl rfl ⟨Nat.le_of_ble_eq_true rfl, Nat.le_of_ble_eq_true rfl⟩ h
      · refine r_iconst (v := 0) rfl (by decide) ?_
        refine r_istore_n (lo' := [some (va_rf r0), some (.int i1), some (.int i2), some (.int (0 : Int32)), none]) rfl rfl rfl rfl ?_
        refine r_iconst (v := 0) rfl (by decide) ?_
        refine r_istore (lo' := [some (va_rf r0), some (.int i1), some (.int i2), some (.int (0 : Int32)), some (.int (0 : Int32))]) rfl rfl rfl rfl ?_
        exact s_X12_line_30 FU _ _ _ _ _ _ h
