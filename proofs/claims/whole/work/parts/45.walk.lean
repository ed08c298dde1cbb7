/-! walked by program (wip/gen): X12_isGood X12_good X12_heap X12_image X12_init X12_judge X12_partOf -/
def L_X12_isGood : List (Option (Instr × Nat)) := [some (.aload_n 0, 1), some (.getfield 115, 3), none, none, some (.iload_n 1, 1), some (.iaload, 1), some (.iload_n 2, 1), some (.invokestatic 518, 3), none, none, some (.ifCond .eq 33, 3), none, none, some (.aload_n 0, 1), some (.iload_n 1, 1), some (.iload_n 2, 1), some (.bipush 64, 2), none, some (.idiv, 1), some (.iload_n 2, 1), some (.bipush 8, 2), none, some (.idiv, 1), some (.bipush 8, 2), none, some (.irem, 1), some (.iload_n 2, 1), some (.bipush 8, 2), none, some (.irem, 1), some (.invokevirtual 521, 3), none, none, some (.ldc_w 510, 3), none, none, some (.if_icmp .ge 7, 3), none, none, some (.iconst 1, 1), some (.goto 4, 3), none, none, some (.iconst 0, 1), some (.ireturn, 1)]
def Y_X12_isGood : YM := (⟨RX12, "isGood", "(II)Z"⟩, prog_14_method_102_code, L_X12_isGood, 3, some .boolean)
def f_X12_isGood (r0 : Option Nat) (i1 : Int32) (i2 : Int32) (M : Mem) : Option (Int32 × Mem) :=
gR M r0 12 60 fun v1 =>
aI M v1 2 i1 fun v2 =>
cA (f_X12_isOfferOf v2 i2 M) fun v3 M1 =>
(if v3 = 0 then
tv (0 : Int32) (some ((0 : Int32), M1))
else
nzI (64 : Int32) (
nzI (8 : Int32) (
nzI (8 : Int32) (
nzI (8 : Int32) (
cR M1 r0 (1, 12) (cA (f_X12_winsBy r0 i1 (i2 / (64 : Int32)) ((i2 / (8 : Int32)) - (i2 / (8 : Int32)) / (8 : Int32) * (8 : Int32)) (i2 - i2 / (8 : Int32) * (8 : Int32)) M1) fun v4 M2 =>
(if (100000 : Int32) ≤ v4 then
tv (0 : Int32) (some ((0 : Int32), M2))
else
tv (1 : Int32) (some ((1 : Int32), M2)))))))))
def L_X12_good : List (Option (Instr × Nat)) := [some (.iload_n 1, 1), some (.iconst (-1), 1), some (.if_icmp .ge 5, 3), none, none, some (.iconst (-1), 1), some (.ireturn, 1), some (.aload_n 0, 1), some (.invokevirtual 530, 3), none, none, some (.ifCond .ne 6, 3), none, none, some (.bipush (-2), 2), none, some (.ireturn, 1), some (.iconst 0, 1), some (.istore_n 2, 1), some (.iconst 0, 1), some (.istore_n 3, 1), some (.iload_n 3, 1), some (.sipush 512, 3), none, none, some (.if_icmp .ge 50, 3), none, none, some (.aload_n 0, 1), some (.iconst 0, 1), some (.iload_n 3, 1), some (.invokevirtual 533, 3), none, none, some (.ifCond .eq 35, 3), none, none, some (.iload_n 2, 1), some (.iload_n 1, 1), some (.if_icmp .ne 27, 3), none, none, some (.bipush 100, 2), none, some (.iload_n 3, 1), some (.bipush 64, 2), none, some (.idiv, 1), some (.imul, 1), some (.bipush 10, 2), none, some (.iload_n 3, 1), some (.bipush 8, 2), none, some (.idiv, 1), some (.bipush 8, 2), none, some (.irem, 1), some (.imul, 1), some (.iadd, 1), some (.iload_n 3, 1), some (.bipush 8, 2), none, some (.irem, 1), some (.iadd, 1), some (.ireturn, 1), some (.iinc 2 1, 3), none, none, some (.iinc 3 1, 3), none, none, some (.goto (-51), 3), none, none, some (.iload_n 1, 1), some (.iconst (-1), 1), some (.if_icmp .ne 7, 3), none, none, some (.iload_n 2, 1), some (.goto 4, 3), none, none, some (.iconst (-1), 1), some (.ireturn, 1)]
def Y_X12_good : YM := (⟨RX12, "good", "(I)I"⟩, prog_14_method_103_code, L_X12_good, 4, some .int)
def b_X12_good_21 (q21 : Option Nat → Int32 → Int32 → Int32 → Mem → Option (Int32 × Mem)) (r0 : Option Nat) (i1 : Int32) (i2 : Int32) (i3 : Int32) (M : Mem) : Option (Int32 × Mem) :=
(if (512 : Int32) ≤ i3 then
(if i1 = (-1 : Int32) then
some (i2, M)
else
some ((-1 : Int32), M))
else
cR M r0 (1, 12) (cA (f_X12_isGood r0 (0 : Int32) i3 M) fun v1 M1 =>
(if v1 = 0 then
q21 r0 i1 i2 (i3 + (1 : Int32)) M1
else
(if i2 = i1 then
nzI (64 : Int32) (
nzI (8 : Int32) (
nzI (8 : Int32) (
nzI (8 : Int32) (
some (((((100 : Int32) * (i3 / (64 : Int32))) + ((10 : Int32) * ((i3 / (8 : Int32)) - (i3 / (8 : Int32)) / (8 : Int32) * (8 : Int32)))) + (i3 - i3 / (8 : Int32) * (8 : Int32))), M1)))))
else
q21 r0 i1 (i2 + (1 : Int32)) (i3 + (1 : Int32)) M1))))
def f_X12_good_21 (n : Nat) : Option Nat → Int32 → Int32 → Int32 → Mem → Option (Int32 × Mem) := lpN (fun _ _ _ _ _ => none) (b_X12_good_21 ) n
def f_X12_good (r0 : Option Nat) (i1 : Int32) (M : Mem) : Option (Int32 × Mem) :=
(if (-1 : Int32) ≤ i1 then
cR M r0 (1, 12) (cA (f_X12_laysResults r0 M) fun v1 M1 =>
(if v1 = 0 then
some ((-2 : Int32), M1)
else
f_X12_good_21 FU r0 i1 (0 : Int32) (0 : Int32) M1))
else
some ((-1 : Int32), M))
def L_X12_heap : List (Option (Instr × Nat)) := [some (.iload_n 1, 1), some (.invokestatic 159, 3), none, none, some (.ifCond .eq 12, 3), none, none, some (.iload_n 2, 1), some (.iconst 0, 1), some (.iconst 3, 1), some (.invokestatic 151, 3), none, none, some (.ifCond .ne 5, 3), none, none, some (.iconst 0, 1), some (.ireturn, 1), some (.aload_n 0, 1), some (.getfield 7, 3), none, none, some (.bipush 10, 2), none, some (.iload_n 1, 1), some (.iadd, 1), some (.iload_n 2, 1), some (.iastore, 1), some (.iconst 1, 1), some (.ireturn, 1)]
def Y_X12_heap : YM := (⟨RX12, "heap", "(II)Z"⟩, prog_14_method_7_code, L_X12_heap, 3, some .boolean)
def f_X12_heap (r0 : Option Nat) (i1 : Int32) (i2 : Int32) (M : Mem) : Option (Int32 × Mem) :=
cA (f_X12_isMove i1 M) fun v1 M1 =>
(if v1 = 0 then
tv (0 : Int32) (some ((0 : Int32), M1))
else
cA (f_X12_in i2 (0 : Int32) (3 : Int32) M1) fun v2 M2 =>
(if v2 = 0 then
tv (0 : Int32) (some ((0 : Int32), M2))
else
gR M2 r0 12 3 fun v3 =>
wI M2 v3 2 ((10 : Int32) + i1) i2 fun M3 =>
tv (1 : Int32) (some ((1 : Int32), M3))))
def L_X12_image : List (Option (Instr × Nat)) := [some (.aload_n 0, 1), some (.iconst 1, 1), some (.invokevirtual 147, 3), none, none, some (.aload_n 0, 1), some (.invokevirtual 557, 3), none, none, some (.ireturn, 1)]
def Y_X12_image : YM := (⟨RX12, "image", "()I"⟩, prog_14_method_113_code, L_X12_image, 1, some .int)
def f_X12_image (r0 : Option Nat) (M : Mem) : Option (Int32 × Mem) :=
cR M r0 (1, 12) (cA (f_X12_copies r0 (1 : Int32) M) fun _ M1 =>
cR M1 r0 (1, 12) (cA (f_X12_pieces r0 M1) fun v1 M2 =>
some (v1, M2)))
def L_X12_init : List (Option (Instr × Nat)) := [some (.aload_n 0, 1), some (.invokespecial 1, 3), none, none, some (.aload_n 0, 1), some (.sipush 240, 3), none, none, some (.newarray .int, 2), none, some (.putfield 7, 3), none, none, some (.aload_n 0, 1), some (.sipush 240, 3), none, none, some (.newarray .int, 2), none, some (.putfield 13, 3), none, none, some (.aload_n 0, 1), some (.sipush 300, 3), none, none, some (.newarray .byte, 2), none, some (.putfield 16, 3), none, none, some (.aload_n 0, 1), some (.iconst (-1), 1), some (.putfield 20, 3), none, none, some (.aload_n 0, 1), some (.iconst (-1), 1), some (.putfield 24, 3), none, none, some (.aload_n 0, 1), some (.bipush 6, 2), none, some (.newarray .int, 2), none, some (.putfield 27, 3), none, none, some (.aload_n 0, 1), some (.bipush 120, 2), none, some (.newarray .int, 2), none, some (.putfield 30, 3), none, none, some (.aload_n 0, 1), some (.bipush 120, 2), none, some (.newarray .int, 2), none, some (.putfield 33, 3), none, none, some (.aload_n 0, 1), some (.bipush 120, 2), none, some (.newarray .int, 2), none, some (.putfield 36, 3), none, none, some (.aload_n 0, 1), some (.bipush 120, 2), none, some (.newarray .int, 2), none, some (.putfield 39, 3), none, none, some (.aload_n 0, 1), some (.bipush 120, 2), none, some (.newarray .int, 2), none, some (.putfield 42, 3), none, none, some (.aload_n 0, 1), some (.bipush 120, 2), none, some (.newarray .int, 2), none, some (.putfield 45, 3), none, none, some (.aload_n 0, 1), some (.sipush 2400, 3), none, none, some (.newarray .int, 2), none, some (.putfield 48, 3), none, none, some (.aload_n 0, 1), some (.sipush 2400, 3), none, none, some (.newarray .int, 2), none, some (.putfield 51, 3), none, none, some (.aload_n 0, 1), some (.bipush 40, 2), none, some (.newarray .int, 2), none, some (.putfield 54, 3), none, none, some (.aload_n 0, 1), some (.bipush 41, 2), none, some (.newarray .int, 2), none, some (.putfield 57, 3), none, none, some (.aload_n 0, 1), some (.bipush 80, 2), none, some (.newarray .int, 2), none, some (.putfield 60, 3), none, none, some (.aload_n 0, 1), some (.bipush 80, 2), none, some (.newarray .int, 2), none, some (.putfield 63, 3), none, none, some (.aload_n 0, 1), some (.bipush 20, 2), none, some (.newarray .int, 2), none, some (.putfield 66, 3), none, none, some (.aload_n 0, 1), some (.bipush 20, 2), none, some (.newarray .int, 2), none, some (.putfield 69, 3), none, none, some (.aload_n 0, 1), some (.bipush 80, 2), none, some (.newarray .int, 2), none, some (.putfield 72, 3), none, none, some (.aload_n 0, 1), some (.sipush 400, 3), none, none, some (.newarray .int, 2), none, some (.putfield 75, 3), none, none, some (.aload_n 0, 1), some (.sipush 400, 3), none, none, some (.newarray .int, 2), none, some (.putfield 78, 3), none, none, some (.aload_n 0, 1), some (.bipush 7, 2), none, some (.newarray .int, 2), none, some (.putfield 81, 3), none, none, some (.aload_n 0, 1), some (.sipush 200, 3), none, none, some (.newarray .long, 2), none, some (.putfield 84, 3), none, none, some (.aload_n 0, 1), some (.bipush 12, 2), none, some (.newarray .int, 2), none, some (.putfield 88, 3), none, none, some (.aload_n 0, 1), some (.bipush 8, 2), none, some (.newarray .int, 2), none, some (.putfield 91, 3), none, none, some (.aload_n 0, 1), some (.bipush 8, 2), none, some (.newarray .int, 2), none, some (.putfield 94, 3), none, none, some (.aload_n 0, 1), some (.bipush 8, 2), none, some (.newarray .int, 2), none, some (.putfield 97, 3), none, none, some (.aload_n 0, 1), some (.bipush 8, 2), none, some (.newarray .int, 2), none, some (.putfield 100, 3), none, none, some (.aload_n 0, 1), some (.bipush 8, 2), none, some (.newarray .long, 2), none, some (.putfield 103, 3), none, none, some (.aload_n 0, 1), some (.bipush 41, 2), none, some (.newarray .long, 2), none, some (.putfield 106, 3), none, none, some (.aload_n 0, 1), some (.bipush 41, 2), none, some (.newarray .int, 2), none, some (.putfield 109, 3), none, none, some (.aload_n 0, 1), some (.sipush 2000, 3), none, none, some (.newarray .long, 2), none, some (.putfield 112, 3), none, none, some (.aload_n 0, 1), some (.sipush 2000, 3), none, none, some (.newarray .int, 2), none, some (.putfield 115, 3), none, none, some (.aload_n 0, 1), some (.ldc 118, 2), none, some (.newarray .int, 2), none, some (.putfield 119, 3), none, none, some (.aload_n 0, 1), some (.sipush 2000, 3), none, none, some (.newarray .int, 2), none, some (.putfield 122, 3), none, none, some (.aload_n 0, 1), some (.sipush 2000, 3), none, none, some (.newarray .int, 2), none, some (.putfield 125, 3), none, none, some (.aload_n 0, 1), some (.sipush 8192, 3), none, none, some (.newarray .int, 2), none, some (.putfield 128, 3), none, none, some (.aload_n 0, 1), some (.sipush 2000, 3), none, none, some (.newarray .int, 2), none, some (.putfield 131, 3), none, none, some (.aload_n 0, 1), some (.sipush 2000, 3), none, none, some (.newarray .boolean, 2), none, some (.putfield 134, 3), none, none, some (.aload_n 0, 1), some (.iload_n 1, 1), some (.iconst 2, 1), some (.if_icmp .ge 7, 3), none, none, some (.iconst 2, 1), some (.goto 13, 3), none, none, some (.iload_n 1, 1), some (.iconst 4, 1), some (.if_icmp .le 7, 3), none, none, some (.iconst 4, 1), some (.goto 4, 3), none, none, some (.iload_n 1, 1), some (.putfield 138, 3), none, none, some (.aload_n 0, 1), some (.iload_n 2, 1), some (.iconst 1, 1), some (.if_icmp .ge 7, 3), none, none, some (.iconst 1, 1), some (.goto 13, 3), none, none, some (.iload_n 2, 1), some (.iconst 3, 1), some (.if_icmp .le 7, 3), none, none, some (.iconst 3, 1), some (.goto 4, 3), none, none, some (.iload_n 2, 1), some (.putfield 141, 3), none, none, some (.aload_n 0, 1), some (.aload_n 0, 1), some (.getfield 138, 3), none, none, some (.aload_n 0, 1), some (.getfield 141, 3), none, none, some (.imul, 1), some (.putfield 144, 3), none, none, some (.aload_n 0, 1), some (.getfield 7, 3), none, none, some (.iconst 2, 1), some (.iconst (-1), 1), some (.iastore, 1), some (.aload_n 0, 1), some (.getfield 7, 3), none, none, some (.iconst 3, 1), some (.iconst (-1), 1), some (.iastore, 1), some (.aload_n 0, 1), some (.getfield 7, 3), none, none, some (.iconst 4, 1), some (.iconst (-1), 1), some (.iastore, 1), some (.aload_n 0, 1), some (.iconst 1, 1), some (.invokevirtual 147, 3), none, none, some (.return_, 1)]
def Y_X12_init : YM := (⟨RX12, "<init>", "(II)V"⟩, prog_14_method_1_code, L_X12_init, 3, none)
def f_X12_init_384  (r0 : Option Nat) (sr0 : Option Nat) (si1 : Int32) (M : Mem) : Option (Unit × Mem) :=
pI M sr0 12 1 si1 fun M1 =>
gI M1 r0 12 0 fun v1 =>
gI M1 r0 12 1 fun v2 =>
pI M1 r0 12 2 (v1 * v2) fun M2 =>
gR M2 r0 12 3 fun v3 =>
wI M2 v3 2 (2 : Int32) (-1 : Int32) fun M3 =>
gR M3 r0 12 3 fun v4 =>
wI M3 v4 2 (3 : Int32) (-1 : Int32) fun M4 =>
gR M4 r0 12 3 fun v5 =>
wI M4 v5 2 (4 : Int32) (-1 : Int32) fun M5 =>
cR M5 r0 (1, 12) (cA (f_X12_copies r0 (1 : Int32) M5) fun _ M6 =>
some ((), M6))
def f_X12_init_361  (r0 : Option Nat) (i2 : Int32) (sr0 : Option Nat) (si1 : Int32) (M : Mem) : Option (Unit × Mem) :=
pI M sr0 12 0 si1 fun M1 =>
(if (1 : Int32) ≤ i2 then
(if i2 ≤ (3 : Int32) then
f_X12_init_384 r0 r0 i2 M1
else
f_X12_init_384 r0 r0 (3 : Int32) M1)
else
f_X12_init_384 r0 r0 (1 : Int32) M1)
def f_X12_init (r0 : Option Nat) (i1 : Int32) (i2 : Int32) (M : Mem) : Option (Unit × Mem) :=
cN r0 (fun _ =>
nA M 2 (240 : Int32) 240 fun v1 M1 =>
pR M1 r0 12 3 v1 fun M2 =>
nA M2 2 (240 : Int32) 240 fun v2 M3 =>
pR M3 r0 12 4 v2 fun M4 =>
nA M4 4 (300 : Int32) 300 fun v3 M5 =>
pR M5 r0 12 5 v3 fun M6 =>
pI M6 r0 12 7 (-1 : Int32) fun M7 =>
pI M7 r0 12 8 (-1 : Int32) fun M8 =>
nA M8 2 (6 : Int32) 6 fun v4 M9 =>
pR M9 r0 12 9 v4 fun M10 =>
nA M10 2 (120 : Int32) 120 fun v5 M11 =>
pR M11 r0 12 10 v5 fun M12 =>
nA M12 2 (120 : Int32) 120 fun v6 M13 =>
pR M13 r0 12 11 v6 fun M14 =>
nA M14 2 (120 : Int32) 120 fun v7 M15 =>
pR M15 r0 12 12 v7 fun M16 =>
nA M16 2 (120 : Int32) 120 fun v8 M17 =>
pR M17 r0 12 13 v8 fun M18 =>
nA M18 2 (120 : Int32) 120 fun v9 M19 =>
pR M19 r0 12 14 v9 fun M20 =>
nA M20 2 (120 : Int32) 120 fun v10 M21 =>
pR M21 r0 12 15 v10 fun M22 =>
nA M22 2 (2400 : Int32) 2400 fun v11 M23 =>
pR M23 r0 12 16 v11 fun M24 =>
nA M24 2 (2400 : Int32) 2400 fun v12 M25 =>
pR M25 r0 12 17 v12 fun M26 =>
nA M26 2 (40 : Int32) 40 fun v13 M27 =>
pR M27 r0 12 27 v13 fun M28 =>
nA M28 2 (41 : Int32) 41 fun v14 M29 =>
pR M29 r0 12 28 v14 fun M30 =>
nA M30 2 (80 : Int32) 80 fun v15 M31 =>
pR M31 r0 12 30 v15 fun M32 =>
nA M32 2 (80 : Int32) 80 fun v16 M33 =>
pR M33 r0 12 31 v16 fun M34 =>
nA M34 2 (20 : Int32) 20 fun v17 M35 =>
pR M35 r0 12 35 v17 fun M36 =>
nA M36 2 (20 : Int32) 20 fun v18 M37 =>
pR M37 r0 12 36 v18 fun M38 =>
nA M38 2 (80 : Int32) 80 fun v19 M39 =>
pR M39 r0 12 37 v19 fun M40 =>
nA M40 2 (400 : Int32) 400 fun v20 M41 =>
pR M41 r0 12 39 v20 fun M42 =>
nA M42 2 (400 : Int32) 400 fun v21 M43 =>
pR M43 r0 12 40 v21 fun M44 =>
nA M44 2 (7 : Int32) 7 fun v22 M45 =>
pR M45 r0 12 41 v22 fun M46 =>
nA M46 3 (200 : Int32) 200 fun v23 M47 =>
pR M47 r0 12 42 v23 fun M48 =>
nA M48 2 (12 : Int32) 12 fun v24 M49 =>
pR M49 r0 12 43 v24 fun M50 =>
nA M50 2 (8 : Int32) 8 fun v25 M51 =>
pR M51 r0 12 44 v25 fun M52 =>
nA M52 2 (8 : Int32) 8 fun v26 M53 =>
pR M53 r0 12 50 v26 fun M54 =>
nA M54 2 (8 : Int32) 8 fun v27 M55 =>
pR M55 r0 12 51 v27 fun M56 =>
nA M56 2 (8 : Int32) 8 fun v28 M57 =>
pR M57 r0 12 52 v28 fun M58 =>
nA M58 3 (8 : Int32) 8 fun v29 M59 =>
pR M59 r0 12 54 v29 fun M60 =>
nA M60 3 (41 : Int32) 41 fun v30 M61 =>
pR M61 r0 12 55 v30 fun M62 =>
nA M62 2 (41 : Int32) 41 fun v31 M63 =>
pR M63 r0 12 56 v31 fun M64 =>
nA M64 3 (2000 : Int32) 2000 fun v32 M65 =>
pR M65 r0 12 59 v32 fun M66 =>
nA M66 2 (2000 : Int32) 2000 fun v33 M67 =>
pR M67 r0 12 60 v33 fun M68 =>
nA M68 2 (128000 : Int32) 128000 fun v34 M69 =>
pR M69 r0 12 61 v34 fun M70 =>
nA M70 2 (2000 : Int32) 2000 fun v35 M71 =>
pR M71 r0 12 62 v35 fun M72 =>
nA M72 2 (2000 : Int32) 2000 fun v36 M73 =>
pR M73 r0 12 63 v36 fun M74 =>
nA M74 2 (8192 : Int32) 8192 fun v37 M75 =>
pR M75 r0 12 64 v37 fun M76 =>
nA M76 2 (2000 : Int32) 2000 fun v38 M77 =>
pR M77 r0 12 65 v38 fun M78 =>
nA M78 5 (2000 : Int32) 2000 fun v39 M79 =>
pR M79 r0 12 69 v39 fun M80 =>
(if (2 : Int32) ≤ i1 then
(if i1 ≤ (4 : Int32) then
f_X12_init_361 r0 i2 r0 i1 M80
else
f_X12_init_361 r0 i2 r0 (4 : Int32) M80)
else
f_X12_init_361 r0 i2 r0 (2 : Int32) M80))
def L_X12_judge : List (Option (Instr × Nat)) := [some (.aload_n 0, 1), some (.invokevirtual 474, 3), none, none, some (.ireturn, 1)]
def Y_X12_judge : YM := (⟨RX12, "judge", "()I"⟩, prog_14_method_83_code, L_X12_judge, 1, some .int)
def f_X12_judge (r0 : Option Nat) (M : Mem) : Option (Int32 × Mem) :=
cR M r0 (1, 12) (cA (f_X12_judges r0 M) fun v1 M1 =>
some (v1, M1))
def L_X12_partOf : List (Option (Instr × Nat)) := [some (.iload_n 1, 1), some (.ifCond .ne 10, 3), none, none, some (.iload_n 0, 1), some (.bipush 64, 2), none, some (.idiv, 1), some (.goto 22, 3), none, none, some (.iload_n 1, 1), some (.iconst 1, 1), some (.if_icmp .ne 13, 3), none, none, some (.iload_n 0, 1), some (.bipush 8, 2), none, some (.idiv, 1), some (.bipush 8, 2), none, some (.irem, 1), some (.goto 7, 3), none, none, some (.iload_n 0, 1), some (.bipush 8, 2), none, some (.irem, 1), some (.ireturn, 1)]
def Y_X12_partOf : YM := (⟨RX12, "partOf", "(II)I"⟩, prog_14_method_105_code, L_X12_partOf, 2, some .int)
def f_X12_partOf (i0 : Int32) (i1 : Int32) (M : Mem) : Option (Int32 × Mem) :=
(if i1 = 0 then
nzI (64 : Int32) (
some ((i0 / (64 : Int32)), M))
else
(if i1 = (1 : Int32) then
nzI (8 : Int32) (
nzI (8 : Int32) (
some (((i0 / (8 : Int32)) - (i0 / (8 : Int32)) / (8 : Int32) * (8 : Int32)), M)))
else
nzI (8 : Int32) (
some ((i0 - i0 / (8 : Int32) * (8 : Int32)), M))))
set_option maxRecDepth 30000 in
theorem ok_X12_isGood : okY Y_X12_isGood := ⟨(gw_in 1750 rfl rfl), (gw_in 14 (by decide +kernel) (by decide +kernel)), by decide +kernel, by decide +kernel⟩
theorem ml_12_533 : MLv RX12 533 Y_X12_isGood 2 := ⟨(gw_in 1747 (by decide +kernel) (by decide +kernel)), (gw_in 1749 (by decide +kernel) (by decide +kernel)), (gw_sel (n := 70) 114 (by decide +kernel) (by decide +kernel)), ok_X12_isGood, by decide +kernel⟩
theorem mk_12_1 : Jvm.Cond.methodLink RX12 1 Lib.objectInit ∈ gw := gw_in 1110 (by decide +kernel) (by decide +kernel)
theorem fl_12_54 : FLk RX12 54 12 27 true := ⟨_, rfl, by decide, (gw_in 1143 (by decide +kernel) (by decide +kernel)), rfl⟩
theorem fl_12_57 : FLk RX12 57 12 28 true := ⟨_, rfl, by decide, (gw_in 1144 (by decide +kernel) (by decide +kernel)), rfl⟩
theorem fl_12_60 : FLk RX12 60 12 30 true := ⟨_, rfl, by decide, (gw_in 1146 (by decide +kernel) (by decide +kernel)), rfl⟩
theorem fl_12_63 : FLk RX12 63 12 31 true := ⟨_, rfl, by decide, (gw_in 1147 (by decide +kernel) (by decide +kernel)), rfl⟩
theorem fl_12_66 : FLk RX12 66 12 35 true := ⟨_, rfl, by decide, (gw_in 1151 (by decide +kernel) (by decide +kernel)), rfl⟩
theorem fl_12_69 : FLk RX12 69 12 36 true := ⟨_, rfl, by decide, (gw_in 1152 (by decide +kernel) (by decide +kernel)), rfl⟩
theorem fl_12_72 : FLk RX12 72 12 37 true := ⟨_, rfl, by decide, (gw_in 1153 (by decide +kernel) (by decide +kernel)), rfl⟩
theorem fl_12_75 : FLk RX12 75 12 39 true := ⟨_, rfl, by decide, (gw_in 1155 (by decide +kernel) (by decide +kernel)), rfl⟩
theorem fl_12_78 : FLk RX12 78 12 40 true := ⟨_, rfl, by decide, (gw_in 1156 (by decide +kernel) (by decide +kernel)), rfl⟩
theorem fl_12_103 : FLk RX12 103 12 54 true := ⟨_, rfl, by decide, (gw_in 1170 (by decide +kernel) (by decide +kernel)), rfl⟩
theorem kc_12_118 : Jvm.Cond.constant RX12 118 (128000) ∈ gw := gw_in 1111 (by decide +kernel) (by decide +kernel)
theorem fl_12_134 : FLk RX12 134 12 69 true := ⟨_, rfl, by decide, (gw_in 1185 (by decide +kernel) (by decide +kernel)), rfl⟩
set_option maxRecDepth 20000 in
theorem dk_X12_isGood : ∀ pc i, L_X12_isGood[pc]? = some (some i) → decode prog_14_method_102_code pc = .ok i := dk_of (by decide +kernel)
theorem s_X12_isGood {d : Nat} {P : Int32 → Mem → Prop} {r0 : Option Nat} {i1 : Int32} {i2 : Int32} {M : Mem} (h : FQ (f_X12_isGood r0 i1 i2 M) P) : Con Y_X12_isGood (d + 2) 0 0 [va_rf r0, .int i1, .int i2] M (QI P) := by
  refine Con.of [some (va_rf r0), some (.int i1), some (.int i2)] (by decide +kernel) dk_X12_isGood (by simp [Y_X12_isGood, cat_rf, cat_i, cat_l]) (by simp [loE, Y_X12_isGood, cat_rf, cat_i, cat_l, List.replicate]) ?_
  unfold f_X12_isGood at h
  refine r_aload_n rfl rfl ?_
  refine r_getR rfl fl_12_115 rfl h (fun v1 h => ?_)
  refine r_iload_n rfl rfl ?_
  refine r_iald rfl h (fun v2 h => ?_)
  refine r_iload_n rfl rfl ?_
  refine r_cs_i (vs := [.int v2, .int i2]) rfl ml_12_518 (rOk.of rfl) ⟨Nat.zero_le _, Nat.zero_le _⟩ rfl rfl rfl h s_X12_isOfferOf (fun v3 M1 h => ?_)
  refine r_if_eq 43 rfl (by decide) h (fun h => ?_) (fun h => ?_)
  · refine r_iconst (v := 0) rfl (by decide) ?_
    exact r_zret rfl rfl ⟨Nat.le_of_ble_eq_true rfl, Nat.le_of_ble_eq_true rfl⟩ h
  · refine r_aload_n rfl rfl ?_
    refine r_iload_n rfl rfl ?_
    refine r_iload_n rfl rfl ?_
    refine r_bipush (v := 64) rfl (by decide) ?_
    refine r_idiv rfl h (fun h => ?_)
    refine r_iload_n rfl rfl ?_
    refine r_bipush (v := 8) rfl (by decide) ?_
    refine r_idiv rfl h (fun h => ?_)
    refine r_bipush (v := 8) rfl (by decide) ?_
    refine r_irem rfl h (fun h => ?_)
    refine r_iload_n rfl rfl ?_
    refine r_bipush (v := 8) rfl (by decide) ?_
    refine r_irem rfl h (fun h => ?_)
    refine r_cv_i (vs := [.int i1, .int (i2 / (64 : Int32)), .int ((i2 / (8 : Int32)) - (i2 / (8 : Int32)) / (8 : Int32) * (8 : Int32)), .int (i2 - i2 / (8 : Int32) * (8 : Int32))]) rfl ml_12_521 rfl (rOk.of rfl) ⟨Nat.zero_le _, Nat.zero_le _⟩ rfl rfl rfl h s_X12_winsBy (fun v4 M2 h => ?_)
    refine r_ldcw rfl kc_12_510 ?_
    refine r_ic_ge 43 rfl (by decide) h (fun h => ?_) (fun h => ?_)
    · refine r_iconst (v := 0) rfl (by decide) ?_
      exact r_zret rfl rfl ⟨Nat.le_of_ble_eq_true rfl, Nat.le_of_ble_eq_true rfl⟩ h
    · refine r_iconst (v := 1) rfl (by decide) ?_
      refine r_goto 44 rfl (by decide) ?_
      exact r_zret rfl rfl ⟨Nat.le_of_ble_eq_true rfl, Nat.le_of_ble_eq_true rfl⟩ h
set_option maxRecDepth 20000 in
theorem dk_X12_good : ∀ pc i, L_X12_good[pc]? = some (some i) → decode prog_14_method_103_code pc = .ok i := dk_of (by decide +kernel)
theorem sb_X12_good_21 {d : Nat} {P : Int32 → Mem → Prop} {q21 : Option Nat → Int32 → Int32 → Int32 → Mem → Option (Int32 × Mem)} (hq21 : ∀ (r0 : Option Nat) (i1 : Int32) (i2 : Int32) (i3 : Int32) (M : Mem), FQ (q21 r0 i1 i2 i3 M) P → wp Y_X12_good (rmD (d + 9) 0 0) (FM (QI P) 0 0) 0 0 21 [some (va_rf r0), some (.int i1), some (.int i2), some (.int i3)] [] M) (r0 : Option Nat) (i1 : Int32) (i2 : Int32) (i3 : Int32) (M : Mem) (h : FQ (b_X12_good_21 q21 r0 i1 i2 i3 M) P) : wp Y_X12_good (rmD (d + 9) 0 0) (FM (QI P) 0 0) 0 0 21 [some (va_rf r0), some (.int i1), some (.int i2), some (.int i3)] [] M := by
  unfold b_X12_good_21 at h
  refine r_iload_n rfl rfl ?_
  refine r_sipush (v := 512) rfl (by decide) ?_
  refine r_ic_ge 75 rfl (by decide) h (fun h => ?_) (fun h => ?_)
  · refine r_iload_n rfl rfl ?_
    refine r_iconst (v := -1) rfl (by decide) ?_
    refine r_ic_ne 84 rfl (by decide) h (fun h => ?_) (fun h => ?_)
    · refine r_iload_n rfl rfl ?_
      refine r_goto 85 rfl (by decide) ?_
      exact r_iret rfl rfl ⟨Nat.le_of_ble_eq_true rfl, Nat.le_of_ble_eq_true rfl⟩ h
    · refine r_iconst (v := -1) rfl (by decide) ?_
      exact r_iret rfl rfl ⟨Nat.le_of_ble_eq_true rfl, Nat.le_of_ble_eq_true rfl⟩ h
  · refine r_aload_n rfl rfl ?_
    refine r_iconst (v := 0) rfl (by decide) ?_
    refine r_iload_n rfl rfl ?_
    refine r_cv_i (vs := [.int (0 : Int32), .int i3]) rfl ml_12_533 rfl (rOk.of rfl) ⟨Nat.zero_le _, Nat.zero_le _⟩ rfl rfl rfl h s_X12_isGood (fun v1 M1 h => ?_)
    refine r_if_eq 69 rfl (by decide) h (fun h => ?_) (fun h => ?_)
    · refine r_iinc (v := 1) (lo' := [some (va_rf r0), some (.int i1), some (.int i2), some (.int (i3 + (1 : Int32)))]) rfl rfl rfl (by decide) rfl rfl ?_
      refine r_goto 21 rfl (by decide) ?_
      exact hq21 _ _ _ _ _ h
    · refine r_iload_n rfl rfl ?_
      refine r_iload_n rfl rfl ?_
      refine r_ic_ne 66 rfl (by decide) h (fun h => ?_) (fun h => ?_)
      · refine r_bipush (v := 100) rfl (by decide) ?_
        refine r_iload_n rfl rfl ?_
        refine r_bipush (v := 64) rfl (by decide) ?_
        refine r_idiv rfl h (fun h => ?_)
        refine r_imul rfl ?_
        refine r_bipush (v := 10) rfl (by decide) ?_
        refine r_iload_n rfl rfl ?_
        refine r_bipush (v := 8) rfl (by decide) ?_
        refine r_idiv rfl h (fun h => ?_)
        refine r_bipush (v := 8) rfl (by decide) ?_
        refine r_irem rfl h (fun h => ?_)
        refine r_imul rfl ?_
        refine r_iadd rfl ?_
        refine r_iload_n rfl rfl ?_
        refine r_bipush (v := 8) rfl (by decide) ?_
        refine r_irem rfl h (fun h => ?_)
        refine r_iadd rfl ?_
        exact r_iret rfl rfl ⟨Nat.le_of_ble_eq_true rfl, Nat.le_of_ble_eq_true rfl⟩ h
      · refine r_iinc (v := 1) (lo' := [some (va_rf r0), some (.int i1), some (.int (i2 + (1 : Int32))), some (.int i3)]) rfl rfl rfl (by decide) rfl rfl ?_
        refine r_iinc (v := 1) (lo' := [some (va_rf r0), some (.int i1), some (.int (i2 + (1 : Int32))), some (.int (i3 + (1 : Int32)))]) rfl rfl rfl (by decide) rfl rfl ?_
        refine r_goto 21 rfl (by decide) ?_
        exact hq21 _ _ _ _ _ h
theorem s_X12_good_21 {d : Nat} {P : Int32 → Mem → Prop}   : ∀ (k : Nat) (r0 : Option Nat) (i1 : Int32) (i2 : Int32) (i3 : Int32) (M : Mem), FQ (f_X12_good_21  k r0 i1 i2 i3 M) P → wp Y_X12_good (rmD (d + 9) 0 0) (FM (QI P) 0 0) 0 0 21 [some (va_rf r0), some (.int i1), some (.int i2), some (.int i3)] [] M
  | 0, _, _, _, _, _, h => h.no
  | k + 1, r0, i1, i2, i3, M, h => sb_X12_good_21  (s_X12_good_21  k) r0 i1 i2 i3 M h
theorem s_X12_good {d : Nat} {P : Int32 → Mem → Prop} {r0 : Option Nat} {i1 : Int32} {M : Mem} (h : FQ (f_X12_good r0 i1 M) P) : Con Y_X12_good (d + 9) 0 0 [va_rf r0, .int i1] M (QI P) := by
  refine Con.of [some (va_rf r0), some (.int i1), none, none] (by decide +kernel) dk_X12_good (by simp [Y_X12_good, cat_rf, cat_i, cat_l]) (by simp [loE, Y_X12_good, cat_rf, cat_i, cat_l, List.replicate]) ?_
  unfold f_X12_good at h
  refine r_iload_n rfl rfl ?_
  refine r_iconst (v := -1) rfl (by decide) ?_
  refine r_ic_ge 7 rfl (by decide) h (fun h => ?_) (fun h => ?_)
  · refine r_aload_n rfl rfl ?_
    refine r_cv_i (vs := []) rfl ml_12_530 rfl (rOk.of rfl) ⟨Nat.zero_le _, Nat.zero_le _⟩ rfl rfl rfl h s_X12_laysResults (fun v1 M1 h => ?_)
    refine r_if_ne 17 rfl (by decide) h (fun h => ?_) (fun h => ?_)
    · refine r_bipush (v := -2) rfl (by decide) ?_
      exact r_iret rfl rfl ⟨Nat.le_of_ble_eq_true rfl, Nat.le_of_ble_eq_true rfl⟩ h
    · refine r_iconst (v := 0) rfl (by decide) ?_
      refine r_istore_n (lo' := [some (va_rf r0), some (.int i1), some (.int (0 : Int32)), none]) rfl rfl rfl rfl ?_
      refine r_iconst (v := 0) rfl (by decide) ?_
      refine r_istore_n (lo' := [some (va_rf r0), some (.int i1), some (.int (0 : Int32)), some (.int (0 : Int32))]) rfl rfl rfl rfl ?_
      exact s_X12_good_21 FU _ _ _ _ _ h
  · refine r_iconst (v := -1) rfl (by decide) ?_
    exact r_iret rfl rfl ⟨Nat.le_of_ble_eq_true rfl, Nat.le_of_ble_eq_true rfl⟩ h
set_option maxRecDepth 20000 in
theorem dk_X12_heap : ∀ pc i, L_X12_heap[pc]? = some (some i) → decode prog_14_method_7_code pc = .ok i := dk_of (by decide +kernel)
theorem s_X12_heap {d : Nat} {P : Int32 → Mem → Prop} {r0 : Option Nat} {i1 : Int32} {i2 : Int32} {M : Mem} (h : FQ (f_X12_heap r0 i1 i2 M) P) : Con Y_X12_heap (d + 2) 0 0 [va_rf r0, .int i1, .int i2] M (QI P) := by
  refine Con.of [some (va_rf r0), some (.int i1), some (.int i2)] (by decide +kernel) dk_X12_heap (by simp [Y_X12_heap, cat_rf, cat_i, cat_l]) (by simp [loE, Y_X12_heap, cat_rf, cat_i, cat_l, List.replicate]) ?_
  unfold f_X12_heap at h
  refine r_iload_n rfl rfl ?_
  refine r_cs_i (vs := [.int i1]) rfl ml_12_159 (rOk.of rfl) ⟨Nat.zero_le _, Nat.zero_le _⟩ rfl rfl rfl h s_X12_isMove (fun v1 M1 h => ?_)
  refine r_if_eq 16 rfl (by decide) h (fun h => ?_) (fun h => ?_)
  · refine r_iconst (v := 0) rfl (by decide) ?_
    exact r_zret rfl rfl ⟨Nat.le_of_ble_eq_true rfl, Nat.le_of_ble_eq_true rfl⟩ h
  · refine r_iload_n rfl rfl ?_
    refine r_iconst (v := 0) rfl (by decide) ?_
    refine r_iconst (v := 3) rfl (by decide) ?_
    refine r_cs_i (vs := [.int i2, .int (0 : Int32), .int (3 : Int32)]) rfl ml_12_151 (rOk.of rfl) ⟨Nat.zero_le _, Nat.zero_le _⟩ rfl rfl rfl h s_X12_in (fun v2 M2 h => ?_)
    refine r_if_ne 18 rfl (by decide) h (fun h => ?_) (fun h => ?_)
    · refine r_iconst (v := 0) rfl (by decide) ?_
      exact r_zret rfl rfl ⟨Nat.le_of_ble_eq_true rfl, Nat.le_of_ble_eq_true rfl⟩ h
    · refine r_aload_n rfl rfl ?_
      refine r_getR rfl fl_12_7 rfl h (fun v3 h => ?_)
      refine r_bipush (v := 10) rfl (by decide) ?_
      refine r_iload_n rfl rfl ?_
      refine r_iadd rfl ?_
      refine r_iload_n rfl rfl ?_
      refine r_iast rfl h (fun M3 h => ?_)
      refine r_iconst (v := 1) rfl (by decide) ?_
      exact r_zret rfl rfl ⟨Nat.le_of_ble_eq_true rfl, Nat.le_of_ble_eq_true rfl⟩ h
set_option maxRecDepth 20000 in
theorem dk_X12_image : ∀ pc i, L_X12_image[pc]? = some (some i) → decode prog_14_method_113_code pc = .ok i := dk_of (by decide +kernel)
theorem s_X12_image {d : Nat} {P : Int32 → Mem → Prop} {r0 : Option Nat} {M : Mem} (h : FQ (f_X12_image r0 M) P) : Con Y_X12_image (d + 2) 0 0 [va_rf r0] M (QI P) := by
  refine Con.of [some (va_rf r0)] (by decide +kernel) dk_X12_image (by simp [Y_X12_image, cat_rf, cat_i, cat_l]) (by simp [loE, Y_X12_image, cat_rf, cat_i, cat_l, List.replicate]) ?_
  unfold f_X12_image at h
  refine r_aload_n rfl rfl ?_
  refine r_iconst (v := 1) rfl (by decide) ?_
  refine r_cv_v (vs := [.int (1 : Int32)]) rfl ml_12_147 rfl (rOk.of rfl) ⟨Nat.zero_le _, Nat.zero_le _⟩ rfl rfl rfl h s_X12_copies (fun _ M1 h => ?_)
  refine r_aload_n rfl rfl ?_
  refine r_cv_i (vs := []) rfl ml_12_557 rfl (rOk.of rfl) ⟨Nat.zero_le _, Nat.zero_le _⟩ rfl rfl rfl h s_X12_pieces (fun v1 M2 h => ?_)
  exact r_iret rfl rfl ⟨Nat.le_of_ble_eq_true rfl, Nat.le_of_ble_eq_true rfl⟩ h
set_option maxRecDepth 20000 in
theorem dk_X12_init : ∀ pc i, L_X12_init[pc]? = some (some i) → decode prog_14_method_1_code pc = .ok i := dk_of (by decide +kernel)
theorem s_X12_init_384 {d : Nat} {P : Unit → Mem → Prop}   (r0 : Option Nat) (sr0 : Option Nat) (si1 : Int32) (M : Mem) (h : FQ (f_X12_init_384  r0 sr0 si1 M) P) : wp Y_X12_init (rmD (d + 1) 39 156000) (FM (QV P) 39 156000) 39 156000 384 [some (va_rf r0), none, none] [.int si1, va_rf sr0] M := by
  unfold f_X12_init_384 at h
  refine r_putI rfl fl_12_141 (fun _ => ⟨rfl, fun q hq => by cases hq; rfl⟩) rfl h (fun M1 h => ?_)
  refine r_aload_n rfl rfl ?_
  refine r_aload_n rfl rfl ?_
  refine r_getI rfl fl_12_138 rfl h (fun v1 h => ?_)
  refine r_aload_n rfl rfl ?_
  refine r_getI rfl fl_12_141 rfl h (fun v2 h => ?_)
  refine r_imul rfl ?_
  refine r_putI rfl fl_12_144 (fun _ => ⟨rfl, fun q hq => by cases hq; rfl⟩) rfl h (fun M2 h => ?_)
  refine r_aload_n rfl rfl ?_
  refine r_getR rfl fl_12_7 rfl h (fun v3 h => ?_)
  refine r_iconst (v := 2) rfl (by decide) ?_
  refine r_iconst (v := -1) rfl (by decide) ?_
  refine r_iast rfl h (fun M3 h => ?_)
  refine r_aload_n rfl rfl ?_
  refine r_getR rfl fl_12_7 rfl h (fun v4 h => ?_)
  refine r_iconst (v := 3) rfl (by decide) ?_
  refine r_iconst (v := -1) rfl (by decide) ?_
  refine r_iast rfl h (fun M4 h => ?_)
  refine r_aload_n rfl rfl ?_
  refine r_getR rfl fl_12_7 rfl h (fun v5 h => ?_)
  refine r_iconst (v := 4) rfl (by decide) ?_
  refine r_iconst (v := -1) rfl (by decide) ?_
  refine r_iast rfl h (fun M5 h => ?_)
  refine r_aload_n rfl rfl ?_
  refine r_iconst (v := 1) rfl (by decide) ?_
  refine r_cv_v (vs := [.int (1 : Int32)]) rfl ml_12_147 rfl (rOk.of rfl) ⟨Nat.le_of_ble_eq_true rfl, Nat.le_of_ble_eq_true rfl⟩ rfl rfl rfl h s_X12_copies (fun _ M6 h => ?_)
  exact r_vret rfl rfl ⟨Nat.le_of_ble_eq_true rfl, Nat.le_of_ble_eq_true rfl⟩ h
theorem s_X12_init_361 {d : Nat} {P : Unit → Mem → Prop}   (r0 : Option Nat) (i2 : Int32) (sr0 : Option Nat) (si1 : Int32) (M : Mem) (h : FQ (f_X12_init_361  r0 i2 sr0 si1 M) P) : wp Y_X12_init (rmD (d + 1) 39 156000) (FM (QV P) 39 156000) 39 156000 361 [some (va_rf r0), none, some (.int i2)] [.int si1, va_rf sr0] M := by
  unfold f_X12_init_361 at h
  refine r_putI rfl fl_12_138 (fun _ => ⟨rfl, fun q hq => by cases hq; rfl⟩) rfl h (fun M1 h => ?_)
  refine r_aload_n rfl rfl ?_
  refine r_iload_n rfl rfl ?_
  refine r_iconst (v := 1) rfl (by decide) ?_
  refine r_ic_ge 374 rfl (by decide) h (fun h => ?_) (fun h => ?_)
  · refine r_iload_n rfl rfl ?_
    refine r_iconst (v := 3) rfl (by decide) ?_
    refine r_ic_le 383 rfl (by decide) h (fun h => ?_) (fun h => ?_)
    · refine r_iload_n rfl rfl ?_
      refine r_msk [true, true, false] rfl ?_
      exact s_X12_init_384 _ _ _ _ h
    · refine r_iconst (v := 3) rfl (by decide) ?_
      refine r_goto 384 rfl (by decide) ?_
      refine r_msk [true, true, false] rfl ?_
      exact s_X12_init_384 _ _ _ _ h
  · refine r_iconst (v := 1) rfl (by decide) ?_
    refine r_goto 384 rfl (by decide) ?_
    refine r_msk [true, true, false] rfl ?_
    exact s_X12_init_384 _ _ _ _ h
theorem s_X12_init {d : Nat} {P : Unit → Mem → Prop} {r0 : Option Nat} {i1 : Int32} {i2 : Int32} {M : Mem} (h : FQ (f_X12_init r0 i1 i2 M) P) : Con Y_X12_init (d + 1) 39 156000 [va_rf r0, .int i1, .int i2] M (QV P) := by
  refine Con.of [some (va_rf r0), some (.int i1), some (.int i2)] (by decide +kernel) dk_X12_init (by simp [Y_X12_init, cat_rf, cat_i, cat_l]) (by simp [loE, Y_X12_init, cat_rf, cat_i, cat_l, List.replicate]) ?_
  unfold f_X12_init at h
  refine r_aload_n rfl rfl ?_
  refine r_obj rfl mk_12_1 ⟨by show 1 ≤ _ + 1; omega, by show 20 ≤ 64 * (_ + 1); omega⟩ rfl h (fun h => ?_)
  refine r_aload_n rfl rfl ?_
  refine r_sipush (v := 240) rfl (by decide) ?_
  refine r_newI 240 rfl (by decide) ⟨Nat.le_of_ble_eq_true rfl, Nat.le_of_ble_eq_true rfl⟩ h (fun v1 M1 h => ?_)
  refine r_putR rfl fl_12_7 (fun _ => ⟨rfl, fun q hq => by cases hq; rfl⟩) (Or.inr ⟨_, rfl⟩) h (fun M2 h => ?_)
  refine r_aload_n rfl rfl ?_
  refine r_sipush (v := 240) rfl (by decide) ?_
  refine r_newI 240 rfl (by decide) ⟨Nat.le_of_ble_eq_true rfl, Nat.le_of_ble_eq_true rfl⟩ h (fun v2 M3 h => ?_)
  refine r_putR rfl fl_12_13 (fun _ => ⟨rfl, fun q hq => by cases hq; rfl⟩) (Or.inr ⟨_, rfl⟩) h (fun M4 h => ?_)
  refine r_aload_n rfl rfl ?_
  refine r_sipush (v := 300) rfl (by decide) ?_
  refine r_newB 300 rfl (by decide) ⟨Nat.le_of_ble_eq_true rfl, Nat.le_of_ble_eq_true rfl⟩ h (fun v3 M5 h => ?_)
  refine r_putR rfl fl_12_16 (fun _ => ⟨rfl, fun q hq => by cases hq; rfl⟩) (Or.inr ⟨_, rfl⟩) h (fun M6 h => ?_)
  refine r_aload_n rfl rfl ?_
  refine r_iconst (v := -1) rfl (by decide) ?_
  refine r_putI rfl fl_12_20 (fun z => by cases z) rfl h (fun M7 h => ?_)
  refine r_aload_n rfl rfl ?_
  refine r_iconst (v := -1) rfl (by decide) ?_
  refine r_putI rfl fl_12_24 (fun z => by cases z) rfl h (fun M8 h => ?_)
  refine r_aload_n rfl rfl ?_
  refine r_bipush (v := 6) rfl (by decide) ?_
  refine r_newI 6 rfl (by decide) ⟨Nat.le_of_ble_eq_true rfl, Nat.le_of_ble_eq_true rfl⟩ h (fun v4 M9 h => ?_)
  refine r_putR rfl fl_12_27 (fun _ => ⟨rfl, fun q hq => by cases hq; rfl⟩) (Or.inr ⟨_, rfl⟩) h (fun M10 h => ?_)
  refine r_aload_n rfl rfl ?_
  refine r_bipush (v := 120) rfl (by decide) ?_
  refine r_newI 120 rfl (by decide) ⟨Nat.le_of_ble_eq_true rfl, Nat.le_of_ble_eq_true rfl⟩ h (fun v5 M11 h => ?_)
  refine r_putR rfl fl_12_30 (fun _ => ⟨rfl, fun q hq => by cases hq; rfl⟩) (Or.inr ⟨_, rfl⟩) h (fun M12 h => ?_)
  refine r_aload_n rfl rfl ?_
  refine r_bipush (v := 120) rfl (by decide) ?_
  refine r_newI 120 rfl (by decide) ⟨Nat.le_of_ble_eq_true rfl, Nat.le_of_ble_eq_true rfl⟩ h (fun v6 M13 h => ?_)
  refine r_putR rfl fl_12_33 (fun _ => ⟨rfl, fun q hq => by cases hq; rfl⟩) (Or.inr ⟨_, rfl⟩) h (fun M14 h => ?_)
  refine r_aload_n rfl rfl ?_
  refine r_bipush (v := 120) rfl (by decide) ?_
  refine r_newI 120 rfl (by decide) ⟨Nat.le_of_ble_eq_true rfl, Nat.le_of_ble_eq_true rfl⟩ h (fun v7 M15 h => ?_)
  refine r_putR rfl fl_12_36 (fun _ => ⟨rfl, fun q hq => by cases hq; rfl⟩) (Or.inr ⟨_, rfl⟩) h (fun M16 h => ?_)
  refine r_aload_n rfl rfl ?_
  refine r_bipush (v := 120) rfl (by decide) ?_
  refine r_newI 120 rfl (by decide) ⟨Nat.le_of_ble_eq_true rfl, Nat.le_of_ble_eq_true rfl⟩ h (fun v8 M17 h => ?_)
  refine r_putR rfl fl_12_39 (fun _ => ⟨rfl, fun q hq => by cases hq; rfl⟩) (Or.inr ⟨_, rfl⟩) h (fun M18 h => ?_)
  refine r_aload_n rfl rfl ?_
  refine r_bipush (v := 120) rfl (by decide) ?_
  refine r_newI 120 rfl (by decide) ⟨Nat.le_of_ble_eq_true rfl, Nat.le_of_ble_eq_true rfl⟩ h (fun v9 M19 h => ?_)
  refine r_putR rfl fl_12_42 (fun _ => ⟨rfl, fun q hq => by cases hq; rfl⟩) (Or.inr ⟨_, rfl⟩) h (fun M20 h => ?_)
  refine r_aload_n rfl rfl ?_
  refine r_bipush (v := 120) rfl (by decide) ?_
  refine r_newI 120 rfl (by decide) ⟨Nat.le_of_ble_eq_true rfl, Nat.le_of_ble_eq_true rfl⟩ h (fun v10 M21 h => ?_)
  refine r_putR rfl fl_12_45 (fun _ => ⟨rfl, fun q hq => by cases hq; rfl⟩) (Or.inr ⟨_, rfl⟩) h (fun M22 h => ?_)
  refine r_aload_n rfl rfl ?_
  refine r_sipush (v := 2400) rfl (by decide) ?_
  refine r_newI 2400 rfl (by decide) ⟨Nat.le_of_ble_eq_true rfl, Nat.le_of_ble_eq_true rfl⟩ h (fun v11 M23 h => ?_)
  refine r_putR rfl fl_12_48 (fun _ => ⟨rfl, fun q hq => by cases hq; rfl⟩) (Or.inr ⟨_, rfl⟩) h (fun M24 h => ?_)
  refine r_aload_n rfl rfl ?_
  refine r_sipush (v := 2400) rfl (by decide) ?_
  refine r_newI 2400 rfl (by decide) ⟨Nat.le_of_ble_eq_true rfl, Nat.le_of_ble_eq_true rfl⟩ h (fun v12 M25 h => ?_)
  refine r_putR rfl fl_12_51 (fun _ => ⟨rfl, fun q hq => by cases hq; rfl⟩) (Or.inr ⟨_, rfl⟩) h (fun M26 h => ?_)
  refine r_aload_n rfl rfl ?_
  refine r_bipush (v := 40) rfl (by decide) ?_
  refine r_newI 40 rfl (by decide) ⟨Nat.le_of_ble_eq_true rfl, Nat.le_of_ble_eq_true rfl⟩ h (fun v13 M27 h => ?_)
  refine r_putR rfl fl_12_54 (fun _ => ⟨rfl, fun q hq => by cases hq; rfl⟩) (Or.inr ⟨_, rfl⟩) h (fun M28 h => ?_)
  refine r_aload_n rfl rfl ?_
  refine r_bipush (v := 41) rfl (by decide) ?_
  refine r_newI 41 rfl (by decide) ⟨Nat.le_of_ble_eq_true rfl, Nat.le_of_ble_eq_true rfl⟩ h (fun v14 M29 h => ?_)
  refine r_putR rfl fl_12_57 (fun _ => ⟨rfl, fun q hq => by cases hq; rfl⟩) (Or.inr ⟨_, rfl⟩) h (fun M30 h => ?_)
  refine r_aload_n rfl rfl ?_
  refine r_bipush (v := 80) rfl (by decide) ?_
  refine r_newI 80 rfl (by decide) ⟨Nat.le_of_ble_eq_true rfl, Nat.le_of_ble_eq_true rfl⟩ h (fun v15 M31 h => ?_)
  refine r_putR rfl fl_12_60 (fun _ => ⟨rfl, fun q hq => by cases hq; rfl⟩) (Or.inr ⟨_, rfl⟩) h (fun M32 h => ?_)
  refine r_aload_n rfl rfl ?_
  refine r_bipush (v := 80) rfl (by decide) ?_
  refine r_newI 80 rfl (by decide) ⟨Nat.le_of_ble_eq_true rfl, Nat.le_of_ble_eq_true rfl⟩ h (fun v16 M33 h => ?_)
  refine r_putR rfl fl_12_63 (fun _ => ⟨rfl, fun q hq => by cases hq; rfl⟩) (Or.inr ⟨_, rfl⟩) h (fun M34 h => ?_)
  refine r_aload_n rfl rfl ?_
  refine r_bipush (v := 20) rfl (by decide) ?_
  refine r_newI 20 rfl (by decide) ⟨Nat.le_of_ble_eq_true rfl, Nat.le_of_ble_eq_true rfl⟩ h (fun v17 M35 h => ?_)
  refine r_putR rfl fl_12_66 (fun _ => ⟨rfl, fun q hq => by cases hq; rfl⟩) (Or.inr ⟨_, rfl⟩) h (fun M36 h => ?_)
  refine r_aload_n rfl rfl ?_
  refine r_bipush (v := 20) rfl (by decide) ?_
  refine r_newI 20 rfl (by decide) ⟨Nat.le_of_ble_eq_true rfl, Nat.le_of_ble_eq_true rfl⟩ h (fun v18 M37 h => ?_)
  refine r_putR rfl fl_12_69 (fun _ => ⟨rfl, fun q hq => by cases hq; rfl⟩) (Or.inr ⟨_, rfl⟩) h (fun M38 h => ?_)
  refine r_aload_n rfl rfl ?_
  refine r_bipush (v := 80) rfl (by decide) ?_
  refine r_newI 80 rfl (by decide) ⟨Nat.le_of_ble_eq_true rfl, Nat.le_of_ble_eq_true rfl⟩ h (fun v19 M39 h => ?_)
  refine r_putR rfl fl_12_72 (fun _ => ⟨rfl, fun q hq => by cases hq; rfl⟩) (Or.inr ⟨_, rfl⟩) h (fun M40 h => ?_)
  refine r_aload_n rfl rfl ?_
  refine r_sipush (v := 400) rfl (by decide) ?_
  refine r_newI 400 rfl (by decide) ⟨Nat.le_of_ble_eq_true rfl, Nat.le_of_ble_eq_true rfl⟩ h (fun v20 M41 h => ?_)
  refine r_putR rfl fl_12_75 (fun _ => ⟨rfl, fun q hq => by cases hq; rfl⟩) (Or.inr ⟨_, rfl⟩) h (fun M42 h => ?_)
  refine r_aload_n rfl rfl ?_
  refine r_sipush (v := 400) rfl (by decide) ?_
  refine r_newI 400 rfl (by decide) ⟨Nat.le_of_ble_eq_true rfl, Nat.le_of_ble_eq_true rfl⟩ h (fun v21 M43 h => ?_)
  refine r_putR rfl fl_12_78 (fun _ => ⟨rfl, fun q hq => by cases hq; rfl⟩) (Or.inr ⟨_, rfl⟩) h (fun M44 h => ?_)
  refine r_aload_n rfl rfl ?_
  refine r_bipush (v := 7) rfl (by decide) ?_
  refine r_newI 7 rfl (by decide) ⟨Nat.le_of_ble_eq_true rfl, Nat.le_of_ble_eq_true rfl⟩ h (fun v22 M45 h => ?_)
  refine r_putR rfl fl_12_81 (fun _ => ⟨rfl, fun q hq => by cases hq; rfl⟩) (Or.inr ⟨_, rfl⟩) h (fun M46 h => ?_)
  refine r_aload_n rfl rfl ?_
  refine r_sipush (v := 200) rfl (by decide) ?_
  refine r_newL 200 rfl (by decide) ⟨Nat.le_of_ble_eq_true rfl, Nat.le_of_ble_eq_true rfl⟩ h (fun v23 M47 h => ?_)
  refine r_putR rfl fl_12_84 (fun _ => ⟨rfl, fun q hq => by cases hq; rfl⟩) (Or.inr ⟨_, rfl⟩) h (fun M48 h => ?_)
  refine r_aload_n rfl rfl ?_
  refine r_bipush (v := 12) rfl (by decide) ?_
  refine r_newI 12 rfl (by decide) ⟨Nat.le_of_ble_eq_true rfl, Nat.le_of_ble_eq_true rfl⟩ h (fun v24 M49 h => ?_)
  refine r_putR rfl fl_12_88 (fun _ => ⟨rfl, fun q hq => by cases hq; rfl⟩) (Or.inr ⟨_, rfl⟩) h (fun M50 h => ?_)
  refine r_aload_n rfl rfl ?_
  refine r_bipush (v := 8) rfl (by decide) ?_
  refine r_newI 8 rfl (by decide) ⟨Nat.le_of_ble_eq_true rfl, Nat.le_of_ble_eq_true rfl⟩ h (fun v25 M51 h => ?_)
  refine r_putR rfl fl_12_91 (fun _ => ⟨rfl, fun q hq => by cases hq; rfl⟩) (Or.inr ⟨_, rfl⟩) h (fun M52 h => ?_)
  refine r_aload_n rfl rfl ?_
  refine r_bipush (v := 8) rfl (by decide) ?_
  refine r_newI 8 rfl (by decide) ⟨Nat.le_of_ble_eq_true rfl, Nat.le_of_ble_eq_true rfl⟩ h (fun v26 M53 h => ?_)
  refine r_putR rfl fl_12_94 (fun _ => ⟨rfl, fun q hq => by cases hq; rfl⟩) (Or.inr ⟨_, rfl⟩) h (fun M54 h => ?_)
  refine r_aload_n rfl rfl ?_
  refine r_bipush (v := 8) rfl (by decide) ?_
  refine r_newI 8 rfl (by decide) ⟨Nat.le_of_ble_eq_true rfl, Nat.le_of_ble_eq_true rfl⟩ h (fun v27 M55 h => ?_)
  refine r_putR rfl fl_12_97 (fun _ => ⟨rfl, fun q hq => by cases hq; rfl⟩) (Or.inr ⟨_, rfl⟩) h (fun M56 h => ?_)
  refine r_aload_n rfl rfl ?_
  refine r_bipush (v := 8) rfl (by decide) ?_
  refine r_newI 8 rfl (by decide) ⟨Nat.le_of_ble_eq_true rfl, Nat.le_of_ble_eq_true rfl⟩ h (fun v28 M57 h => ?_)
  refine r_putR rfl fl_12_100 (fun _ => ⟨rfl, fun q hq => by cases hq; rfl⟩) (Or.inr ⟨_, rfl⟩) h (fun M58 h => ?_)
  refine r_aload_n rfl rfl ?_
  refine r_bipush (v := 8) rfl (by decide) ?_
  refine r_newL 8 rfl (by decide) ⟨Nat.le_of_ble_eq_true rfl, Nat.le_of_ble_eq_true rfl⟩ h (fun v29 M59 h => ?_)
  refine r_putR rfl fl_12_103 (fun _ => ⟨rfl, fun q hq => by cases hq; rfl⟩) (Or.inr ⟨_, rfl⟩) h (fun M60 h => ?_)
  refine r_aload_n rfl rfl ?_
  refine r_bipush (v := 41) rfl (by decide) ?_
  refine r_newL 41 rfl (by decide) ⟨Nat.le_of_ble_eq_true rfl, Nat.le_of_ble_eq_true rfl⟩ h (fun v30 M61 h => ?_)
  refine r_putR rfl fl_12_106 (fun _ => ⟨rfl, fun q hq => by cases hq; rfl⟩) (Or.inr ⟨_, rfl⟩) h (fun M62 h => ?_)
  refine r_aload_n rfl rfl ?_
  refine r_bipush (v := 41) rfl (by decide) ?_
  refine r_newI 41 rfl (by decide) ⟨Nat.le_of_ble_eq_true rfl, Nat.le_of_ble_eq_true rfl⟩ h (fun v31 M63 h => ?_)
  refine r_putR rfl fl_12_109 (fun _ => ⟨rfl, fun q hq => by cases hq; rfl⟩) (Or.inr ⟨_, rfl⟩) h (fun M64 h => ?_)
  refine r_aload_n rfl rfl ?_
  refine r_sipush (v := 2000) rfl (by decide) ?_
  refine r_newL 2000 rfl (by decide) ⟨Nat.le_of_ble_eq_true rfl, Nat.le_of_ble_eq_true rfl⟩ h (fun v32 M65 h => ?_)
  refine r_putR rfl fl_12_112 (fun _ => ⟨rfl, fun q hq => by cases hq; rfl⟩) (Or.inr ⟨_, rfl⟩) h (fun M66 h => ?_)
  refine r_aload_n rfl rfl ?_
  refine r_sipush (v := 2000) rfl (by decide) ?_
  refine r_newI 2000 rfl (by decide) ⟨Nat.le_of_ble_eq_true rfl, Nat.le_of_ble_eq_true rfl⟩ h (fun v33 M67 h => ?_)
  refine r_putR rfl fl_12_115 (fun _ => ⟨rfl, fun q hq => by cases hq; rfl⟩) (Or.inr ⟨_, rfl⟩) h (fun M68 h => ?_)
  refine r_aload_n rfl rfl ?_
  refine r_ldc rfl kc_12_118 ?_
  refine r_newI 128000 rfl (by decide) ⟨Nat.le_of_ble_eq_true rfl, Nat.le_of_ble_eq_true rfl⟩ h (fun v34 M69 h => ?_)
  refine r_putR rfl fl_12_119 (fun _ => ⟨rfl, fun q hq => by cases hq; rfl⟩) (Or.inr ⟨_, rfl⟩) h (fun M70 h => ?_)
  refine r_aload_n rfl rfl ?_
  refine r_sipush (v := 2000) rfl (by decide) ?_
  refine r_newI 2000 rfl (by decide) ⟨Nat.le_of_ble_eq_true rfl, Nat.le_of_ble_eq_true rfl⟩ h (fun v35 M71 h => ?_)
  refine r_putR rfl fl_12_122 (fun _ => ⟨rfl, fun q hq => by cases hq; rfl⟩) (Or.inr ⟨_, rfl⟩) h (fun M72 h => ?_)
  refine r_aload_n rfl rfl ?_
  refine r_sipush (v := 2000) rfl (by decide) ?_
  refine r_newI 2000 rfl (by decide) ⟨Nat.le_of_ble_eq_true rfl, Nat.le_of_ble_eq_true rfl⟩ h (fun v36 M73 h => ?_)
  refine r_putR rfl fl_12_125 (fun _ => ⟨rfl, fun q hq => by cases hq; rfl⟩) (Or.inr ⟨_, rfl⟩) h (fun M74 h => ?_)
  refine r_aload_n rfl rfl ?_
  refine r_sipush (v := 8192) rfl (by decide) ?_
  refine r_newI 8192 rfl (by decide) ⟨Nat.le_of_ble_eq_true rfl, Nat.le_of_ble_eq_true rfl⟩ h (fun v37 M75 h => ?_)
  refine r_putR rfl fl_12_128 (fun _ => ⟨rfl, fun q hq => by cases hq; rfl⟩) (Or.inr ⟨_, rfl⟩) h (fun M76 h => ?_)
  refine r_aload_n rfl rfl ?_
  refine r_sipush (v := 2000) rfl (by decide) ?_
  refine r_newI 2000 rfl (by decide) ⟨Nat.le_of_ble_eq_true rfl, Nat.le_of_ble_eq_true rfl⟩ h (fun v38 M77 h => ?_)
  refine r_putR rfl fl_12_131 (fun _ => ⟨rfl, fun q hq => by cases hq; rfl⟩) (Or.inr ⟨_, rfl⟩) h (fun M78 h => ?_)
  refine r_aload_n rfl rfl ?_
  refine r_sipush (v := 2000) rfl (by decide) ?_
  refine r_newZ 2000 rfl (by decide) ⟨Nat.le_of_ble_eq_true rfl, Nat.le_of_ble_eq_true rfl⟩ h (fun v39 M79 h => ?_)
  refine r_putR rfl fl_12_134 (fun _ => ⟨rfl, fun q hq => by cases hq; rfl⟩) (Or.inr ⟨_, rfl⟩) h (fun M80 h => ?_)
  refine r_aload_n rfl rfl ?_
  refine r_iload_n rfl rfl ?_
  refine r_iconst (v := 2) rfl (by decide) ?_
  refine r_ic_ge 351 rfl (by decide) h (fun h => ?_) (fun h => ?_)
  · refine r_iload_n rfl rfl ?_
    refine r_iconst (v := 4) rfl (by decide) ?_
    refine r_ic_le 360 rfl (by decide) h (fun h => ?_) (fun h => ?_)
    · refine r_iload_n rfl rfl ?_
      refine r_msk [true, false, true] rfl ?_
      exact s_X12_init_361 _ _ _ _ _ h
    · refine r_iconst (v := 4) rfl (by decide) ?_
      refine r_goto 361 rfl (by decide) ?_
      refine r_msk [true, false, true] rfl ?_
      exact s_X12_init_361 _ _ _ _ _ h
  · refine r_iconst (v := 2) rfl (by decide) ?_
    refine r_goto 361 rfl (by decide) ?_
    refine r_msk [true, false, true] rfl ?_
    exact s_X12_init_361 _ _ _ _ _ h
set_option maxRecDepth 20000 in
theorem dk_X12_judge : ∀ pc i, L_X12_judge[pc]? = some (some i) → decode prog_14_method_83_code pc = .ok i := dk_of (by decide +kernel)
theorem s_X12_judge {d : Nat} {P : Int32 → Mem → Prop} {r0 : Option Nat} {M : Mem} (h : FQ (f_X12_judge r0 M) P) : Con Y_X12_judge (d + 8) 0 0 [va_rf r0] M (QI P) := by
  refine Con.of [some (va_rf r0)] (by decide +kernel) dk_X12_judge (by simp [Y_X12_judge, cat_rf, cat_i, cat_l]) (by simp [loE, Y_X12_judge, cat_rf, cat_i, cat_l, List.replicate]) ?_
  unfold f_X12_judge at h
  refine r_aload_n rfl rfl ?_
  refine r_cv_i (vs := []) rfl ml_12_474 rfl (rOk.of rfl) ⟨Nat.zero_le _, Nat.zero_le _⟩ rfl rfl rfl h s_X12_judges (fun v1 M1 h => ?_)
  exact r_iret rfl rfl ⟨Nat.le_of_ble_eq_true rfl, Nat.le_of_ble_eq_true rfl⟩ h
set_option maxRecDepth 20000 in
theorem dk_X12_partOf : ∀ pc i, L_X12_partOf[pc]? = some (some i) → decode prog_14_method_105_code pc = .ok i := dk_of (by decide +kernel)
theorem s_X12_partOf {d : Nat} {P : Int32 → Mem → Prop} {i0 : Int32} {i1 : Int32} {M : Mem} (h : FQ (f_X12_partOf i0 i1 M) P) : Con Y_X12_partOf d 0 0 [.int i0, .int i1] M (QI P) := by
  refine Con.of [some (.int i0), some (.int i1)] (by decide +kernel) dk_X12_partOf (by simp [Y_X12_partOf, cat_rf, cat_i, cat_l]) (by simp [loE, Y_X12_partOf, cat_rf, cat_i, cat_l, List.replicate]) ?_
  unfold f_X12_partOf at h
  refine r_iload_n rfl rfl ?_
  refine r_if_ne 11 rfl (by decide) h (fun h => ?_) (fun h => ?_)
  · refine r_iload_n rfl rfl ?_
    refine r_bipush (v := 64) rfl (by decide) ?_
    refine r_idiv rfl h (fun h => ?_)
    refine r_goto 30 rfl (by decide) ?_
    exact r_iret rfl rfl ⟨Nat.le_of_ble_eq_true rfl, Nat.le_of_ble_eq_true rfl⟩ h
  · refine r_iload_n rfl rfl ?_
    refine r_iconst (v := 1) rfl (by decide) ?_
    refine r_ic_ne 26 rfl (by decide) h (fun h => ?_) (fun h => ?_)
    · refine r_iload_n rfl rfl ?_
      refine r_bipush (v := 8) rfl (by decide) ?_
      refine r_idiv rfl h (fun h => ?_)
      refine r_bipush (v := 8) rfl (by decide) ?_
      refine r_irem rfl h (fun h => ?_)
      refine r_goto 30 rfl (by decide) ?_
      exact r_iret rfl rfl ⟨Nat.le_of_ble_eq_true rfl, Nat.le_of_ble_eq_true rfl⟩ h
    · refine r_iload_n rfl rfl ?_
      refine r_bipush (v := 8) rfl (by decide) ?_
      refine r_irem rfl h (fun h => ?_)
      exact r_iret rfl rfl ⟨Nat.le_of_ble_eq_true rfl, Nat.le_of_ble_eq_true rfl⟩ h
