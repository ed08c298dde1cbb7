/-! walked by program (wip/gen): X5_append X11_feed X10_asTold X0_pickGood X11_good X11_heap X11_image X0_init X10_init -/
def L_X5_append : List (Option (Instr × Nat)) := [some (.bipush 24, 2), none, some (.istore_n 2, 1), some (.iload_n 2, 1), some (.ifCond .lt 45, 3), none, none, some (.aload_n 0, 1), some (.getfield 15, 3), none, none, some (.sipush 300, 3), none, none, some (.if_icmp .ge 35, 3), none, none, some (.aload_n 0, 1), some (.getfield 9, 3), none, none, some (.aload_n 0, 1), some (.getfield 15, 3), none, none, some (.iload_n 1, 1), some (.iload_n 2, 1), some (.iushr, 1), some (.sipush 255, 3), none, none, some (.iand, 1), some (.iastore, 1), some (.aload_n 0, 1), some (.dup, 1), some (.getfield 15, 3), none, none, some (.iconst 1, 1), some (.iadd, 1), some (.putfield 15, 3), none, none, some (.iinc 2 (-8), 3), none, none, some (.goto (-43), 3), none, none, some (.return_, 1)]
def Y_X5_append : YM := (⟨RX5, "append", "(I)V"⟩, prog_7_method_2_code, L_X5_append, 3, none)
def b_X5_append_3 (q3 : Option Nat → Int32 → Int32 → Mem → Option (Unit × Mem)) (r0 : Option Nat) (i1 : Int32) (i2 : Int32) (M : Mem) : Option (Unit × Mem) :=
(if i2 < 0 then
some ((), M)
else
gI M r0 5 1 fun v1 =>
(if (300 : Int32) ≤ v1 then
some ((), M)
else
gR M r0 5 0 fun v2 =>
gI M r0 5 1 fun v3 =>
wI M v2 2 v3 ((i1.toUInt32 >>> (i2.toUInt32 &&& Int32.toUInt32 31)).toInt32 &&& (255 : Int32)) fun M1 =>
gI M1 r0 5 1 fun v4 =>
pI M1 r0 5 1 (v4 + (1 : Int32)) fun M2 =>
q3 r0 i1 (i2 + (-8 : Int32)) M2))
def f_X5_append_3 (n : Nat) : Option Nat → Int32 → Int32 → Mem → Option (Unit × Mem) := lpN (fun _ _ _ _ => none) (b_X5_append_3 ) n
def f_X5_append (r0 : Option Nat) (i1 : Int32) (M : Mem) : Option (Unit × Mem) :=
f_X5_append_3 FU r0 i1 (24 : Int32) M
def L_X11_feed : List (Option (Instr × Nat)) := [some (.aload_n 0, 1), some (.getfield 33, 3), none, none, some (.getfield 134, 3), none, none, some (.bipush 20, 2), none, some (.iadd, 1), some (.sipush 300, 3), none, none, some (.if_icmp .le 5, 3), none, none, some (.iconst (-1), 1), some (.ireturn, 1), some (.aload_n 0, 1), some (.getfield 33, 3), none, none, some (.iload_n 1, 1), some (.invokevirtual 137, 3), none, none, some (.aload_n 0, 1), some (.getfield 33, 3), none, none, some (.iload_n 2, 1), some (.invokevirtual 137, 3), none, none, some (.aload_n 0, 1), some (.getfield 33, 3), none, none, some (.iload_n 3, 1), some (.invokevirtual 137, 3), none, none, some (.aload_n 0, 1), some (.getfield 33, 3), none, none, some (.iload 4, 2), none, some (.invokevirtual 137, 3), none, none, some (.aload_n 0, 1), some (.getfield 33, 3), none, none, some (.iload 5, 2), none, some (.invokevirtual 137, 3), none, none, some (.aload_n 0, 1), some (.getfield 33, 3), none, none, some (.getfield 134, 3), none, none, some (.ireturn, 1)]
def Y_X11_feed : YM := (⟨RX11, "feed", "(IIIII)I"⟩, prog_1_method_5_code, L_X11_feed, 6, some .int)
def f_X11_feed (r0 : Option Nat) (i1 : Int32) (i2 : Int32) (i3 : Int32) (i4 : Int32) (i5 : Int32) (M : Mem) : Option (Int32 × Mem) :=
gR M r0 11 6 fun v1 =>
gI M v1 5 1 fun v2 =>
(if (v2 + (20 : Int32)) ≤ (300 : Int32) then
gR M r0 11 6 fun v3 =>
cR M v3 (1, 5) (cA (f_X5_append v3 i1 M) fun _ M1 =>
gR M1 r0 11 6 fun v4 =>
cR M1 v4 (1, 5) (cA (f_X5_append v4 i2 M1) fun _ M2 =>
gR M2 r0 11 6 fun v5 =>
cR M2 v5 (1, 5) (cA (f_X5_append v5 i3 M2) fun _ M3 =>
gR M3 r0 11 6 fun v6 =>
cR M3 v6 (1, 5) (cA (f_X5_append v6 i4 M3) fun _ M4 =>
gR M4 r0 11 6 fun v7 =>
cR M4 v7 (1, 5) (cA (f_X5_append v7 i5 M4) fun _ M5 =>
gR M5 r0 11 6 fun v8 =>
gI M5 v8 5 1 fun v9 =>
some (v9, M5))))))
else
some ((-1 : Int32), M))
def L_X10_asTold : List (Option (Instr × Nat)) := [some (.iload_n 0, 1), some (.ifCond .ne 7, 3), none, none, some (.iconst (-1), 1), some (.goto 26, 3), none, none, some (.bipush 100, 2), none, some (.iload_n 0, 1), some (.iconst 0, 1), some (.invokestatic 26, 3), none, none, some (.imul, 1), some (.bipush 10, 2), none, some (.iload_n 0, 1), some (.iconst 1, 1), some (.invokestatic 26, 3), none, none, some (.imul, 1), some (.iadd, 1), some (.iload_n 0, 1), some (.iconst 2, 1), some (.invokestatic 26, 3), none, none, some (.iadd, 1), some (.ireturn, 1)]
def Y_X10_asTold : YM := (⟨RX10, "asTold", "(I)I"⟩, prog_12_method_6_code, L_X10_asTold, 1, some .int)
def f_X10_asTold (i0 : Int32) (M : Mem) : Option (Int32 × Mem) :=
(if i0 = 0 then
some ((-1 : Int32), M)
else
cA (f_X10_member i0 (0 : Int32) M) fun v1 M1 =>
cA (f_X10_member i0 (1 : Int32) M1) fun v2 M2 =>
cA (f_X10_member i0 (2 : Int32) M2) fun v3 M3 =>
some (((((100 : Int32) * v1) + ((10 : Int32) * v2)) + v3), M3))
def L_X0_pickGood : List (Option (Instr × Nat)) := [some (.iconst 0, 1), some (.istore_n 2, 1), some (.iconst 0, 1), some (.istore_n 3, 1), some (.iload_n 3, 1), some (.bipush 56, 2), none, some (.if_icmp .ge 63, 3), none, none, some (.aload_n 0, 1), some (.getfield 46, 3), none, none, some (.getfield 83, 3), none, none, some (.iload_n 3, 1), some (.iaload, 1), some (.istore 4, 2), none, some (.iload 4, 2), none, some (.aload_n 0, 1), some (.getfield 42, 3), none, none, some (.getfield 60, 3), none, none, some (.iconst 0, 1), some (.iaload, 1), some (.iand, 1), some (.iload 4, 2), none, some (.if_icmp .ne 29, 3), none, none, some (.aload_n 0, 1), some (.iconst 0, 1), some (.iload 4, 2), none, some (.invokevirtual 86, 3), none, none, some (.iload 4, 2), none, some (.if_icmp .ne 17, 3), none, none, some (.iload_n 2, 1), some (.iload_n 1, 1), some (.if_icmp .ne 9, 3), none, none, some (.iload 4, 2), none, some (.invokestatic 94, 3), none, none, some (.ireturn, 1), some (.iinc 2 1, 3), none, none, some (.iinc 3 1, 3), none, none, some (.goto (-63), 3), none, none, some (.iload_n 1, 1), some (.iconst (-1), 1), some (.if_icmp .ne 7, 3), none, none, some (.iload_n 2, 1), some (.goto 4, 3), none, none, some (.iconst (-1), 1), some (.ireturn, 1)]
def Y_X0_pickGood : YM := (⟨RX0, "pickGood", "(I)I"⟩, prog_2_method_10_code, L_X0_pickGood, 5, some .int)
def b_X0_pickGood_4 (q4 : Option Nat → Int32 → Int32 → Int32 → Mem → Option (Int32 × Mem)) (r0 : Option Nat) (i1 : Int32) (i2 : Int32) (i3 : Int32) (M : Mem) : Option (Int32 × Mem) :=
(if (56 : Int32) ≤ i3 then
(if i1 = (-1 : Int32) then
some (i2, M)
else
some ((-1 : Int32), M))
else
gR M r0 0 3 fun v1 =>
gR M v1 10 0 fun v2 =>
aI M v2 2 i3 fun v3 =>
gR M r0 0 2 fun v4 =>
gR M v4 8 0 fun v5 =>
aI M v5 2 (0 : Int32) fun v6 =>
(if (v3 &&& v6) = v3 then
cR M r0 (1, 0) (cA (f_X0_losingNoes r0 (0 : Int32) v3 M) fun v7 M1 =>
(if v7 = v3 then
(if i2 = i1 then
cA (f_X10_asTold v3 M1) fun v8 M2 =>
some (v8, M2)
else
q4 r0 i1 (i2 + (1 : Int32)) (i3 + (1 : Int32)) M1)
else
q4 r0 i1 i2 (i3 + (1 : Int32)) M1))
else
q4 r0 i1 i2 (i3 + (1 : Int32)) M))
def f_X0_pickGood_4 (n : Nat) : Option Nat → Int32 → Int32 → Int32 → Mem → Option (Int32 × Mem) := lpN (fun _ _ _ _ _ => none) (b_X0_pickGood_4 ) n
def f_X0_pickGood (r0 : Option Nat) (i1 : Int32) (M : Mem) : Option (Int32 × Mem) :=
f_X0_pickGood_4 FU r0 i1 (0 : Int32) (0 : Int32) M
def L_X11_good : List (Option (Instr × Nat)) := [some (.iload_n 1, 1), some (.iconst (-1), 1), some (.if_icmp .ge 5, 3), none, none, some (.iconst (-1), 1), some (.ireturn, 1), some (.aload_n 0, 1), some (.aload_n 0, 1), some (.getfield 10, 3), none, none, some (.getfield 114, 3), none, none, some (.invokevirtual 230, 3), none, none, some (.ifCond .eq 14, 3), none, none, some (.aload_n 0, 1), some (.getfield 110, 3), none, none, some (.iload_n 1, 1), some (.invokevirtual 242, 3), none, none, some (.goto 5, 3), none, none, some (.bipush (-2), 2), none, some (.ireturn, 1)]
def Y_X11_good : YM := (⟨RX11, "good", "(I)I"⟩, prog_1_method_23_code, L_X11_good, 2, some .int)
def f_X11_good (r0 : Option Nat) (i1 : Int32) (M : Mem) : Option (Int32 × Mem) :=
(if (-1 : Int32) ≤ i1 then
gR M r0 11 2 fun v1 =>
gR M v1 7 0 fun v2 =>
cR M r0 (1, 11) (cA (f_X11_solved r0 v2 M) fun v3 M1 =>
(if v3 = 0 then
some ((-2 : Int32), M1)
else
gR M1 r0 11 11 fun v4 =>
cR M1 v4 (1, 0) (cA (f_X0_pickGood v4 i1 M1) fun v5 M2 =>
some (v5, M2))))
else
some ((-1 : Int32), M))
def L_X11_heap : List (Option (Instr × Nat)) := [some (.iload_n 1, 1), some (.invokestatic 125, 3), none, none, some (.ifCond .eq 12, 3), none, none, some (.iload_n 2, 1), some (.ifCond .lt 8, 3), none, none, some (.iload_n 2, 1), some (.iconst 3, 1), some (.if_icmp .le 5, 3), none, none, some (.iconst 0, 1), some (.ireturn, 1), some (.aload_n 0, 1), some (.getfield 10, 3), none, none, some (.getfield 114, 3), none, none, some (.iload_n 1, 1), some (.iload_n 2, 1), some (.invokevirtual 128, 3), none, none, some (.iconst 1, 1), some (.ireturn, 1)]
def Y_X11_heap : YM := (⟨RX11, "heap", "(II)Z"⟩, prog_1_method_3_code, L_X11_heap, 3, some .boolean)
def f_X11_heap (r0 : Option Nat) (i1 : Int32) (i2 : Int32) (M : Mem) : Option (Int32 × Mem) :=
cA (f_X11_isMove i1 M) fun v1 M1 =>
(if v1 = 0 then
tv (0 : Int32) (some ((0 : Int32), M1))
else
(if i2 < 0 then
tv (0 : Int32) (some ((0 : Int32), M1))
else
(if i2 ≤ (3 : Int32) then
gR M1 r0 11 2 fun v2 =>
gR M1 v2 7 0 fun v3 =>
cR M1 v3 (1, 4) (cA (f_X4_setCount v3 i1 i2 M1) fun _ M2 =>
tv (1 : Int32) (some ((1 : Int32), M2)))
else
tv (0 : Int32) (some ((0 : Int32), M1)))))
def L_X11_image : List (Option (Instr × Nat)) := [some (.aload_n 0, 1), some (.getfield 16, 3), none, none, some (.aload_n 0, 1), some (.getfield 10, 3), none, none, some (.invokevirtual 259, 3), none, none, some (.aload_n 0, 1), some (.invokevirtual 262, 3), none, none, some (.ireturn, 1)]
def Y_X11_image : YM := (⟨RX11, "image", "()I"⟩, prog_1_method_28_code, L_X11_image, 1, some .int)
def f_X11_image (r0 : Option Nat) (M : Mem) : Option (Int32 × Mem) :=
gR M r0 11 3 fun v1 =>
gR M r0 11 2 fun v2 =>
cR M v1 (1, 7) (cA (f_X7_take v1 v2 M) fun _ M1 =>
cR M1 r0 (1, 11) (cA (f_X11_piecesNow r0 M1) fun v3 M2 =>
some (v3, M2)))
def L_X0_init : List (Option (Instr × Nat)) := [some (.aload_n 0, 1), some (.invokespecial 3, 3), none, none, some (.aload_n 0, 1), some (.sipush 2000, 3), none, none, some (.newarray .int, 2), none, some (.putfield 11, 3), none, none, some (.aload_n 0, 1), some (.sipush 2000, 3), none, none, some (.newarray .int, 2), none, some (.putfield 17, 3), none, none, some (.aload_n 0, 1), some (.sipush 16000, 3), none, none, some (.newarray .int, 2), none, some (.putfield 20, 3), none, none, some (.aload_n 0, 1), some (.sipush 16000, 3), none, none, some (.newarray .int, 2), none, some (.putfield 23, 3), none, none, some (.aload_n 0, 1), some (.sipush 2000, 3), none, none, some (.newarray .int, 2), none, some (.putfield 26, 3), none, none, some (.aload_n 0, 1), some (.ldc 29, 2), none, some (.newarray .int, 2), none, some (.putfield 30, 3), none, none, some (.aload_n 0, 1), some (.sipush 2000, 3), none, none, some (.newarray .int, 2), none, some (.putfield 33, 3), none, none, some (.aload_n 0, 1), some (.sipush 2000, 3), none, none, some (.newarray .int, 2), none, some (.putfield 36, 3), none, none, some (.aload_n 0, 1), some (.sipush 2000, 3), none, none, some (.newarray .int, 2), none, some (.putfield 39, 3), none, none, some (.aload_n 0, 1), some (.aload_n 1, 1), some (.putfield 42, 3), none, none, some (.aload_n 0, 1), some (.aload_n 2, 1), some (.putfield 46, 3), none, none, some (.aload_n 0, 1), some (.iconst 0, 1), some (.putfield 50, 3), none, none, some (.aload_n 0, 1), some (.iconst 0, 1), some (.putfield 54, 3), none, none, some (.return_, 1)]
def Y_X0_init : YM := (⟨RX0, "<init>", "(LGameOfNoes$States;LGameOfNoes$Triples;)V"⟩, prog_2_method_1_code, L_X0_init, 3, none)
def f_X0_init (r0 : Option Nat) (r1 : Option Nat) (r2 : Option Nat) (M : Mem) : Option (Unit × Mem) :=
cN r0 (fun _ =>
nA M 2 (2000 : Int32) 2000 fun v1 M1 =>
pR M1 r0 0 0 v1 fun M2 =>
nA M2 2 (2000 : Int32) 2000 fun v2 M3 =>
pR M3 r0 0 1 v2 fun M4 =>
nA M4 2 (16000 : Int32) 16000 fun v3 M5 =>
pR M5 r0 0 4 v3 fun M6 =>
nA M6 2 (16000 : Int32) 16000 fun v4 M7 =>
pR M7 r0 0 5 v4 fun M8 =>
nA M8 2 (2000 : Int32) 2000 fun v5 M9 =>
pR M9 r0 0 6 v5 fun M10 =>
nA M10 2 (128000 : Int32) 128000 fun v6 M11 =>
pR M11 r0 0 7 v6 fun M12 =>
nA M12 2 (2000 : Int32) 2000 fun v7 M13 =>
pR M13 r0 0 8 v7 fun M14 =>
nA M14 2 (2000 : Int32) 2000 fun v8 M15 =>
pR M15 r0 0 9 v8 fun M16 =>
nA M16 2 (2000 : Int32) 2000 fun v9 M17 =>
pR M17 r0 0 10 v9 fun M18 =>
pR M18 r0 0 2 r1 fun M19 =>
pR M19 r0 0 3 r2 fun M20 =>
pI M20 r0 0 11 (0 : Int32) fun M21 =>
pI M21 r0 0 12 (0 : Int32) fun M22 =>
some ((), M22))
def L_X10_init : List (Option (Instr × Nat)) := [some (.aload_n 0, 1), some (.invokespecial 3, 3), none, none, some (.aload_n 0, 1), some (.bipush 56, 2), none, some (.newarray .int, 2), none, some (.putfield 11, 3), none, none, some (.iconst 0, 1), some (.istore_n 1, 1), some (.iconst 0, 1), some (.istore_n 2, 1), some (.iload_n 2, 1), some (.bipush 8, 2), none, some (.if_icmp .ge 70, 3), none, none, some (.iload_n 2, 1), some (.iconst 1, 1), some (.iadd, 1), some (.istore_n 3, 1), some (.iload_n 3, 1), some (.bipush 8, 2), none, some (.if_icmp .ge 54, 3), none, none, some (.iload_n 3, 1), some (.iconst 1, 1), some (.iadd, 1), some (.istore 4, 2), none, some (.iload 4, 2), none, some (.bipush 8, 2), none, some (.if_icmp .ge 36, 3), none, none, some (.iload_n 1, 1), some (.bipush 56, 2), none, some (.if_icmp .ge 24, 3), none, none, some (.aload_n 0, 1), some (.getfield 11, 3), none, none, some (.iload_n 1, 1), some (.iconst 1, 1), some (.iload_n 2, 1), some (.ishl, 1), some (.iconst 1, 1), some (.iload_n 3, 1), some (.ishl, 1), some (.ior, 1), some (.iconst 1, 1), some (.iload 4, 2), none, some (.ishl, 1), some (.ior, 1), some (.iastore, 1), some (.iinc 1 1, 3), none, none, some (.iinc 4 1, 3), none, none, some (.goto (-37), 3), none, none, some (.iinc 3 1, 3), none, none, some (.goto (-54), 3), none, none, some (.iinc 2 1, 3), none, none, some (.goto (-70), 3), none, none, some (.return_, 1)]
def Y_X10_init : YM := (⟨RX10, "<init>", "()V"⟩, prog_12_method_1_code, L_X10_init, 5, none)
def b_X10_init_37 (q16 : Option Nat → Int32 → Int32 → Mem → Option (Unit × Mem)) (q26 : Option Nat → Int32 → Int32 → Int32 → Mem → Option (Unit × Mem)) (q37 : Option Nat → Int32 → Int32 → Int32 → Int32 → Mem → Option (Unit × Mem)) (r0 : Option Nat) (i1 : Int32) (i2 : Int32) (i3 : Int32) (i4 : Int32) (M : Mem) : Option (Unit × Mem) :=
(if (8 : Int32) ≤ i4 then
q26 r0 i1 i2 (i3 + (1 : Int32)) M
else
(if (56 : Int32) ≤ i1 then
q37 r0 i1 i2 i3 (i4 + (1 : Int32)) M
else
gR M r0 10 0 fun v1 =>
wI M v1 2 i1 ((((1 : Int32) <<< (i2 &&& 31)) ||| ((1 : Int32) <<< (i3 &&& 31))) ||| ((1 : Int32) <<< (i4 &&& 31))) fun M1 =>
q37 r0 (i1 + (1 : Int32)) i2 i3 (i4 + (1 : Int32)) M1))
def f_X10_init_37 (q16 : Option Nat → Int32 → Int32 → Mem → Option (Unit × Mem)) (q26 : Option Nat → Int32 → Int32 → Int32 → Mem → Option (Unit × Mem)) (n : Nat) : Option Nat → Int32 → Int32 → Int32 → Int32 → Mem → Option (Unit × Mem) := lpN (fun _ _ _ _ _ _ => none) (b_X10_init_37 q16 q26) n
def b_X10_init_26 (q16 : Option Nat → Int32 → Int32 → Mem → Option (Unit × Mem)) (q26 : Option Nat → Int32 → Int32 → Int32 → Mem → Option (Unit × Mem)) (r0 : Option Nat) (i1 : Int32) (i2 : Int32) (i3 : Int32) (M : Mem) : Option (Unit × Mem) :=
(if (8 : Int32) ≤ i3 then
q16 r0 i1 (i2 + (1 : Int32)) M
else
f_X10_init_37 q16 q26 FU r0 i1 i2 i3 (i3 + (1 : Int32)) M)
def f_X10_init_26 (q16 : Option Nat → Int32 → Int32 → Mem → Option (Unit × Mem)) (n : Nat) : Option Nat → Int32 → Int32 → Int32 → Mem → Option (Unit × Mem) := lpN (fun _ _ _ _ _ => none) (b_X10_init_26 q16) n
def b_X10_init_16 (q16 : Option Nat → Int32 → Int32 → Mem → Option (Unit × Mem)) (r0 : Option Nat) (i1 : Int32) (i2 : Int32) (M : Mem) : Option (Unit × Mem) :=
(if (8 : Int32) ≤ i2 then
some ((), M)
else
f_X10_init_26 q16 FU r0 i1 i2 (i2 + (1 : Int32)) M)
def f_X10_init_16 (n : Nat) : Option Nat → Int32 → Int32 → Mem → Option (Unit × Mem) := lpN (fun _ _ _ _ => none) (b_X10_init_16 ) n
def f_X10_init (r0 : Option Nat) (M : Mem) : Option (Unit × Mem) :=
cN r0 (fun _ =>
nA M 2 (56 : Int32) 56 fun v1 M1 =>
pR M1 r0 10 0 v1 fun M2 =>
f_X10_init_16 FU r0 (0 : Int32) (0 : Int32) M2)
theorem fl_5_15 : FLk RX5 15 5 1 false := ⟨_, rfl, by decide, (gw_in 171 (by decide +kernel) (by decide +kernel)), rfl⟩
theorem fl_5_9 : FLk RX5 9 5 0 true := ⟨_, rfl, by decide, (gw_in 170 (by decide +kernel) (by decide +kernel)), rfl⟩
set_option maxRecDepth 30000 in
theorem ok_X5_append : okY Y_X5_append := ⟨(gw_in 485 rfl rfl), (gw_in 6 (by decide +kernel) (by decide +kernel)), by decide +kernel, by decide +kernel⟩
theorem ml_11_137 : MLv RX11 137 Y_X5_append 1 := ⟨(gw_in 482 (by decide +kernel) (by decide +kernel)), (gw_in 483 (by decide +kernel) (by decide +kernel)), (gw_in 484 (by decide +kernel) (by decide +kernel)), ok_X5_append, by decide +kernel⟩
theorem ml_10_26 : MLs RX10 26 Y_X10_member 2 := ⟨(gw_in 794 (by decide +kernel) (by decide +kernel)), (gw_in 795 (by decide +kernel) (by decide +kernel)), ok_X10_member, by decide +kernel⟩
set_option maxRecDepth 30000 in
theorem ok_X10_asTold : okY Y_X10_asTold := ⟨(gw_in 793 rfl rfl), (gw_in 7 (by decide +kernel) (by decide +kernel)), by decide +kernel, by decide +kernel⟩
theorem ml_0_94 : MLs RX0 94 Y_X10_asTold 1 := ⟨(gw_in 1020 (by decide +kernel) (by decide +kernel)), (gw_in 792 (by decide +kernel) (by decide +kernel)), ok_X10_asTold, by decide +kernel⟩
set_option maxRecDepth 30000 in
theorem ok_X0_pickGood : okY Y_X0_pickGood := ⟨(gw_in 1019 rfl rfl), (gw_in 13 (by decide +kernel) (by decide +kernel)), by decide +kernel, by decide +kernel⟩
theorem ml_11_242 : MLv RX11 242 Y_X0_pickGood 1 := ⟨(gw_in 1016 (by decide +kernel) (by decide +kernel)), (gw_in 1017 (by decide +kernel) (by decide +kernel)), (gw_in 1018 (by decide +kernel) (by decide +kernel)), ok_X0_pickGood, by decide +kernel⟩
theorem mk_0_3 : Jvm.Cond.methodLink RX0 3 Lib.objectInit ∈ gw := gw_in 357 (by decide +kernel) (by decide +kernel)
theorem kc_0_29 : Jvm.Cond.constant RX0 29 (128000) ∈ gw := gw_in 358 (by decide +kernel) (by decide +kernel)
theorem mk_10_3 : Jvm.Cond.methodLink RX10 3 Lib.objectInit ∈ gw := gw_in 206 (by decide +kernel) (by decide +kernel)
set_option maxRecDepth 20000 in
theorem dk_X5_append : ∀ pc i, L_X5_append[pc]? = some (some i) → decode prog_7_method_2_code pc = .ok i := dk_of (by decide +kernel)
theorem sb_X5_append_3 {d : Nat} {P : Unit → Mem → Prop} {q3 : Option Nat → Int32 → Int32 → Mem → Option (Unit × Mem)} (hq3 : ∀ (r0 : Option Nat) (i1 : Int32) (i2 : Int32) (M : Mem), FQ (q3 r0 i1 i2 M) P → wp Y_X5_append (rmD d 0 0) (FM (QV P) 0 0) 0 0 3 [some (va_rf r0), some (.int i1), some (.int i2)] [] M) (r0 : Option Nat) (i1 : Int32) (i2 : Int32) (M : Mem) (h : FQ (b_X5_append_3 q3 r0 i1 i2 M) P) : wp Y_X5_append (rmD d 0 0) (FM (QV P) 0 0) 0 0 3 [some (va_rf r0), some (.int i1), some (.int i2)] [] M := by
  unfold b_X5_append_3 at h
  refine r_iload_n rfl rfl ?_
  refine r_if_lt 49 rfl (by decide) h (fun h => ?_) (fun h => ?_)
  · exact r_vret rfl rfl ⟨Nat.le_of_ble_eq_true rfl, Nat.le_of_ble_eq_true rfl⟩ h
  · refine r_aload_n rfl rfl ?_
    refine r_getI rfl fl_5_15 rfl h (fun v1 h => ?_)
    refine r_sipush (v := 300) rfl (by decide) ?_
    refine r_ic_ge 49 rfl (by decide) h (fun h => ?_) (fun h => ?_)
    · exact r_vret rfl rfl ⟨Nat.le_of_ble_eq_true rfl, Nat.le_of_ble_eq_true rfl⟩ h
    · refine r_aload_n rfl rfl ?_
      refine r_getR rfl fl_5_9 rfl h (fun v2 h => ?_)
      refine r_aload_n rfl rfl ?_
      refine r_getI rfl fl_5_15 rfl h (fun v3 h => ?_)
      refine r_iload_n rfl rfl ?_
      refine r_iload_n rfl rfl ?_
      refine r_iushr rfl ?_
      refine r_sipush (v := 255) rfl (by decide) ?_
      refine r_iand rfl ?_
      refine r_iast rfl h (fun M1 h => ?_)
      refine r_aload_n rfl rfl ?_
      refine r_dup rfl (cat_rf _) ?_
      refine r_getI rfl fl_5_15 rfl h (fun v4 h => ?_)
      refine r_iconst (v := 1) rfl (by decide) ?_
      refine r_iadd rfl ?_
      refine r_putI rfl fl_5_15 (fun z => by cases z) rfl h (fun M2 h => ?_)
      refine r_iinc (v := -8) (lo' := [some (va_rf r0), some (.int i1), some (.int (i2 + (-8 : Int32)))]) rfl rfl rfl (by decide) rfl rfl ?_
      refine r_goto 3 rfl (by decide) ?_
      exact hq3 _ _ _ _ h
theorem s_X5_append_3 {d : Nat} {P : Unit → Mem → Prop}   : ∀ (k : Nat) (r0 : Option Nat) (i1 : Int32) (i2 : Int32) (M : Mem), FQ (f_X5_append_3  k r0 i1 i2 M) P → wp Y_X5_append (rmD d 0 0) (FM (QV P) 0 0) 0 0 3 [some (va_rf r0), some (.int i1), some (.int i2)] [] M
  | 0, _, _, _, _, h => h.no
  | k + 1, r0, i1, i2, M, h => sb_X5_append_3  (s_X5_append_3  k) r0 i1 i2 M h
theorem s_X5_append {d : Nat} {P : Unit → Mem → Prop} {r0 : Option Nat} {i1 : Int32} {M : Mem} (h : FQ (f_X5_append r0 i1 M) P) : Con Y_X5_append d 0 0 [va_rf r0, .int i1] M (QV P) := by
  refine Con.of [some (va_rf r0), some (.int i1), none] (by decide +kernel) dk_X5_append (by simp [Y_X5_append, cat_rf, cat_i, cat_l]) (by simp [loE, Y_X5_append, cat_rf, cat_i, cat_l, List.replicate]) ?_
  unfold f_X5_append at h
  refine r_bipush (v := 24) rfl (by decide) ?_
  refine r_istore_n (lo' := [some (va_rf r0), some (.int i1), some (.int (24 : Int32))]) rfl rfl rfl rfl ?_
  exact s_X5_append_3 FU _ _ _ _ h
set_option maxRecDepth 20000 in
theorem dk_X11_feed : ∀ pc i, L_X11_feed[pc]? = some (some i) → decode prog_1_method_5_code pc = .ok i := dk_of (by decide +kernel)
theorem s_X11_feed {d : Nat} {P : Int32 → Mem → Prop} {r0 : Option Nat} {i1 : Int32} {i2 : Int32} {i3 : Int32} {i4 : Int32} {i5 : Int32} {M : Mem} (h : FQ (f_X11_feed r0 i1 i2 i3 i4 i5 M) P) : Con Y_X11_feed (d + 1) 0 0 [va_rf r0, .int i1, .int i2, .int i3, .int i4, .int i5] M (QI P) := by
  refine Con.of [some (va_rf r0), some (.int i1), some (.int i2), some (.int i3), some (.int i4), some (.int i5)] (by decide +kernel) dk_X11_feed (by simp [Y_X11_feed, cat_rf, cat_i, cat_l]) (by simp [loE, Y_X11_feed, cat_rf, cat_i, cat_l, List.replicate]) ?_
  unfold f_X11_feed at h
  refine r_aload_n rfl rfl ?_
  refine r_getR rfl fl_11_33 rfl h (fun v1 h => ?_)
  refine r_getI rfl fl_11_134 rfl h (fun v2 h => ?_)
  refine r_bipush (v := 20) rfl (by decide) ?_
  refine r_iadd rfl ?_
  refine r_sipush (v := 300) rfl (by decide) ?_
  refine r_ic_le 18 rfl (by decide) h (fun h => ?_) (fun h => ?_)
  · refine r_aload_n rfl rfl ?_
    refine r_getR rfl fl_11_33 rfl h (fun v3 h => ?_)
    refine r_iload_n rfl rfl ?_
    refine r_cv_v (vs := [.int i1]) rfl ml_11_137 rfl (rOk.of rfl) ⟨Nat.zero_le _, Nat.zero_le _⟩ rfl rfl rfl h s_X5_append (fun _ M1 h => ?_)
    refine r_aload_n rfl rfl ?_
    refine r_getR rfl fl_11_33 rfl h (fun v4 h => ?_)
    refine r_iload_n rfl rfl ?_
    refine r_cv_v (vs := [.int i2]) rfl ml_11_137 rfl (rOk.of rfl) ⟨Nat.zero_le _, Nat.zero_le _⟩ rfl rfl rfl h s_X5_append (fun _ M2 h => ?_)
    refine r_aload_n rfl rfl ?_
    refine r_getR rfl fl_11_33 rfl h (fun v5 h => ?_)
    refine r_iload_n rfl rfl ?_
    refine r_cv_v (vs := [.int i3]) rfl ml_11_137 rfl (rOk.of rfl) ⟨Nat.zero_le _, Nat.zero_le _⟩ rfl rfl rfl h s_X5_append (fun _ M3 h => ?_)
    refine r_aload_n rfl rfl ?_
    refine r_getR rfl fl_11_33 rfl h (fun v6 h => ?_)
    refine r_iload rfl rfl ?_
    refine r_cv_v (vs := [.int i4]) rfl ml_11_137 rfl (rOk.of rfl) ⟨Nat.zero_le _, Nat.zero_le _⟩ rfl rfl rfl h s_X5_append (fun _ M4 h => ?_)
    refine r_aload_n rfl rfl ?_
    refine r_getR rfl fl_11_33 rfl h (fun v7 h => ?_)
    refine r_iload rfl rfl ?_
    refine r_cv_v (vs := [.int i5]) rfl ml_11_137 rfl (rOk.of rfl) ⟨Nat.zero_le _, Nat.zero_le _⟩ rfl rfl rfl h s_X5_append (fun _ M5 h => ?_)
    refine r_aload_n rfl rfl ?_
    refine r_getR rfl fl_11_33 rfl h (fun v8 h => ?_)
    refine r_getI rfl fl_11_134 rfl h (fun v9 h => ?_)
    exact r_iret rfl rfl ⟨Nat.le_of_ble_eq_true rfl, Nat.le_of_ble_eq_true rfl⟩ h
  · refine r_iconst (v := -1) rfl (by decide) ?_
    exact r_iret rfl rfl ⟨Nat.le_of_ble_eq_true rfl, Nat.le_of_ble_eq_true rfl⟩ h
set_option maxRecDepth 20000 in
theorem dk_X10_asTold : ∀ pc i, L_X10_asTold[pc]? = some (some i) → decode prog_12_method_6_code pc = .ok i := dk_of (by decide +kernel)
theorem s_X10_asTold {d : Nat} {P : Int32 → Mem → Prop} {i0 : Int32} {M : Mem} (h : FQ (f_X10_asTold i0 M) P) : Con Y_X10_asTold (d + 1) 0 0 [.int i0] M (QI P) := by
  refine Con.of [some (.int i0)] (by decide +kernel) dk_X10_asTold (by simp [Y_X10_asTold, cat_rf, cat_i, cat_l]) (by simp [loE, Y_X10_asTold, cat_rf, cat_i, cat_l, List.replicate]) ?_
  unfold f_X10_asTold at h
  refine r_iload_n rfl rfl ?_
  refine r_if_ne 8 rfl (by decide) h (fun h => ?_) (fun h => ?_)
  · refine r_iconst (v := -1) rfl (by decide) ?_
    refine r_goto 31 rfl (by decide) ?_
    exact r_iret rfl rfl ⟨Nat.le_of_ble_eq_true rfl, Nat.le_of_ble_eq_true rfl⟩ h
  · refine r_bipush (v := 100) rfl (by decide) ?_
    refine r_iload_n rfl rfl ?_
    refine r_iconst (v := 0) rfl (by decide) ?_
    refine r_cs_i (vs := [.int i0, .int (0 : Int32)]) rfl ml_10_26 (rOk.of rfl) ⟨Nat.zero_le _, Nat.zero_le _⟩ rfl rfl rfl h s_X10_member (fun v1 M1 h => ?_)
    refine r_imul rfl ?_
    refine r_bipush (v := 10) rfl (by decide) ?_
    refine r_iload_n rfl rfl ?_
    refine r_iconst (v := 1) rfl (by decide) ?_
    refine r_cs_i (vs := [.int i0, .int (1 : Int32)]) rfl ml_10_26 (rOk.of rfl) ⟨Nat.zero_le _, Nat.zero_le _⟩ rfl rfl rfl h s_X10_member (fun v2 M2 h => ?_)
    refine r_imul rfl ?_
    refine r_iadd rfl ?_
    refine r_iload_n rfl rfl ?_
    refine r_iconst (v := 2) rfl (by decide) ?_
    refine r_cs_i (vs := [.int i0, .int (2 : Int32)]) rfl ml_10_26 (rOk.of rfl) ⟨Nat.zero_le _, Nat.zero_le _⟩ rfl rfl rfl h s_X10_member (fun v3 M3 h => ?_)
    refine r_iadd rfl ?_
    exact r_iret rfl rfl ⟨Nat.le_of_ble_eq_true rfl, Nat.le_of_ble_eq_true rfl⟩ h
set_option maxRecDepth 20000 in
theorem dk_X0_pickGood : ∀ pc i, L_X0_pickGood[pc]? = some (some i) → decode prog_2_method_10_code pc = .ok i := dk_of (by decide +kernel)
theorem sb_X0_pickGood_4 {d : Nat} {P : Int32 → Mem → Prop} {q4 : Option Nat → Int32 → Int32 → Int32 → Mem → Option (Int32 × Mem)} (hq4 : ∀ (r0 : Option Nat) (i1 : Int32) (i2 : Int32) (i3 : Int32) (M : Mem), FQ (q4 r0 i1 i2 i3 M) P → wp Y_X0_pickGood (rmD (d + 2) 0 0) (FM (QI P) 0 0) 0 0 4 [some (va_rf r0), some (.int i1), some (.int i2), some (.int i3), none] [] M) (r0 : Option Nat) (i1 : Int32) (i2 : Int32) (i3 : Int32) (M : Mem) (h : FQ (b_X0_pickGood_4 q4 r0 i1 i2 i3 M) P) : wp Y_X0_pickGood (rmD (d + 2) 0 0) (FM (QI P) 0 0) 0 0 4 [some (va_rf r0), some (.int i1), some (.int i2), some (.int i3), none] [] M := by
  unfold b_X0_pickGood_4 at h
  refine r_iload_n rfl rfl ?_
  refine r_bipush (v := 56) rfl (by decide) ?_
  refine r_ic_ge 70 rfl (by decide) h (fun h => ?_) (fun h => ?_)
  · refine r_iload_n rfl rfl ?_
    refine r_iconst (v := -1) rfl (by decide) ?_
    refine r_ic_ne 79 rfl (by decide) h (fun h => ?_) (fun h => ?_)
    · refine r_iload_n rfl rfl ?_
      refine r_goto 80 rfl (by decide) ?_
      exact r_iret rfl rfl ⟨Nat.le_of_ble_eq_true rfl, Nat.le_of_ble_eq_true rfl⟩ h
    · refine r_iconst (v := -1) rfl (by decide) ?_
      exact r_iret rfl rfl ⟨Nat.le_of_ble_eq_true rfl, Nat.le_of_ble_eq_true rfl⟩ h
  · refine r_aload_n rfl rfl ?_
    refine r_getR rfl fl_0_46 rfl h (fun v1 h => ?_)
    refine r_getR rfl fl_0_83 rfl h (fun v2 h => ?_)
    refine r_iload_n rfl rfl ?_
    refine r_iald rfl h (fun v3 h => ?_)
    refine r_istore (lo' := [some (va_rf r0), some (.int i1), some (.int i2), some (.int i3), some (.int v3)]) rfl rfl rfl rfl ?_
    refine r_iload rfl rfl ?_
    refine r_aload_n rfl rfl ?_
    refine r_getR rfl fl_0_42 rfl h (fun v4 h => ?_)
    refine r_getR rfl fl_0_60 rfl h (fun v5 h => ?_)
    refine r_iconst (v := 0) rfl (by decide) ?_
    refine r_iald rfl h (fun v6 h => ?_)
    refine r_iand rfl ?_
    refine r_iload rfl rfl ?_
    refine r_ic_ne 64 rfl (by decide) h (fun h => ?_) (fun h => ?_)
    · refine r_aload_n rfl rfl ?_
      refine r_iconst (v := 0) rfl (by decide) ?_
      refine r_iload rfl rfl ?_
      refine r_cv_i (vs := [.int (0 : Int32), .int v3]) rfl ml_0_86 rfl (rOk.of rfl) ⟨Nat.zero_le _, Nat.zero_le _⟩ rfl rfl rfl h s_X0_losingNoes (fun v7 M1 h => ?_)
      refine r_iload rfl rfl ?_
      refine r_ic_ne 64 rfl (by decide) h (fun h => ?_) (fun h => ?_)
      · refine r_iload_n rfl rfl ?_
        refine r_iload_n rfl rfl ?_
        refine r_ic_ne 61 rfl (by decide) h (fun h => ?_) (fun h => ?_)
        · refine r_iload rfl rfl ?_
          refine r_cs_i (vs := [.int v3]) rfl ml_0_94 (rOk.of rfl) ⟨Nat.zero_le _, Nat.zero_le _⟩ rfl rfl rfl h s_X10_asTold (fun v8 M2 h => ?_)
          exact r_iret rfl rfl ⟨Nat.le_of_ble_eq_true rfl, Nat.le_of_ble_eq_true rfl⟩ h
        · refine r_iinc (v := 1) (lo' := [some (va_rf r0), some (.int i1), some (.int (i2 + (1 : Int32))), some (.int i3), some (.int v3)]) rfl rfl rfl (by decide) rfl rfl ?_
          refine r_iinc (v := 1) (lo' := [some (va_rf r0), some (.int i1), some (.int (i2 + (1 : Int32))), some (.int (i3 + (1 : Int32))), some (.int v3)]) rfl rfl rfl (by decide) rfl rfl ?_
          refine r_goto 4 rfl (by decide) ?_
          refine r_msk [true, true, true, true, false] rfl ?_
          exact hq4 _ _ _ _ _ h
      · refine r_iinc (v := 1) (lo' := [some (va_rf r0), some (.int i1), some (.int i2), some (.int (i3 + (1 : Int32))), some (.int v3)]) rfl rfl rfl (by decide) rfl rfl ?_
        refine r_goto 4 rfl (by decide) ?_
        refine r_msk [true, true, true, true, false] rfl ?_
        exact hq4 _ _ _ _ _ h
    · refine r_iinc (v := 1) (lo' := [some (va_rf r0), some (.int i1), some (.int i2), some (.int (i3 + (1 : Int32))), some (.int v3)]) rfl rfl rfl (by decide) rfl rfl ?_
      refine r_goto 4 rfl (by decide) ?_
      refine r_msk [true, true, true, true, false] rfl ?_
      exact hq4 _ _ _ _ _ h
theorem s_X0_pickGood_4 {d : Nat} {P : Int32 → Mem → Prop}   : ∀ (k : Nat) (r0 : Option Nat) (i1 : Int32) (i2 : Int32) (i3 : Int32) (M : Mem), FQ (f_X0_pickGood_4  k r0 i1 i2 i3 M) P → wp Y_X0_pickGood (rmD (d + 2) 0 0) (FM (QI P) 0 0) 0 0 4 [some (va_rf r0), some (.int i1), some (.int i2), some (.int i3), none] [] M
  | 0, _, _, _, _, _, h => h.no
  | k + 1, r0, i1, i2, i3, M, h => sb_X0_pickGood_4  (s_X0_pickGood_4  k) r0 i1 i2 i3 M h
theorem s_X0_pickGood {d : Nat} {P : Int32 → Mem → Prop} {r0 : Option Nat} {i1 : Int32} {M : Mem} (h : FQ (f_X0_pickGood r0 i1 M) P) : Con Y_X0_pickGood (d + 2) 0 0 [va_rf r0, .int i1] M (QI P) := by
  refine Con.of [some (va_rf r0), some (.int i1), none, none, none] (by decide +kernel) dk_X0_pickGood (by simp [Y_X0_pickGood, cat_rf, cat_i, cat_l]) (by simp [loE, Y_X0_pickGood, cat_rf, cat_i, cat_l, List.replicate]) ?_
  unfold f_X0_pickGood at h
  refine r_iconst (v := 0) rfl (by decide) ?_
  refine r_istore_n (lo' := [some (va_rf r0), some (.int i1), some (.int (0 : Int32)), none, none]) rfl rfl rfl rfl ?_
  refine r_iconst (v := 0) rfl (by decide) ?_
  refine r_istore_n (lo' := [some (va_rf r0), some (.int i1), some (.int (0 : Int32)), some (.int (0 : Int32)), none]) rfl rfl rfl rfl ?_
  exact s_X0_pickGood_4 FU _ _ _ _ _ h
set_option maxRecDepth 20000 in
theorem dk_X11_good : ∀ pc i, L_X11_good[pc]? = some (some i) → decode prog_1_method_23_code pc = .ok i := dk_of (by decide +kernel)
theorem s_X11_good {d : Nat} {P : Int32 → Mem → Prop} {r0 : Option Nat} {i1 : Int32} {M : Mem} (h : FQ (f_X11_good r0 i1 M) P) : Con Y_X11_good (d + 7) 0 0 [va_rf r0, .int i1] M (QI P) := by
  refine Con.of [some (va_rf r0), some (.int i1)] (by decide +kernel) dk_X11_good (by simp [Y_X11_good, cat_rf, cat_i, cat_l]) (by simp [loE, Y_X11_good, cat_rf, cat_i, cat_l, List.replicate]) ?_
  unfold f_X11_good at h
  refine r_iload_n rfl rfl ?_
  refine r_iconst (v := -1) rfl (by decide) ?_
  refine r_ic_ge 7 rfl (by decide) h (fun h => ?_) (fun h => ?_)
  · refine r_aload_n rfl rfl ?_
    refine r_aload_n rfl rfl ?_
    refine r_getR rfl fl_11_10 rfl h (fun v1 h => ?_)
    refine r_getR rfl fl_11_114 rfl h (fun v2 h => ?_)
    refine r_cv_i (vs := [va_rf v2]) rfl ml_11_230 rfl (rOk.of rfl) ⟨Nat.zero_le _, Nat.zero_le _⟩ rfl rfl rfl h s_X11_solved (fun v3 M1 h => ?_)
    refine r_if_eq 32 rfl (by decide) h (fun h => ?_) (fun h => ?_)
    · refine r_bipush (v := -2) rfl (by decide) ?_
      exact r_iret rfl rfl ⟨Nat.le_of_ble_eq_true rfl, Nat.le_of_ble_eq_true rfl⟩ h
    · refine r_aload_n rfl rfl ?_
      refine r_getR rfl fl_11_110 rfl h (fun v4 h => ?_)
      refine r_iload_n rfl rfl ?_
      refine r_cv_i (vs := [.int i1]) rfl ml_11_242 rfl (rOk.of rfl) ⟨Nat.zero_le _, Nat.zero_le _⟩ rfl rfl rfl h s_X0_pickGood (fun v5 M2 h => ?_)
      refine r_goto 34 rfl (by decide) ?_
      exact r_iret rfl rfl ⟨Nat.le_of_ble_eq_true rfl, Nat.le_of_ble_eq_true rfl⟩ h
  · refine r_iconst (v := -1) rfl (by decide) ?_
    exact r_iret rfl rfl ⟨Nat.le_of_ble_eq_true rfl, Nat.le_of_ble_eq_true rfl⟩ h
set_option maxRecDepth 20000 in
theorem dk_X11_heap : ∀ pc i, L_X11_heap[pc]? = some (some i) → decode prog_1_method_3_code pc = .ok i := dk_of (by decide +kernel)
theorem s_X11_heap {d : Nat} {P : Int32 → Mem → Prop} {r0 : Option Nat} {i1 : Int32} {i2 : Int32} {M : Mem} (h : FQ (f_X11_heap r0 i1 i2 M) P) : Con Y_X11_heap (d + 1) 0 0 [va_rf r0, .int i1, .int i2] M (QI P) := by
  refine Con.of [some (va_rf r0), some (.int i1), some (.int i2)] (by decide +kernel) dk_X11_heap (by simp [Y_X11_heap, cat_rf, cat_i, cat_l]) (by simp [loE, Y_X11_heap, cat_rf, cat_i, cat_l, List.replicate]) ?_
  unfold f_X11_heap at h
  refine r_iload_n rfl rfl ?_
  refine r_cs_i (vs := [.int i1]) rfl ml_11_125 (rOk.of rfl) ⟨Nat.zero_le _, Nat.zero_le _⟩ rfl rfl rfl h s_X11_isMove (fun v1 M1 h => ?_)
  refine r_if_eq 16 rfl (by decide) h (fun h => ?_) (fun h => ?_)
  · refine r_iconst (v := 0) rfl (by decide) ?_
    exact r_zret rfl rfl ⟨Nat.le_of_ble_eq_true rfl, Nat.le_of_ble_eq_true rfl⟩ h
  · refine r_iload_n rfl rfl ?_
    refine r_if_lt 16 rfl (by decide) h (fun h => ?_) (fun h => ?_)
    · refine r_iconst (v := 0) rfl (by decide) ?_
      exact r_zret rfl rfl ⟨Nat.le_of_ble_eq_true rfl, Nat.le_of_ble_eq_true rfl⟩ h
    · refine r_iload_n rfl rfl ?_
      refine r_iconst (v := 3) rfl (by decide) ?_
      refine r_ic_le 18 rfl (by decide) h (fun h => ?_) (fun h => ?_)
      · refine r_aload_n rfl rfl ?_
        refine r_getR rfl fl_11_10 rfl h (fun v2 h => ?_)
        refine r_getR rfl fl_11_114 rfl h (fun v3 h => ?_)
        refine r_iload_n rfl rfl ?_
        refine r_iload_n rfl rfl ?_
        refine r_cv_v (vs := [.int i1, .int i2]) rfl ml_11_128 rfl (rOk.of rfl) ⟨Nat.zero_le _, Nat.zero_le _⟩ rfl rfl rfl h s_X4_setCount (fun _ M2 h => ?_)
        refine r_iconst (v := 1) rfl (by decide) ?_
        exact r_zret rfl rfl ⟨Nat.le_of_ble_eq_true rfl, Nat.le_of_ble_eq_true rfl⟩ h
      · refine r_iconst (v := 0) rfl (by decide) ?_
        exact r_zret rfl rfl ⟨Nat.le_of_ble_eq_true rfl, Nat.le_of_ble_eq_true rfl⟩ h
set_option maxRecDepth 20000 in
theorem dk_X11_image : ∀ pc i, L_X11_image[pc]? = some (some i) → decode prog_1_method_28_code pc = .ok i := dk_of (by decide +kernel)
theorem s_X11_image {d : Nat} {P : Int32 → Mem → Prop} {r0 : Option Nat} {M : Mem} (h : FQ (f_X11_image r0 M) P) : Con Y_X11_image (d + 3) 0 0 [va_rf r0] M (QI P) := by
  refine Con.of [some (va_rf r0)] (by decide +kernel) dk_X11_image (by simp [Y_X11_image, cat_rf, cat_i, cat_l]) (by simp [loE, Y_X11_image, cat_rf, cat_i, cat_l, List.replicate]) ?_
  unfold f_X11_image at h
  refine r_aload_n rfl rfl ?_
  refine r_getR rfl fl_11_16 rfl h (fun v1 h => ?_)
  refine r_aload_n rfl rfl ?_
  refine r_getR rfl fl_11_10 rfl h (fun v2 h => ?_)
  refine r_cv_v (vs := [va_rf v2]) rfl ml_11_259 rfl (rOk.of rfl) ⟨Nat.zero_le _, Nat.zero_le _⟩ rfl rfl rfl h s_X7_take (fun _ M1 h => ?_)
  refine r_aload_n rfl rfl ?_
  refine r_cv_i (vs := []) rfl ml_11_262 rfl (rOk.of rfl) ⟨Nat.zero_le _, Nat.zero_le _⟩ rfl rfl rfl h s_X11_piecesNow (fun v3 M2 h => ?_)
  exact r_iret rfl rfl ⟨Nat.le_of_ble_eq_true rfl, Nat.le_of_ble_eq_true rfl⟩ h
set_option maxRecDepth 20000 in
theorem dk_X0_init : ∀ pc i, L_X0_init[pc]? = some (some i) → decode prog_2_method_1_code pc = .ok i := dk_of (by decide +kernel)
theorem s_X0_init {d : Nat} {P : Unit → Mem → Prop} {r0 : Option Nat} {r1 : Option Nat} {r2 : Option Nat} {M : Mem} (h : FQ (f_X0_init r0 r1 r2 M) P) : Con Y_X0_init (d + 1) 9 172000 [va_rf r0, va_rf r1, va_rf r2] M (QV P) := by
  refine Con.of [some (va_rf r0), some (va_rf r1), some (va_rf r2)] (by decide +kernel) dk_X0_init (by simp [Y_X0_init, cat_rf, cat_i, cat_l]) (by simp [loE, Y_X0_init, cat_rf, cat_i, cat_l, List.replicate]) ?_
  unfold f_X0_init at h
  refine r_aload_n rfl rfl ?_
  refine r_obj rfl mk_0_3 ⟨by show 1 ≤ _ + 1; omega, by show 20 ≤ 64 * (_ + 1); omega⟩ rfl h (fun h => ?_)
  refine r_aload_n rfl rfl ?_
  refine r_sipush (v := 2000) rfl (by decide) ?_
  refine r_newI 2000 rfl (by decide) ⟨Nat.le_of_ble_eq_true rfl, Nat.le_of_ble_eq_true rfl⟩ h (fun v1 M1 h => ?_)
  refine r_putR rfl fl_0_11 (fun _ => ⟨rfl, fun q hq => by cases hq; rfl⟩) (Or.inr ⟨_, rfl⟩) h (fun M2 h => ?_)
  refine r_aload_n rfl rfl ?_
  refine r_sipush (v := 2000) rfl (by decide) ?_
  refine r_newI 2000 rfl (by decide) ⟨Nat.le_of_ble_eq_true rfl, Nat.le_of_ble_eq_true rfl⟩ h (fun v2 M3 h => ?_)
  refine r_putR rfl fl_0_17 (fun _ => ⟨rfl, fun q hq => by cases hq; rfl⟩) (Or.inr ⟨_, rfl⟩) h (fun M4 h => ?_)
  refine r_aload_n rfl rfl ?_
  refine r_sipush (v := 16000) rfl (by decide) ?_
  refine r_newI 16000 rfl (by decide) ⟨Nat.le_of_ble_eq_true rfl, Nat.le_of_ble_eq_true rfl⟩ h (fun v3 M5 h => ?_)
  refine r_putR rfl fl_0_20 (fun _ => ⟨rfl, fun q hq => by cases hq; rfl⟩) (Or.inr ⟨_, rfl⟩) h (fun M6 h => ?_)
  refine r_aload_n rfl rfl ?_
  refine r_sipush (v := 16000) rfl (by decide) ?_
  refine r_newI 16000 rfl (by decide) ⟨Nat.le_of_ble_eq_true rfl, Nat.le_of_ble_eq_true rfl⟩ h (fun v4 M7 h => ?_)
  refine r_putR rfl fl_0_23 (fun _ => ⟨rfl, fun q hq => by cases hq; rfl⟩) (Or.inr ⟨_, rfl⟩) h (fun M8 h => ?_)
  refine r_aload_n rfl rfl ?_
  refine r_sipush (v := 2000) rfl (by decide) ?_
  refine r_newI 2000 rfl (by decide) ⟨Nat.le_of_ble_eq_true rfl, Nat.le_of_ble_eq_true rfl⟩ h (fun v5 M9 h => ?_)
  refine r_putR rfl fl_0_26 (fun _ => ⟨rfl, fun q hq => by cases hq; rfl⟩) (Or.inr ⟨_, rfl⟩) h (fun M10 h => ?_)
  refine r_aload_n rfl rfl ?_
  refine r_ldc rfl kc_0_29 ?_
  refine r_newI 128000 rfl (by decide) ⟨Nat.le_of_ble_eq_true rfl, Nat.le_of_ble_eq_true rfl⟩ h (fun v6 M11 h => ?_)
  refine r_putR rfl fl_0_30 (fun _ => ⟨rfl, fun q hq => by cases hq; rfl⟩) (Or.inr ⟨_, rfl⟩) h (fun M12 h => ?_)
  refine r_aload_n rfl rfl ?_
  refine r_sipush (v := 2000) rfl (by decide) ?_
  refine r_newI 2000 rfl (by decide) ⟨Nat.le_of_ble_eq_true rfl, Nat.le_of_ble_eq_true rfl⟩ h (fun v7 M13 h => ?_)
  refine r_putR rfl fl_0_33 (fun _ => ⟨rfl, fun q hq => by cases hq; rfl⟩) (Or.inr ⟨_, rfl⟩) h (fun M14 h => ?_)
  refine r_aload_n rfl rfl ?_
  refine r_sipush (v := 2000) rfl (by decide) ?_
  refine r_newI 2000 rfl (by decide) ⟨Nat.le_of_ble_eq_true rfl, Nat.le_of_ble_eq_true rfl⟩ h (fun v8 M15 h => ?_)
  refine r_putR rfl fl_0_36 (fun _ => ⟨rfl, fun q hq => by cases hq; rfl⟩) (Or.inr ⟨_, rfl⟩) h (fun M16 h => ?_)
  refine r_aload_n rfl rfl ?_
  refine r_sipush (v := 2000) rfl (by decide) ?_
  refine r_newI 2000 rfl (by decide) ⟨Nat.le_of_ble_eq_true rfl, Nat.le_of_ble_eq_true rfl⟩ h (fun v9 M17 h => ?_)
  refine r_putR rfl fl_0_39 (fun _ => ⟨rfl, fun q hq => by cases hq; rfl⟩) (Or.inr ⟨_, rfl⟩) h (fun M18 h => ?_)
  refine r_aload_n rfl rfl ?_
  refine r_aload_n rfl rfl ?_
  refine r_putR rfl fl_0_42 (fun _ => ⟨rfl, fun q hq => by cases hq; rfl⟩) (Or.inl ⟨_, rfl⟩) h (fun M19 h => ?_)
  refine r_aload_n rfl rfl ?_
  refine r_aload_n rfl rfl ?_
  refine r_putR rfl fl_0_46 (fun _ => ⟨rfl, fun q hq => by cases hq; rfl⟩) (Or.inl ⟨_, rfl⟩) h (fun M20 h => ?_)
  refine r_aload_n rfl rfl ?_
  refine r_iconst (v := 0) rfl (by decide) ?_
  refine r_putI rfl fl_0_50 (fun z => by cases z) rfl h (fun M21 h => ?_)
  refine r_aload_n rfl rfl ?_
  refine r_iconst (v := 0) rfl (by decide) ?_
  refine r_putI rfl fl_0_54 (fun z => by cases z) rfl h (fun M22 h => ?_)
  exact r_vret rfl rfl ⟨Nat.le_of_ble_eq_true rfl, Nat.le_of_ble_eq_true rfl⟩ h
set_option maxRecDepth 20000 in
theorem dk_X10_init : ∀ pc i, L_X10_init[pc]? = some (some i) → decode prog_12_method_1_code pc = .ok i := dk_of (by decide +kernel)
theorem sb_X10_init_37 {d : Nat} {P : Unit → Mem → Prop} {q16 : Option Nat → Int32 → Int32 → Mem → Option (Unit × Mem)} {q26 : Option Nat → Int32 → Int32 → Int32 → Mem → Option (Unit × Mem)} {q37 : Option Nat → Int32 → Int32 → Int32 → Int32 → Mem → Option (Unit × Mem)} (hq16 : ∀ (r0 : Option Nat) (i1 : Int32) (i2 : Int32) (M : Mem), FQ (q16 r0 i1 i2 M) P → wp Y_X10_init (rmD (d + 1) 1 56) (FM (QV P) 1 56) 1 56 16 [some (va_rf r0), some (.int i1), some (.int i2), none, none] [] M) (hq26 : ∀ (r0 : Option Nat) (i1 : Int32) (i2 : Int32) (i3 : Int32) (M : Mem), FQ (q26 r0 i1 i2 i3 M) P → wp Y_X10_init (rmD (d + 1) 1 56) (FM (QV P) 1 56) 1 56 26 [some (va_rf r0), some (.int i1), some (.int i2), some (.int i3), none] [] M) (hq37 : ∀ (r0 : Option Nat) (i1 : Int32) (i2 : Int32) (i3 : Int32) (i4 : Int32) (M : Mem), FQ (q37 r0 i1 i2 i3 i4 M) P → wp Y_X10_init (rmD (d + 1) 1 56) (FM (QV P) 1 56) 1 56 37 [some (va_rf r0), some (.int i1), some (.int i2), some (.int i3), some (.int i4)] [] M) (r0 : Option Nat) (i1 : Int32) (i2 : Int32) (i3 : Int32) (i4 : Int32) (M : Mem) (h : FQ (b_X10_init_37 q16 q26 q37 r0 i1 i2 i3 i4 M) P) : wp Y_X10_init (rmD (d + 1) 1 56) (FM (QV P) 1 56) 1 56 37 [some (va_rf r0), some (.int i1), some (.int i2), some (.int i3), some (.int i4)] [] M := by
  unfold b_X10_init_37 at h
  refine r_iload rfl rfl ?_
  refine r_bipush (v := 8) rfl (by decide) ?_
  refine r_ic_ge 77 rfl (by decide) h (fun h => ?_) (fun h => ?_)
  · refine r_iinc (v := 1) (lo' := [some (va_rf r0), some (.int i1), some (.int i2), some (.int (i3 + (1 : Int32))), some (.int i4)]) rfl rfl rfl (by decide) rfl rfl ?_
    refine r_goto 26 rfl (by decide) ?_
    refine r_msk [true, true, true, true, false] rfl ?_
    exact hq26 _ _ _ _ _ h
  · refine r_iload_n rfl rfl ?_
    refine r_bipush (v := 56) rfl (by decide) ?_
    refine r_ic_ge 71 rfl (by decide) h (fun h => ?_) (fun h => ?_)
    · refine r_iinc (v := 1) (lo' := [some (va_rf r0), some (.int i1), some (.int i2), some (.int i3), some (.int (i4 + (1 : Int32)))]) rfl rfl rfl (by decide) rfl rfl ?_
      refine r_goto 37 rfl (by decide) ?_
      exact hq37 _ _ _ _ _ _ h
    · refine r_aload_n rfl rfl ?_
      refine r_getR rfl fl_10_11 rfl h (fun v1 h => ?_)
      refine r_iload_n rfl rfl ?_
      refine r_iconst (v := 1) rfl (by decide) ?_
      refine r_iload_n rfl rfl ?_
      refine r_ishl rfl ?_
      refine r_iconst (v := 1) rfl (by decide) ?_
      refine r_iload_n rfl rfl ?_
      refine r_ishl rfl ?_
      refine r_ior rfl ?_
      refine r_iconst (v := 1) rfl (by decide) ?_
      refine r_iload rfl rfl ?_
      refine r_ishl rfl ?_
      refine r_ior rfl ?_
      refine r_iast rfl h (fun M1 h => ?_)
      refine r_iinc (v := 1) (lo' := [some (va_rf r0), some (.int (i1 + (1 : Int32))), some (.int i2), some (.int i3), some (.int i4)]) rfl rfl rfl (by decide) (by simp [stOk, cat_rf]) rfl ?_
      refine r_iinc (v := 1) (lo' := [some (va_rf r0), some (.int (i1 + (1 : Int32))), some (.int i2), some (.int i3), some (.int (i4 + (1 : Int32)))]) rfl rfl rfl (by decide) rfl rfl ?_
      refine r_goto 37 rfl (by decide) ?_
      exact hq37 _ _ _ _ _ _ h
theorem s_X10_init_37 {d : Nat} {P : Unit → Mem → Prop} {q16 : Option Nat → Int32 → Int32 → Mem → Option (Unit × Mem)} {q26 : Option Nat → Int32 → Int32 → Int32 → Mem → Option (Unit × Mem)} (hq16 : ∀ (r0 : Option Nat) (i1 : Int32) (i2 : Int32) (M : Mem), FQ (q16 r0 i1 i2 M) P → wp Y_X10_init (rmD (d + 1) 1 56) (FM (QV P) 1 56) 1 56 16 [some (va_rf r0), some (.int i1), some (.int i2), none, none] [] M) (hq26 : ∀ (r0 : Option Nat) (i1 : Int32) (i2 : Int32) (i3 : Int32) (M : Mem), FQ (q26 r0 i1 i2 i3 M) P → wp Y_X10_init (rmD (d + 1) 1 56) (FM (QV P) 1 56) 1 56 26 [some (va_rf r0), some (.int i1), some (.int i2), some (.int i3), none] [] M) : ∀ (k : Nat) (r0 : Option Nat) (i1 : Int32) (i2 : Int32) (i3 : Int32) (i4 : Int32) (M : Mem), FQ (f_X10_init_37 q16 q26 k r0 i1 i2 i3 i4 M) P → wp Y_X10_init (rmD (d + 1) 1 56) (FM (QV P) 1 56) 1 56 37 [some (va_rf r0), some (.int i1), some (.int i2), some (.int i3), some (.int i4)] [] M
  | 0, _, _, _, _, _, _, h => h.no
  | k + 1, r0, i1, i2, i3, i4, M, h => sb_X10_init_37 hq16 hq26 (s_X10_init_37 hq16 hq26 k) r0 i1 i2 i3 i4 M h
theorem sb_X10_init_26 {d : Nat} {P : Unit → Mem → Prop} {q16 : Option Nat → Int32 → Int32 → Mem → Option (Unit × Mem)} {q26 : Option Nat → Int32 → Int32 → Int32 → Mem → Option (Unit × Mem)} (hq16 : ∀ (r0 : Option Nat) (i1 : Int32) (i2 : Int32) (M : Mem), FQ (q16 r0 i1 i2 M) P → wp Y_X10_init (rmD (d + 1) 1 56) (FM (QV P) 1 56) 1 56 16 [some (va_rf r0), some (.int i1), some (.int i2), none, none] [] M) (hq26 : ∀ (r0 : Option Nat) (i1 : Int32) (i2 : Int32) (i3 : Int32) (M : Mem), FQ (q26 r0 i1 i2 i3 M) P → wp Y_X10_init (rmD (d + 1) 1 56) (FM (QV P) 1 56) 1 56 26 [some (va_rf r0), some (.int i1), some (.int i2), some (.int i3), none] [] M) (r0 : Option Nat) (i1 : Int32) (i2 : Int32) (i3 : Int32) (M : Mem) (h : FQ (b_X10_init_26 q16 q26 r0 i1 i2 i3 M) P) : wp Y_X10_init (rmD (d + 1) 1 56) (FM (QV P) 1 56) 1 56 26 [some (va_rf r0), some (.int i1), some (.int i2), some (.int i3), none] [] M := by
  unfold b_X10_init_26 at h
  refine r_iload_n rfl rfl ?_
  refine r_bipush (v := 8) rfl (by decide) ?_
  refine r_ic_ge 83 rfl (by decide) h (fun h => ?_) (fun h => ?_)
  · refine r_iinc (v := 1) (lo' := [some (va_rf r0), some (.int i1), some (.int (i2 + (1 : Int32))), some (.int i3), none]) rfl rfl rfl (by decide) rfl rfl ?_
    refine r_goto 16 rfl (by decide) ?_
    refine r_msk [true, true, true, false, true] rfl ?_
    exact hq16 _ _ _ _ h
  · refine r_iload_n rfl rfl ?_
    refine r_iconst (v := 1) rfl (by decide) ?_
    refine r_iadd rfl ?_
    refine r_istore (lo' := [some (va_rf r0), some (.int i1), some (.int i2), some (.int i3), some (.int (i3 + (1 : Int32)))]) rfl rfl rfl rfl ?_
    exact s_X10_init_37 hq16 hq26 FU _ _ _ _ _ _ h
theorem s_X10_init_26 {d : Nat} {P : Unit → Mem → Prop} {q16 : Option Nat → Int32 → Int32 → Mem → Option (Unit × Mem)} (hq16 : ∀ (r0 : Option Nat) (i1 : Int32) (i2 : Int32) (M : Mem), FQ (q16 r0 i1 i2 M) P → wp Y_X10_init (rmD (d + 1) 1 56) (FM (QV P) 1 56) 1 56 16 [some (va_rf r0), some (.int i1), some (.int i2), none, none] [] M) : ∀ (k : Nat) (r0 : Option Nat) (i1 : Int32) (i2 : Int32) (i3 : Int32) (M : Mem), FQ (f_X10_init_26 q16 k r0 i1 i2 i3 M) P → wp Y_X10_init (rmD (d + 1) 1 56) (FM (QV P) 1 56) 1 56 26 [some (va_rf r0), some (.int i1), some (.int i2), some (.int i3), none] [] M
  | 0, _, _, _, _, _, h => h.no
  | k + 1, r0, i1, i2, i3, M, h => sb_X10_init_26 hq16 (s_X10_init_26 hq16 k) r0 i1 i2 i3 M h
theorem sb_X10_init_16 {d : Nat} {P : Unit → Mem → Prop} {q16 : Option Nat → Int32 → Int32 → Mem → Option (Unit × Mem)} (hq16 : ∀ (r0 : Option Nat) (i1 : Int32) (i2 : Int32) (M : Mem), FQ (q16 r0 i1 i2 M) P → wp Y_X10_init (rmD (d + 1) 1 56) (FM (QV P) 1 56) 1 56 16 [some (va_rf r0), some (.int i1), some (.int i2), none, none] [] M) (r0 : Option Nat) (i1 : Int32) (i2 : Int32) (M : Mem) (h : FQ (b_X10_init_16 q16 r0 i1 i2 M) P) : wp Y_X10_init (rmD (d + 1) 1 56) (FM (QV P) 1 56) 1 56 16 [some (va_rf r0), some (.int i1), some (.int i2), none, none] [] M := by
  unfold b_X10_init_16 at h
  refine r_iload_n rfl rfl ?_
  refine r_bipush (v := 8) rfl (by decide) ?_
  refine r_ic_ge 89 rfl (by decide) h (fun h => ?_) (fun h => ?_)
  · exact r_vret rfl rfl ⟨Nat.le_of_ble_eq_true rfl, Nat.le_of_ble_eq_true rfl⟩ h
  · refine r_iload_n rfl rfl ?_
    refine r_iconst (v := 1) rfl (by decide) ?_
    refine r_iadd rfl ?_
    refine r_istore_n (lo' := [some (va_rf r0), some (.int i1), some (.int i2), some (.int (i2 + (1 : Int32))), none]) rfl rfl rfl rfl ?_
    exact s_X10_init_26 hq16 FU _ _ _ _ _ h
theorem s_X10_init_16 {d : Nat} {P : Unit → Mem → Prop}   : ∀ (k : Nat) (r0 : Option Nat) (i1 : Int32) (i2 : Int32) (M : Mem), FQ (f_X10_init_16  k r0 i1 i2 M) P → wp Y_X10_init (rmD (d + 1) 1 56) (FM (QV P) 1 56) 1 56 16 [some (va_rf r0), some (.int i1), some (.int i2), none, none] [] M
  | 0, _, _, _, _, h => h.no
  | k + 1, r0, i1, i2, M, h => sb_X10_init_16  (s_X10_init_16  k) r0 i1 i2 M h
theorem s_X10_init {d : Nat} {P : Unit → Mem → Prop} {r0 : Option Nat} {M : Mem} (h : FQ (f_X10_init r0 M) P) : Con Y_X10_init (d + 1) 1 56 [va_rf r0] M (QV P) := by
  refine Con.of [some (va_rf r0), none, none, none, none] (by decide +kernel) dk_X10_init (by simp [Y_X10_init, cat_rf, cat_i, cat_l]) (by simp [loE, Y_X10_init, cat_rf, cat_i, cat_l, List.replicate]) ?_
  unfold f_X10_init at h
  refine r_aload_n rfl rfl ?_
  refine r_obj rfl mk_10_3 ⟨by show 1 ≤ _ + 1; omega, by show 20 ≤ 64 * (_ + 1); omega⟩ rfl h (fun h => ?_)
  refine r_aload_n rfl rfl ?_
  refine r_bipush (v := 56) rfl (by decide) ?_
  refine r_newI 56 rfl (by decide) ⟨Nat.le_of_ble_eq_true rfl, Nat.le_of_ble_eq_true rfl⟩ h (fun v1 M1 h => ?_)
  refine r_putR rfl fl_10_11 (fun _ => ⟨rfl, fun q hq => by cases hq; rfl⟩) (Or.inr ⟨_, rfl⟩) h (fun M2 h => ?_)
  refine r_iconst (v := 0) rfl (by decide) ?_
  refine r_istore_n (lo' := [some (va_rf r0), some (.int (0 : Int32)), none, none, none]) rfl rfl (by simp [stOk, cat_rf]) rfl ?_
  refine r_iconst (v := 0) rfl (by decide) ?_
  refine r_istore_n (lo' := [some (va_rf r0), some (.int (0 : Int32)), some (.int (0 : Int32)), none, none]) rfl rfl rfl rfl ?_
  exact s_X10_init_16 FU _ _ _ _ h
