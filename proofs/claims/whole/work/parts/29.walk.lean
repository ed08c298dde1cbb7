/-! walked by program (wip/gen): X2_init X3_init X4_init X5_init X1_init X6_init X7_init X8_init X9_init -/
def L_X2_init : List (Option (Instr × Nat)) := [some (.aload_n 0, 1), some (.invokespecial 3, 3), none, none, some (.aload_n 0, 1), some (.bipush 8, 2), none, some (.newarray .int, 2), none, some (.putfield 9, 3), none, none, some (.aload_n 0, 1), some (.bipush 8, 2), none, some (.newarray .int, 2), none, some (.putfield 15, 3), none, none, some (.aload_n 0, 1), some (.bipush 8, 2), none, some (.newarray .int, 2), none, some (.putfield 18, 3), none, none, some (.aload_n 0, 1), some (.bipush 8, 2), none, some (.newarray .int, 2), none, some (.putfield 21, 3), none, none, some (.aload_n 0, 1), some (.iload_n 1, 1), some (.iload_n 2, 1), some (.imul, 1), some (.putfield 24, 3), none, none, some (.aload_n 0, 1), some (.aload_n 0, 1), some (.getfield 24, 3), none, none, some (.iconst 4, 1), some (.imul, 1), some (.newarray .int, 2), none, some (.putfield 28, 3), none, none, some (.iconst 0, 1), some (.istore 4, 2), none, some (.iload 4, 2), none, some (.aload_n 0, 1), some (.getfield 24, 3), none, none, some (.if_icmp .ge 121, 3), none, none, some (.iload 4, 2), none, some (.iload_n 1, 1), some (.irem, 1), some (.istore 5, 2), none, some (.iload 4, 2), none, some (.iload_n 1, 1), some (.idiv, 1), some (.istore 6, 2), none, some (.aload_n 0, 1), some (.getfield 28, 3), none, none, some (.iload 4, 2), none, some (.iconst 4, 1), some (.imul, 1), some (.iload 6, 2), none, some (.ifCond .le 10, 3), none, none, some (.iload 4, 2), none, some (.iload_n 1, 1), some (.isub, 1), some (.goto 4, 3), none, none, some (.iconst (-1), 1), some (.iastore, 1), some (.aload_n 0, 1), some (.getfield 28, 3), none, none, some (.iload 4, 2), none, some (.iconst 4, 1), some (.imul, 1), some (.iconst 1, 1), some (.iadd, 1), some (.iload 5, 2), none, some (.iload_n 1, 1), some (.iconst 1, 1), some (.isub, 1), some (.if_icmp .ge 10, 3), none, none, some (.iload 4, 2), none, some (.iconst 1, 1), some (.iadd, 1), some (.goto 4, 3), none, none, some (.iconst (-1), 1), some (.iastore, 1), some (.aload_n 0, 1), some (.getfield 28, 3), none, none, some (.iload 4, 2), none, some (.iconst 4, 1), some (.imul, 1), some (.iconst 2, 1), some (.iadd, 1), some (.iload 6, 2), none, some (.iload_n 2, 1), some (.iconst 1, 1), some (.isub, 1), some (.if_icmp .ge 10, 3), none, none, some (.iload 4, 2), none, some (.iload_n 1, 1), some (.iadd, 1), some (.goto 4, 3), none, none, some (.iconst (-1), 1), some (.iastore, 1), some (.aload_n 0, 1), some (.getfield 28, 3), none, none, some (.iload 4, 2), none, some (.iconst 4, 1), some (.imul, 1), some (.iconst 3, 1), some (.iadd, 1), some (.iload 5, 2), none, some (.ifCond .le 10, 3), none, none, some (.iload 4, 2), none, some (.iconst 1, 1), some (.isub, 1), some (.goto 4, 3), none, none, some (.iconst (-1), 1), some (.iastore, 1), some (.iinc 4 1, 3), none, none, some (.goto (-124), 3), none, none, some (.aload_n 0, 1), some (.aload_n 3, 1), some (.putfield 31, 3), none, none, some (.aload_n 0, 1), some (.iconst 0, 1), some (.putfield 35, 3), none, none, some (.return_, 1)]
def Y_X2_init : YM := (⟨RX2, "<init>", "(IILGameOfNoes$Sums;)V"⟩, prog_4_method_1_code, L_X2_init, 7, none)
def f_X2_init_154 (q58 : Option Nat → Int32 → Int32 → Option Nat → Int32 → Mem → Option (Unit × Mem)) (r0 : Option Nat) (i1 : Int32) (i2 : Int32) (r3 : Option Nat) (i4 : Int32) (i5 : Int32) (sr0 : Option Nat) (si1 : Int32) (si2 : Int32) (M : Mem) : Option (Unit × Mem) :=
wI M sr0 2 si1 si2 fun M1 =>
gR M1 r0 2 5 fun v1 =>
(if i5 ≤ 0 then
wI M1 v1 2 ((i4 * (4 : Int32)) + (3 : Int32)) (-1 : Int32) fun M2 =>
q58 r0 i1 i2 r3 (i4 + (1 : Int32)) M2
else
wI M1 v1 2 ((i4 * (4 : Int32)) + (3 : Int32)) (i4 - (1 : Int32)) fun M3 =>
q58 r0 i1 i2 r3 (i4 + (1 : Int32)) M3)
def f_X2_init_127 (q58 : Option Nat → Int32 → Int32 → Option Nat → Int32 → Mem → Option (Unit × Mem)) (r0 : Option Nat) (i1 : Int32) (i2 : Int32) (r3 : Option Nat) (i4 : Int32) (i5 : Int32) (i6 : Int32) (sr0 : Option Nat) (si1 : Int32) (si2 : Int32) (M : Mem) : Option (Unit × Mem) :=
wI M sr0 2 si1 si2 fun M1 =>
gR M1 r0 2 5 fun v1 =>
(if (i2 - (1 : Int32)) ≤ i6 then
f_X2_init_154 q58 r0 i1 i2 r3 i4 i5 v1 ((i4 * (4 : Int32)) + (2 : Int32)) (-1 : Int32) M1
else
f_X2_init_154 q58 r0 i1 i2 r3 i4 i5 v1 ((i4 * (4 : Int32)) + (2 : Int32)) (i4 + i1) M1)
def f_X2_init_100 (q58 : Option Nat → Int32 → Int32 → Option Nat → Int32 → Mem → Option (Unit × Mem)) (r0 : Option Nat) (i1 : Int32) (i2 : Int32) (r3 : Option Nat) (i4 : Int32) (i5 : Int32) (i6 : Int32) (sr0 : Option Nat) (si1 : Int32) (si2 : Int32) (M : Mem) : Option (Unit × Mem) :=
wI M sr0 2 si1 si2 fun M1 =>
gR M1 r0 2 5 fun v1 =>
(if (i1 - (1 : Int32)) ≤ i5 then
f_X2_init_127 q58 r0 i1 i2 r3 i4 i5 i6 v1 ((i4 * (4 : Int32)) + (1 : Int32)) (-1 : Int32) M1
else
f_X2_init_127 q58 r0 i1 i2 r3 i4 i5 i6 v1 ((i4 * (4 : Int32)) + (1 : Int32)) (i4 + (1 : Int32)) M1)
def b_X2_init_58 (q58 : Option Nat → Int32 → Int32 → Option Nat → Int32 → Mem → Option (Unit × Mem)) (r0 : Option Nat) (i1 : Int32) (i2 : Int32) (r3 : Option Nat) (i4 : Int32) (M : Mem) : Option (Unit × Mem) :=
gI M r0 2 4 fun v1 =>
(if v1 ≤ i4 then
pR M r0 2 7 r3 fun M1 =>
pI M1 r0 2 3 (0 : Int32) fun M2 =>
some ((), M2)
else
nzI i1 (
nzI i1 (
gR M r0 2 5 fun v2 =>
(if (i4 / i1) ≤ 0 then
f_X2_init_100 q58 r0 i1 i2 r3 i4 (i4 - i4 / i1 * i1) (i4 / i1) v2 (i4 * (4 : Int32)) (-1 : Int32) M
else
f_X2_init_100 q58 r0 i1 i2 r3 i4 (i4 - i4 / i1 * i1) (i4 / i1) v2 (i4 * (4 : Int32)) (i4 - i1) M))))
def f_X2_init_58 (n : Nat) : Option Nat → Int32 → Int32 → Option Nat → Int32 → Mem → Option (Unit × Mem) := lpN (fun _ _ _ _ _ _ => none) (b_X2_init_58 ) n
def f_X2_init (r0 : Option Nat) (i1 : Int32) (i2 : Int32) (r3 : Option Nat) (M : Mem) : Option (Unit × Mem) :=
cN r0 (fun _ =>
nA M 2 (8 : Int32) 8 fun v1 M1 =>
pR M1 r0 2 0 v1 fun M2 =>
nA M2 2 (8 : Int32) 8 fun v2 M3 =>
pR M3 r0 2 1 v2 fun M4 =>
nA M4 2 (8 : Int32) 8 fun v3 M5 =>
pR M5 r0 2 2 v3 fun M6 =>
nA M6 2 (8 : Int32) 8 fun v4 M7 =>
pR M7 r0 2 6 v4 fun M8 =>
pI M8 r0 2 4 (i1 * i2) fun M9 =>
gI M9 r0 2 4 fun v5 =>
nA M9 2 (v5 * (4 : Int32)) 48 fun v6 M10 =>
pR M10 r0 2 5 v6 fun M11 =>
f_X2_init_58 FU r0 i1 i2 r3 (0 : Int32) M11)
def L_X3_init : List (Option (Instr × Nat)) := [some (.aload_n 0, 1), some (.invokespecial 3, 3), none, none, some (.aload_n 0, 1), some (.bipush 8, 2), none, some (.newarray .int, 2), none, some (.putfield 9, 3), none, none, some (.aload_n 0, 1), some (.aload_n 1, 1), some (.putfield 15, 3), none, none, some (.aload_n 0, 1), some (.aload_n 2, 1), some (.putfield 19, 3), none, none, some (.aload_n 0, 1), some (.aload_n 3, 1), some (.putfield 23, 3), none, none, some (.aload_n 0, 1), some (.iconst 0, 1), some (.putfield 27, 3), none, none, some (.aload_n 0, 1), some (.iconst 0, 1), some (.putfield 31, 3), none, none, some (.return_, 1)]
def Y_X3_init : YM := (⟨RX3, "<init>", "(LGameOfNoes$Options;LGameOfNoes$Sums;LGameOfNoes$Triples;)V"⟩, prog_5_method_1_code, L_X3_init, 4, none)
def f_X3_init (r0 : Option Nat) (r1 : Option Nat) (r2 : Option Nat) (r3 : Option Nat) (M : Mem) : Option (Unit × Mem) :=
cN r0 (fun _ =>
nA M 2 (8 : Int32) 8 fun v1 M1 =>
pR M1 r0 3 5 v1 fun M2 =>
pR M2 r0 3 2 r1 fun M3 =>
pR M3 r0 3 3 r2 fun M4 =>
pR M4 r0 3 4 r3 fun M5 =>
pI M5 r0 3 0 (0 : Int32) fun M6 =>
pI M6 r0 3 1 (0 : Int32) fun M7 =>
some ((), M7))
def L_X4_init : List (Option (Instr × Nat)) := [some (.aload_n 0, 1), some (.invokespecial 3, 3), none, none, some (.aload_n 0, 1), some (.lconst 0, 1), some (.putfield 9, 3), none, none, some (.aload_n 0, 1), some (.iconst 0, 1), some (.putfield 15, 3), none, none, some (.aload_n 0, 1), some (.iconst 0, 1), some (.putfield 19, 3), none, none, some (.return_, 1)]
def Y_X4_init : YM := (⟨RX4, "<init>", "()V"⟩, prog_6_method_1_code, L_X4_init, 1, none)
def f_X4_init (r0 : Option Nat) (M : Mem) : Option (Unit × Mem) :=
cN r0 (fun _ =>
pL M r0 4 0 (0 : Int64) fun M1 =>
pI M1 r0 4 1 (0 : Int32) fun M2 =>
pI M2 r0 4 2 (0 : Int32) fun M3 =>
some ((), M3))
def L_X5_init : List (Option (Instr × Nat)) := [some (.aload_n 0, 1), some (.invokespecial 3, 3), none, none, some (.aload_n 0, 1), some (.sipush 300, 3), none, none, some (.newarray .int, 2), none, some (.putfield 9, 3), none, none, some (.aload_n 0, 1), some (.iconst 0, 1), some (.putfield 15, 3), none, none, some (.aload_n 0, 1), some (.iconst (-1), 1), some (.putfield 19, 3), none, none, some (.aload_n 0, 1), some (.iconst (-1), 1), some (.putfield 22, 3), none, none, some (.return_, 1)]
def Y_X5_init : YM := (⟨RX5, "<init>", "()V"⟩, prog_7_method_1_code, L_X5_init, 1, none)
def f_X5_init (r0 : Option Nat) (M : Mem) : Option (Unit × Mem) :=
cN r0 (fun _ =>
nA M 2 (300 : Int32) 300 fun v1 M1 =>
pR M1 r0 5 0 v1 fun M2 =>
pI M2 r0 5 1 (0 : Int32) fun M3 =>
pI M3 r0 5 2 (-1 : Int32) fun M4 =>
pI M4 r0 5 3 (-1 : Int32) fun M5 =>
some ((), M5))
def L_X1_init : List (Option (Instr × Nat)) := [some (.aload_n 0, 1), some (.invokespecial 1, 3), none, none, some (.aload_n 0, 1), some (.iload_n 1, 1), some (.putfield 7, 3), none, none, some (.return_, 1)]
def Y_X1_init : YM := (⟨RX1, "<init>", "(I)V"⟩, prog_3_method_1_code, L_X1_init, 2, none)
def f_X1_init (r0 : Option Nat) (i1 : Int32) (M : Mem) : Option (Unit × Mem) :=
cN r0 (fun _ =>
pI M r0 1 0 i1 fun M1 =>
some ((), M1))
def L_X6_init : List (Option (Instr × Nat)) := [some (.aload_n 0, 1), some (.invokespecial 3, 3), none, none, some (.aload_n 0, 1), some (.bipush 20, 2), none, some (.anewarray 11, 3), none, none, some (.putfield 13, 3), none, none, some (.aload_n 0, 1), some (.bipush 8, 2), none, some (.anewarray 11, 3), none, none, some (.putfield 17, 3), none, none, some (.aload_n 0, 1), some (.iconst 4, 1), some (.anewarray 11, 3), none, none, some (.putfield 20, 3), none, none, some (.aload_n 0, 1), some (.sipush 300, 3), none, none, some (.newarray .int, 2), none, some (.putfield 23, 3), none, none, some (.iconst 0, 1), some (.istore_n 1, 1), some (.iload_n 1, 1), some (.bipush 20, 2), none, some (.if_icmp .ge 23, 3), none, none, some (.aload_n 0, 1), some (.getfield 13, 3), none, none, some (.iload_n 1, 1), some (.new 11, 3), none, none, some (.dup, 1), some (.iload_n 1, 1), some (.invokespecial 27, 3), none, none, some (.aastore, 1), some (.iinc 1 1, 3), none, none, some (.goto (-23), 3), none, none, some (.aload_n 0, 1), some (.iconst 0, 1), some (.putfield 30, 3), none, none, some (.aload_n 0, 1), some (.iconst 0, 1), some (.putfield 34, 3), none, none, some (.return_, 1)]
def Y_X6_init : YM := (⟨RX6, "<init>", "()V"⟩, prog_8_method_1_code, L_X6_init, 2, none)
def b_X6_init_41 (q41 : Option Nat → Int32 → Mem → Option (Unit × Mem)) (r0 : Option Nat) (i1 : Int32) (M : Mem) : Option (Unit × Mem) :=
(if (20 : Int32) ≤ i1 then
pI M r0 6 4 (0 : Int32) fun M1 =>
pI M1 r0 6 5 (0 : Int32) fun M2 =>
some ((), M2)
else
gR M r0 6 0 fun v1 =>
nW M 1 fun v2 M3 =>
cN v2 (fun _ => cA (f_X1_init v2 i1 M3) fun _ M4 =>
wR M4 v1 6 i1 v2 fun M5 =>
q41 r0 (i1 + (1 : Int32)) M5))
def f_X6_init_41 (n : Nat) : Option Nat → Int32 → Mem → Option (Unit × Mem) := lpN (fun _ _ _ => none) (b_X6_init_41 ) n
def f_X6_init (r0 : Option Nat) (M : Mem) : Option (Unit × Mem) :=
cN r0 (fun _ =>
nA M 6 (20 : Int32) 20 fun v1 M1 =>
pR M1 r0 6 0 v1 fun M2 =>
nA M2 6 (8 : Int32) 8 fun v2 M3 =>
pR M3 r0 6 1 v2 fun M4 =>
nA M4 6 (4 : Int32) 4 fun v3 M5 =>
pR M5 r0 6 2 v3 fun M6 =>
nA M6 2 (300 : Int32) 300 fun v4 M7 =>
pR M7 r0 6 3 v4 fun M8 =>
f_X6_init_41 21 r0 (0 : Int32) M8)
def L_X7_init : List (Option (Instr × Nat)) := [some (.aload_n 0, 1), some (.invokespecial 3, 3), none, none, some (.aload_n 0, 1), some (.new 9, 3), none, none, some (.dup, 1), some (.invokespecial 11, 3), none, none, some (.putfield 12, 3), none, none, some (.aload_n 0, 1), some (.iconst 2, 1), some (.newarray .int, 2), none, some (.putfield 18, 3), none, none, some (.aload_n 0, 1), some (.sipush 200, 3), none, none, some (.newarray .int, 2), none, some (.putfield 22, 3), none, none, some (.aload_n 0, 1), some (.iconst 0, 1), some (.putfield 25, 3), none, none, some (.aload_n 0, 1), some (.iconst 0, 1), some (.putfield 29, 3), none, none, some (.aload_n 0, 1), some (.iconst (-1), 1), some (.putfield 32, 3), none, none, some (.aload_n 0, 1), some (.getfield 18, 3), none, none, some (.iconst 0, 1), some (.iconst (-1), 1), some (.iastore, 1), some (.aload_n 0, 1), some (.getfield 18, 3), none, none, some (.iconst 1, 1), some (.iconst (-1), 1), some (.iastore, 1), some (.return_, 1)]
def Y_X7_init : YM := (⟨RX7, "<init>", "()V"⟩, prog_9_method_1_code, L_X7_init, 1, none)
def f_X7_init (r0 : Option Nat) (M : Mem) : Option (Unit × Mem) :=
cN r0 (fun _ =>
nW M 4 fun v1 M1 =>
cN v1 (fun _ => cA (f_X4_init v1 M1) fun _ M2 =>
pR M2 r0 7 0 v1 fun M3 =>
nA M3 2 (2 : Int32) 2 fun v2 M4 =>
pR M4 r0 7 1 v2 fun M5 =>
nA M5 2 (200 : Int32) 200 fun v3 M6 =>
pR M6 r0 7 2 v3 fun M7 =>
pI M7 r0 7 3 (0 : Int32) fun M8 =>
pI M8 r0 7 4 (0 : Int32) fun M9 =>
pI M9 r0 7 5 (-1 : Int32) fun M10 =>
gR M10 r0 7 1 fun v4 =>
wI M10 v4 2 (0 : Int32) (-1 : Int32) fun M11 =>
gR M11 r0 7 1 fun v5 =>
wI M11 v5 2 (1 : Int32) (-1 : Int32) fun M12 =>
some ((), M12)))
def L_X8_init : List (Option (Instr × Nat)) := [some (.aload_n 0, 1), some (.invokespecial 3, 3), none, none, some (.aload_n 0, 1), some (.sipush 2000, 3), none, none, some (.newarray .int, 2), none, some (.putfield 11, 3), none, none, some (.aload_n 0, 1), some (.ldc 15, 2), none, some (.newarray .int, 2), none, some (.putfield 16, 3), none, none, some (.aload_n 0, 1), some (.sipush 2000, 3), none, none, some (.newarray .long, 2), none, some (.putfield 19, 3), none, none, some (.aload_n 0, 1), some (.sipush 2000, 3), none, none, some (.newarray .int, 2), none, some (.putfield 23, 3), none, none, some (.aload_n 0, 1), some (.sipush 4096, 3), none, none, some (.newarray .int, 2), none, some (.putfield 26, 3), none, none, some (.aload_n 0, 1), some (.new 29, 3), none, none, some (.dup, 1), some (.invokespecial 31, 3), none, none, some (.putfield 32, 3), none, none, some (.aload_n 0, 1), some (.new 29, 3), none, none, some (.dup, 1), some (.invokespecial 31, 3), none, none, some (.putfield 36, 3), none, none, some (.aload_n 0, 1), some (.new 29, 3), none, none, some (.dup, 1), some (.invokespecial 31, 3), none, none, some (.putfield 39, 3), none, none, some (.aload_n 0, 1), some (.aload_n 1, 1), some (.putfield 42, 3), none, none, some (.aload_n 0, 1), some (.iconst 0, 1), some (.putfield 46, 3), none, none, some (.aload_n 0, 1), some (.iconst 0, 1), some (.putfield 50, 3), none, none, some (.aload_n 0, 1), some (.aconst_null, 1), some (.putfield 54, 3), none, none, some (.return_, 1)]
def Y_X8_init : YM := (⟨RX8, "<init>", "(LGameOfNoes$Options;)V"⟩, prog_10_method_1_code, L_X8_init, 2, none)
def f_X8_init (r0 : Option Nat) (r1 : Option Nat) (M : Mem) : Option (Unit × Mem) :=
cN r0 (fun _ =>
nA M 2 (2000 : Int32) 2000 fun v1 M1 =>
pR M1 r0 8 0 v1 fun M2 =>
nA M2 2 (128000 : Int32) 128000 fun v2 M3 =>
pR M3 r0 8 1 v2 fun M4 =>
nA M4 3 (2000 : Int32) 2000 fun v3 M5 =>
pR M5 r0 8 4 v3 fun M6 =>
nA M6 2 (2000 : Int32) 2000 fun v4 M7 =>
pR M7 r0 8 5 v4 fun M8 =>
nA M8 2 (4096 : Int32) 4096 fun v5 M9 =>
pR M9 r0 8 6 v5 fun M10 =>
nW M10 4 fun v6 M11 =>
cN v6 (fun _ => cA (f_X4_init v6 M11) fun _ M12 =>
pR M12 r0 8 8 v6 fun M13 =>
nW M13 4 fun v7 M14 =>
cN v7 (fun _ => cA (f_X4_init v7 M14) fun _ M15 =>
pR M15 r0 8 9 v7 fun M16 =>
nW M16 4 fun v8 M17 =>
cN v8 (fun _ => cA (f_X4_init v8 M17) fun _ M18 =>
pR M18 r0 8 10 v8 fun M19 =>
pR M19 r0 8 7 r1 fun M20 =>
pI M20 r0 8 2 (0 : Int32) fun M21 =>
tv (0 : Int32) (pI M21 r0 8 3 (0 : Int32) fun M22 =>
pR M22 r0 8 11 none fun M23 =>
some ((), M23))))))
def L_X9_init : List (Option (Instr × Nat)) := [some (.aload_n 0, 1), some (.invokespecial 3, 3), none, none, some (.aload_n 0, 1), some (.bipush 7, 2), none, some (.newarray .int, 2), none, some (.putfield 9, 3), none, none, some (.aload_n 0, 1), some (.bipush 64, 2), none, some (.newarray .int, 2), none, some (.putfield 15, 3), none, none, some (.return_, 1)]
def Y_X9_init : YM := (⟨RX9, "<init>", "()V"⟩, prog_11_method_1_code, L_X9_init, 1, none)
def f_X9_init (r0 : Option Nat) (M : Mem) : Option (Unit × Mem) :=
cN r0 (fun _ =>
nA M 2 (7 : Int32) 7 fun v1 M1 =>
pR M1 r0 9 0 v1 fun M2 =>
nA M2 2 (64 : Int32) 64 fun v2 M3 =>
pR M3 r0 9 1 v2 fun M4 =>
some ((), M4))
theorem mk_2_3 : Jvm.Cond.methodLink RX2 3 Lib.objectInit ∈ gw := gw_in 240 (by decide +kernel) (by decide +kernel)
theorem mk_3_3 : Jvm.Cond.methodLink RX3 3 Lib.objectInit ∈ gw := gw_in 279 (by decide +kernel) (by decide +kernel)
theorem fl_3_9 : FLk RX3 9 3 5 true := ⟨_, rfl, by decide, (gw_in 287 (by decide +kernel) (by decide +kernel)), rfl⟩
theorem fl_3_15 : FLk RX3 15 3 2 true := ⟨_, rfl, by decide, (gw_in 284 (by decide +kernel) (by decide +kernel)), rfl⟩
theorem fl_3_19 : FLk RX3 19 3 3 true := ⟨_, rfl, by decide, (gw_in 285 (by decide +kernel) (by decide +kernel)), rfl⟩
theorem fl_3_23 : FLk RX3 23 3 4 true := ⟨_, rfl, by decide, (gw_in 286 (by decide +kernel) (by decide +kernel)), rfl⟩
theorem fl_3_27 : FLk RX3 27 3 0 false := ⟨_, rfl, by decide, (gw_in 280 (by decide +kernel) (by decide +kernel)), rfl⟩
theorem fl_3_31 : FLk RX3 31 3 1 false := ⟨_, rfl, by decide, (gw_in 282 (by decide +kernel) (by decide +kernel)), rfl⟩
theorem mk_4_3 : Jvm.Cond.methodLink RX4 3 Lib.objectInit ∈ gw := gw_in 42 (by decide +kernel) (by decide +kernel)
theorem mk_5_3 : Jvm.Cond.methodLink RX5 3 Lib.objectInit ∈ gw := gw_in 169 (by decide +kernel) (by decide +kernel)
theorem fl_5_19 : FLk RX5 19 5 2 false := ⟨_, rfl, by decide, (gw_in 173 (by decide +kernel) (by decide +kernel)), rfl⟩
theorem fl_5_22 : FLk RX5 22 5 3 false := ⟨_, rfl, by decide, (gw_in 175 (by decide +kernel) (by decide +kernel)), rfl⟩
theorem mk_1_1 : Jvm.Cond.methodLink RX1 1 Lib.objectInit ∈ gw := gw_in 99 (by decide +kernel) (by decide +kernel)
theorem fl_1_7 : FLk RX1 7 1 0 true := ⟨_, rfl, by decide, (gw_in 100 (by decide +kernel) (by decide +kernel)), rfl⟩
theorem fl_6_30 : FLk RX6 30 6 4 false := ⟨_, rfl, by decide, (gw_in 147 (by decide +kernel) (by decide +kernel)), rfl⟩
theorem fl_6_34 : FLk RX6 34 6 5 false := ⟨_, rfl, by decide, (gw_in 149 (by decide +kernel) (by decide +kernel)), rfl⟩
theorem fl_6_13 : FLk RX6 13 6 0 true := ⟨_, rfl, by decide, (gw_in 139 (by decide +kernel) (by decide +kernel)), rfl⟩
theorem cn_6_11 : CNk RX6 11 1 9 := ⟨_, rfl, rfl, (gw_in 93 (by decide +kernel) (by decide +kernel)), (gw_in 95 (by decide +kernel) (by decide +kernel)), (gw_in 5 (by decide +kernel) (by decide +kernel))⟩
set_option maxRecDepth 30000 in
theorem ok_X1_init : okY Y_X1_init := ⟨(gw_in 98 rfl rfl), (gw_in 5 (by decide +kernel) (by decide +kernel)), by decide +kernel, by decide +kernel⟩
theorem ml_6_27 : MLi RX6 27 Y_X1_init 1 := ⟨(gw_in 96 (by decide +kernel) (by decide +kernel)), (gw_in 97 (by decide +kernel) (by decide +kernel)), rfl, rfl, ok_X1_init, by decide +kernel⟩
theorem mk_6_3 : Jvm.Cond.methodLink RX6 3 Lib.objectInit ∈ gw := gw_in 92 (by decide +kernel) (by decide +kernel)
theorem ck_6_11 : Jvm.Cond.classLink RX6 11 RX1 ∈ gw := gw_in 93 (by decide +kernel) (by decide +kernel)
theorem fl_6_17 : FLk RX6 17 6 1 true := ⟨_, rfl, by decide, (gw_in 142 (by decide +kernel) (by decide +kernel)), rfl⟩
theorem fl_6_23 : FLk RX6 23 6 3 true := ⟨_, rfl, by decide, (gw_in 145 (by decide +kernel) (by decide +kernel)), rfl⟩
theorem mk_7_3 : Jvm.Cond.methodLink RX7 3 Lib.objectInit ∈ gw := gw_in 36 (by decide +kernel) (by decide +kernel)
theorem cn_7_9 : CNk RX7 9 4 3 := ⟨_, rfl, rfl, (gw_in 37 (by decide +kernel) (by decide +kernel)), (gw_in 38 (by decide +kernel) (by decide +kernel)), (gw_in 3 (by decide +kernel) (by decide +kernel))⟩
set_option maxRecDepth 30000 in
theorem ok_X4_init : okY Y_X4_init := ⟨(gw_in 41 rfl rfl), (gw_in 3 (by decide +kernel) (by decide +kernel)), by decide +kernel, by decide +kernel⟩
theorem ml_7_11 : MLi RX7 11 Y_X4_init 0 := ⟨(gw_in 39 (by decide +kernel) (by decide +kernel)), (gw_in 40 (by decide +kernel) (by decide +kernel)), rfl, rfl, ok_X4_init, by decide +kernel⟩
theorem mk_8_3 : Jvm.Cond.methodLink RX8 3 Lib.objectInit ∈ gw := gw_in 306 (by decide +kernel) (by decide +kernel)
theorem kc_8_15 : Jvm.Cond.constant RX8 15 (128000) ∈ gw := gw_in 307 (by decide +kernel) (by decide +kernel)
theorem cn_8_29 : CNk RX8 29 4 3 := ⟨_, rfl, rfl, (gw_in 308 (by decide +kernel) (by decide +kernel)), (gw_in 38 (by decide +kernel) (by decide +kernel)), (gw_in 3 (by decide +kernel) (by decide +kernel))⟩
theorem ml_8_31 : MLi RX8 31 Y_X4_init 0 := ⟨(gw_in 309 (by decide +kernel) (by decide +kernel)), (gw_in 40 (by decide +kernel) (by decide +kernel)), rfl, rfl, ok_X4_init, by decide +kernel⟩
theorem mk_9_3 : Jvm.Cond.methodLink RX9 3 Lib.objectInit ∈ gw := gw_in 226 (by decide +kernel) (by decide +kernel)
set_option maxRecDepth 20000 in
theorem dk_X2_init : ∀ pc i, L_X2_init[pc]? = some (some i) → decode prog_4_method_1_code pc = .ok i := dk_of (by decide +kernel)
theorem s_X2_init_154 {d : Nat} {P : Unit → Mem → Prop} {q58 : Option Nat → Int32 → Int32 → Option Nat → Int32 → Mem → Option (Unit × Mem)} (hq58 : ∀ (r0 : Option Nat) (i1 : Int32) (i2 : Int32) (r3 : Option Nat) (i4 : Int32) (M : Mem), FQ (q58 r0 i1 i2 r3 i4 M) P → wp Y_X2_init (rmD (d + 1) 5 80) (FM (QV P) 5 80) 5 80 58 [some (va_rf r0), some (.int i1), some (.int i2), some (va_rf r3), some (.int i4), none, none] [] M) (r0 : Option Nat) (i1 : Int32) (i2 : Int32) (r3 : Option Nat) (i4 : Int32) (i5 : Int32) (sr0 : Option Nat) (si1 : Int32) (si2 : Int32) (M : Mem) (h : FQ (f_X2_init_154 q58 r0 i1 i2 r3 i4 i5 sr0 si1 si2 M) P) : wp Y_X2_init (rmD (d + 1) 5 80) (FM (QV P) 5 80) 5 80 154 [some (va_rf r0), some (.int i1), some (.int i2), some (va_rf r3), some (.int i4), some (.int i5), none] [.int si2, .int si1, va_rf sr0] M := by
  unfold f_X2_init_154 at h
  refine r_iast rfl h (fun M1 h => ?_)
  refine r_aload_n rfl rfl ?_
  refine r_getR rfl fl_2_28 rfl h (fun v1 h => ?_)
  refine r_iload rfl rfl ?_
  refine r_iconst (v := 4) rfl (by decide) ?_
  refine r_imul rfl ?_
  refine r_iconst (v := 3) rfl (by decide) ?_
  refine r_iadd rfl ?_
  refine r_iload rfl rfl ?_
  refine r_if_le 177 rfl (by decide) h (fun h => ?_) (fun h => ?_)
  · refine r_iconst (v := -1) rfl (by decide) ?_
    refine r_iast rfl h (fun M2 h => ?_)
    refine r_iinc (v := 1) (lo' := [some (va_rf r0), some (.int i1), some (.int i2), some (va_rf r3), some (.int (i4 + (1 : Int32))), some (.int i5), none]) rfl rfl rfl (by decide) (by simp [stOk, cat_rf]) rfl ?_
    refine r_goto 58 rfl (by decide) ?_
    refine r_msk [true, true, true, true, true, false, true] rfl ?_
    exact hq58 _ _ _ _ _ _ h
  · refine r_iload rfl rfl ?_
    refine r_iconst (v := 1) rfl (by decide) ?_
    refine r_isub rfl ?_
    refine r_goto 178 rfl (by decide) ?_
    refine r_iast rfl h (fun M3 h => ?_)
    refine r_iinc (v := 1) (lo' := [some (va_rf r0), some (.int i1), some (.int i2), some (va_rf r3), some (.int (i4 + (1 : Int32))), some (.int i5), none]) rfl rfl rfl (by decide) (by simp [stOk, cat_rf]) rfl ?_
    refine r_goto 58 rfl (by decide) ?_
    refine r_msk [true, true, true, true, true, false, true] rfl ?_
    exact hq58 _ _ _ _ _ _ h
theorem s_X2_init_127 {d : Nat} {P : Unit → Mem → Prop} {q58 : Option Nat → Int32 → Int32 → Option Nat → Int32 → Mem → Option (Unit × Mem)} (hq58 : ∀ (r0 : Option Nat) (i1 : Int32) (i2 : Int32) (r3 : Option Nat) (i4 : Int32) (M : Mem), FQ (q58 r0 i1 i2 r3 i4 M) P → wp Y_X2_init (rmD (d + 1) 5 80) (FM (QV P) 5 80) 5 80 58 [some (va_rf r0), some (.int i1), some (.int i2), some (va_rf r3), some (.int i4), none, none] [] M) (r0 : Option Nat) (i1 : Int32) (i2 : Int32) (r3 : Option Nat) (i4 : Int32) (i5 : Int32) (i6 : Int32) (sr0 : Option Nat) (si1 : Int32) (si2 : Int32) (M : Mem) (h : FQ (f_X2_init_127 q58 r0 i1 i2 r3 i4 i5 i6 sr0 si1 si2 M) P) : wp Y_X2_init (rmD (d + 1) 5 80) (FM (QV P) 5 80) 5 80 127 [some (va_rf r0), some (.int i1), some (.int i2), some (va_rf r3), some (.int i4), some (.int i5), some (.int i6)] [.int si2, .int si1, va_rf sr0] M := by
  unfold f_X2_init_127 at h
  refine r_iast rfl h (fun M1 h => ?_)
  refine r_aload_n rfl rfl ?_
  refine r_getR rfl fl_2_28 rfl h (fun v1 h => ?_)
  refine r_iload rfl rfl ?_
  refine r_iconst (v := 4) rfl (by decide) ?_
  refine r_imul rfl ?_
  refine r_iconst (v := 2) rfl (by decide) ?_
  refine r_iadd rfl ?_
  refine r_iload rfl rfl ?_
  refine r_iload_n rfl rfl ?_
  refine r_iconst (v := 1) rfl (by decide) ?_
  refine r_isub rfl ?_
  refine r_ic_ge 153 rfl (by decide) h (fun h => ?_) (fun h => ?_)
  · refine r_iconst (v := -1) rfl (by decide) ?_
    refine r_msk [true, true, true, true, true, true, false] rfl ?_
    exact s_X2_init_154 hq58 _ _ _ _ _ _ _ _ _ _ h
  · refine r_iload rfl rfl ?_
    refine r_iload_n rfl rfl ?_
    refine r_iadd rfl ?_
    refine r_goto 154 rfl (by decide) ?_
    refine r_msk [true, true, true, true, true, true, false] rfl ?_
    exact s_X2_init_154 hq58 _ _ _ _ _ _ _ _ _ _ h
theorem s_X2_init_100 {d : Nat} {P : Unit → Mem → Prop} {q58 : Option Nat → Int32 → Int32 → Option Nat → Int32 → Mem → Option (Unit × Mem)} (hq58 : ∀ (r0 : Option Nat) (i1 : Int32) (i2 : Int32) (r3 : Option Nat) (i4 : Int32) (M : Mem), FQ (q58 r0 i1 i2 r3 i4 M) P → wp Y_X2_init (rmD (d + 1) 5 80) (FM (QV P) 5 80) 5 80 58 [some (va_rf r0), some (.int i1), some (.int i2), some (va_rf r3), some (.int i4), none, none] [] M) (r0 : Option Nat) (i1 : Int32) (i2 : Int32) (r3 : Option Nat) (i4 : Int32) (i5 : Int32) (i6 : Int32) (sr0 : Option Nat) (si1 : Int32) (si2 : Int32) (M : Mem) (h : FQ (f_X2_init_100 q58 r0 i1 i2 r3 i4 i5 i6 sr0 si1 si2 M) P) : wp Y_X2_init (rmD (d + 1) 5 80) (FM (QV P) 5 80) 5 80 100 [some (va_rf r0), some (.int i1), some (.int i2), some (va_rf r3), some (.int i4), some (.int i5), some (.int i6)] [.int si2, .int si1, va_rf sr0] M := by
  unfold f_X2_init_100 at h
  refine r_iast rfl h (fun M1 h => ?_)
  refine r_aload_n rfl rfl ?_
  refine r_getR rfl fl_2_28 rfl h (fun v1 h => ?_)
  refine r_iload rfl rfl ?_
  refine r_iconst (v := 4) rfl (by decide) ?_
  refine r_imul rfl ?_
  refine r_iconst (v := 1) rfl (by decide) ?_
  refine r_iadd rfl ?_
  refine r_iload rfl rfl ?_
  refine r_iload_n rfl rfl ?_
  refine r_iconst (v := 1) rfl (by decide) ?_
  refine r_isub rfl ?_
  refine r_ic_ge 126 rfl (by decide) h (fun h => ?_) (fun h => ?_)
  · refine r_iconst (v := -1) rfl (by decide) ?_
    exact s_X2_init_127 hq58 _ _ _ _ _ _ _ _ _ _ _ h
  · refine r_iload rfl rfl ?_
    refine r_iconst (v := 1) rfl (by decide) ?_
    refine r_iadd rfl ?_
    refine r_goto 127 rfl (by decide) ?_
    exact s_X2_init_127 hq58 _ _ _ _ _ _ _ _ _ _ _ h
theorem sb_X2_init_58 {d : Nat} {P : Unit → Mem → Prop} {q58 : Option Nat → Int32 → Int32 → Option Nat → Int32 → Mem → Option (Unit × Mem)} (hq58 : ∀ (r0 : Option Nat) (i1 : Int32) (i2 : Int32) (r3 : Option Nat) (i4 : Int32) (M : Mem), FQ (q58 r0 i1 i2 r3 i4 M) P → wp Y_X2_init (rmD (d + 1) 5 80) (FM (QV P) 5 80) 5 80 58 [some (va_rf r0), some (.int i1), some (.int i2), some (va_rf r3), some (.int i4), none, none] [] M) (r0 : Option Nat) (i1 : Int32) (i2 : Int32) (r3 : Option Nat) (i4 : Int32) (M : Mem) (h : FQ (b_X2_init_58 q58 r0 i1 i2 r3 i4 M) P) : wp Y_X2_init (rmD (d + 1) 5 80) (FM (QV P) 5 80) 5 80 58 [some (va_rf r0), some (.int i1), some (.int i2), some (va_rf r3), some (.int i4), none, none] [] M := by
  unfold b_X2_init_58 at h
  refine r_iload rfl rfl ?_
  refine r_aload_n rfl rfl ?_
  refine r_getI rfl fl_2_24 rfl h (fun v1 h => ?_)
  refine r_ic_ge 185 rfl (by decide) h (fun h => ?_) (fun h => ?_)
  · refine r_aload_n rfl rfl ?_
    refine r_aload_n rfl rfl ?_
    refine r_putR rfl fl_2_31 (fun _ => ⟨rfl, fun q hq => by cases hq; rfl⟩) (Or.inl ⟨_, rfl⟩) h (fun M1 h => ?_)
    refine r_aload_n rfl rfl ?_
    refine r_iconst (v := 0) rfl (by decide) ?_
    refine r_putI rfl fl_2_35 (fun z => by cases z) rfl h (fun M2 h => ?_)
    exact r_vret rfl rfl ⟨Nat.le_of_ble_eq_true rfl, Nat.le_of_ble_eq_true rfl⟩ h
  · refine r_iload rfl rfl ?_
    refine r_iload_n rfl rfl ?_
    refine r_irem rfl h (fun h => ?_)
    refine r_istore (lo' := [some (va_rf r0), some (.int i1), some (.int i2), some (va_rf r3), some (.int i4), some (.int (i4 - i4 / i1 * i1)), none]) rfl rfl rfl rfl ?_
    refine r_iload rfl rfl ?_
    refine r_iload_n rfl rfl ?_
    refine r_idiv rfl h (fun h => ?_)
    refine r_istore (lo' := [some (va_rf r0), some (.int i1), some (.int i2), some (va_rf r3), some (.int i4), some (.int (i4 - i4 / i1 * i1)), some (.int (i4 / i1))]) rfl rfl rfl rfl ?_
    refine r_aload_n rfl rfl ?_
    refine r_getR rfl fl_2_28 rfl h (fun v2 h => ?_)
    refine r_iload rfl rfl ?_
    refine r_iconst (v := 4) rfl (by decide) ?_
    refine r_imul rfl ?_
    refine r_iload rfl rfl ?_
    refine r_if_le 99 rfl (by decide) h (fun h => ?_) (fun h => ?_)
    · refine r_iconst (v := -1) rfl (by decide) ?_
      exact s_X2_init_100 hq58 _ _ _ _ _ _ _ _ _ _ _ h
    · refine r_iload rfl rfl ?_
      refine r_iload_n rfl rfl ?_
      refine r_isub rfl ?_
      refine r_goto 100 rfl (by decide) ?_
      exact s_X2_init_100 hq58 _ _ _ _ _ _ _ _ _ _ _ h
theorem s_X2_init_58 {d : Nat} {P : Unit → Mem → Prop}   : ∀ (k : Nat) (r0 : Option Nat) (i1 : Int32) (i2 : Int32) (r3 : Option Nat) (i4 : Int32) (M : Mem), FQ (f_X2_init_58  k r0 i1 i2 r3 i4 M) P → wp Y_X2_init (rmD (d + 1) 5 80) (FM (QV P) 5 80) 5 80 58 [some (va_rf r0), some (.int i1), some (.int i2), some (va_rf r3), some (.int i4), none, none] [] M
  | 0, _, _, _, _, _, _, h => h.no
  | k + 1, r0, i1, i2, r3, i4, M, h => sb_X2_init_58  (s_X2_init_58  k) r0 i1 i2 r3 i4 M h
theorem s_X2_init {d : Nat} {P : Unit → Mem → Prop} {r0 : Option Nat} {i1 : Int32} {i2 : Int32} {r3 : Option Nat} {M : Mem} (h : FQ (f_X2_init r0 i1 i2 r3 M) P) : Con Y_X2_init (d + 1) 5 80 [va_rf r0, .int i1, .int i2, va_rf r3] M (QV P) := by
  refine Con.of [some (va_rf r0), some (.int i1), some (.int i2), some (va_rf r3), none, none, none] (by decide +kernel) dk_X2_init (by simp [Y_X2_init, cat_rf, cat_i, cat_l]) (by simp [loE, Y_X2_init, cat_rf, cat_i, cat_l, List.replicate]) ?_
  unfold f_X2_init at h
  refine r_aload_n rfl rfl ?_
  refine r_obj rfl mk_2_3 ⟨by show 1 ≤ _ + 1; omega, by show 20 ≤ 64 * (_ + 1); omega⟩ rfl h (fun h => ?_)
  refine r_aload_n rfl rfl ?_
  refine r_bipush (v := 8) rfl (by decide) ?_
  refine r_newI 8 rfl (by decide) ⟨Nat.le_of_ble_eq_true rfl, Nat.le_of_ble_eq_true rfl⟩ h (fun v1 M1 h => ?_)
  refine r_putR rfl fl_2_9 (fun _ => ⟨rfl, fun q hq => by cases hq; rfl⟩) (Or.inr ⟨_, rfl⟩) h (fun M2 h => ?_)
  refine r_aload_n rfl rfl ?_
  refine r_bipush (v := 8) rfl (by decide) ?_
  refine r_newI 8 rfl (by decide) ⟨Nat.le_of_ble_eq_true rfl, Nat.le_of_ble_eq_true rfl⟩ h (fun v2 M3 h => ?_)
  refine r_putR rfl fl_2_15 (fun _ => ⟨rfl, fun q hq => by cases hq; rfl⟩) (Or.inr ⟨_, rfl⟩) h (fun M4 h => ?_)
  refine r_aload_n rfl rfl ?_
  refine r_bipush (v := 8) rfl (by decide) ?_
  refine r_newI 8 rfl (by decide) ⟨Nat.le_of_ble_eq_true rfl, Nat.le_of_ble_eq_true rfl⟩ h (fun v3 M5 h => ?_)
  refine r_putR rfl fl_2_18 (fun _ => ⟨rfl, fun q hq => by cases hq; rfl⟩) (Or.inr ⟨_, rfl⟩) h (fun M6 h => ?_)
  refine r_aload_n rfl rfl ?_
  refine r_bipush (v := 8) rfl (by decide) ?_
  refine r_newI 8 rfl (by decide) ⟨Nat.le_of_ble_eq_true rfl, Nat.le_of_ble_eq_true rfl⟩ h (fun v4 M7 h => ?_)
  refine r_putR rfl fl_2_21 (fun _ => ⟨rfl, fun q hq => by cases hq; rfl⟩) (Or.inr ⟨_, rfl⟩) h (fun M8 h => ?_)
  refine r_aload_n rfl rfl ?_
  refine r_iload_n rfl rfl ?_
  refine r_iload_n rfl rfl ?_
  refine r_imul rfl ?_
  refine r_putI rfl fl_2_24 (fun _ => ⟨rfl, fun q hq => by cases hq; rfl⟩) rfl h (fun M9 h => ?_)
  refine r_aload_n rfl rfl ?_
  refine r_aload_n rfl rfl ?_
  refine r_getI rfl fl_2_24 rfl h (fun v5 h => ?_)
  refine r_iconst (v := 4) rfl (by decide) ?_
  refine r_imul rfl ?_
  refine r_newI 48 rfl (by decide) ⟨Nat.le_of_ble_eq_true rfl, Nat.le_of_ble_eq_true rfl⟩ h (fun v6 M10 h => ?_)
  refine r_putR rfl fl_2_28 (fun _ => ⟨rfl, fun q hq => by cases hq; rfl⟩) (Or.inr ⟨_, rfl⟩) h (fun M11 h => ?_)
  refine r_iconst (v := 0) rfl (by decide) ?_
  refine r_istore (lo' := [some (va_rf r0), some (.int i1), some (.int i2), some (va_rf r3), some (.int (0 : Int32)), none, none]) rfl rfl (by simp [stOk, cat_rf]) rfl ?_
  exact s_X2_init_58 FU _ _ _ _ _ _ h
set_option maxRecDepth 20000 in
theorem dk_X3_init : ∀ pc i, L_X3_init[pc]? = some (some i) → decode prog_5_method_1_code pc = .ok i := dk_of (by decide +kernel)
theorem s_X3_init {d : Nat} {P : Unit → Mem → Prop} {r0 : Option Nat} {r1 : Option Nat} {r2 : Option Nat} {r3 : Option Nat} {M : Mem} (h : FQ (f_X3_init r0 r1 r2 r3 M) P) : Con Y_X3_init (d + 1) 1 8 [va_rf r0, va_rf r1, va_rf r2, va_rf r3] M (QV P) := by
  refine Con.of [some (va_rf r0), some (va_rf r1), some (va_rf r2), some (va_rf r3)] (by decide +kernel) dk_X3_init (by simp [Y_X3_init, cat_rf, cat_i, cat_l]) (by simp [loE, Y_X3_init, cat_rf, cat_i, cat_l, List.replicate]) ?_
  unfold f_X3_init at h
  refine r_aload_n rfl rfl ?_
  refine r_obj rfl mk_3_3 ⟨by show 1 ≤ _ + 1; omega, by show 20 ≤ 64 * (_ + 1); omega⟩ rfl h (fun h => ?_)
  refine r_aload_n rfl rfl ?_
  refine r_bipush (v := 8) rfl (by decide) ?_
  refine r_newI 8 rfl (by decide) ⟨Nat.le_of_ble_eq_true rfl, Nat.le_of_ble_eq_true rfl⟩ h (fun v1 M1 h => ?_)
  refine r_putR rfl fl_3_9 (fun _ => ⟨rfl, fun q hq => by cases hq; rfl⟩) (Or.inr ⟨_, rfl⟩) h (fun M2 h => ?_)
  refine r_aload_n rfl rfl ?_
  refine r_aload_n rfl rfl ?_
  refine r_putR rfl fl_3_15 (fun _ => ⟨rfl, fun q hq => by cases hq; rfl⟩) (Or.inl ⟨_, rfl⟩) h (fun M3 h => ?_)
  refine r_aload_n rfl rfl ?_
  refine r_aload_n rfl rfl ?_
  refine r_putR rfl fl_3_19 (fun _ => ⟨rfl, fun q hq => by cases hq; rfl⟩) (Or.inl ⟨_, rfl⟩) h (fun M4 h => ?_)
  refine r_aload_n rfl rfl ?_
  refine r_aload_n rfl rfl ?_
  refine r_putR rfl fl_3_23 (fun _ => ⟨rfl, fun q hq => by cases hq; rfl⟩) (Or.inl ⟨_, rfl⟩) h (fun M5 h => ?_)
  refine r_aload_n rfl rfl ?_
  refine r_iconst (v := 0) rfl (by decide) ?_
  refine r_putI rfl fl_3_27 (fun z => by cases z) rfl h (fun M6 h => ?_)
  refine r_aload_n rfl rfl ?_
  refine r_iconst (v := 0) rfl (by decide) ?_
  refine r_putI rfl fl_3_31 (fun z => by cases z) rfl h (fun M7 h => ?_)
  exact r_vret rfl rfl ⟨Nat.le_of_ble_eq_true rfl, Nat.le_of_ble_eq_true rfl⟩ h
set_option maxRecDepth 20000 in
theorem dk_X4_init : ∀ pc i, L_X4_init[pc]? = some (some i) → decode prog_6_method_1_code pc = .ok i := dk_of (by decide +kernel)
theorem s_X4_init {d : Nat} {P : Unit → Mem → Prop} {r0 : Option Nat} {M : Mem} (h : FQ (f_X4_init r0 M) P) : Con Y_X4_init (d + 1) 0 0 [va_rf r0] M (QV P) := by
  refine Con.of [some (va_rf r0)] (by decide +kernel) dk_X4_init (by simp [Y_X4_init, cat_rf, cat_i, cat_l]) (by simp [loE, Y_X4_init, cat_rf, cat_i, cat_l, List.replicate]) ?_
  unfold f_X4_init at h
  refine r_aload_n rfl rfl ?_
  refine r_obj rfl mk_4_3 ⟨by show 1 ≤ _ + 1; omega, by show 20 ≤ 64 * (_ + 1); omega⟩ rfl h (fun h => ?_)
  refine r_aload_n rfl rfl ?_
  refine r_lconst (v := 0) rfl (by decide) ?_
  refine r_putL rfl fl_4_9 (fun z => by cases z) rfl h (fun M1 h => ?_)
  refine r_aload_n rfl rfl ?_
  refine r_iconst (v := 0) rfl (by decide) ?_
  refine r_putI rfl fl_4_15 (fun z => by cases z) rfl h (fun M2 h => ?_)
  refine r_aload_n rfl rfl ?_
  refine r_iconst (v := 0) rfl (by decide) ?_
  refine r_putI rfl fl_4_19 (fun z => by cases z) rfl h (fun M3 h => ?_)
  exact r_vret rfl rfl ⟨Nat.le_of_ble_eq_true rfl, Nat.le_of_ble_eq_true rfl⟩ h
set_option maxRecDepth 20000 in
theorem dk_X5_init : ∀ pc i, L_X5_init[pc]? = some (some i) → decode prog_7_method_1_code pc = .ok i := dk_of (by decide +kernel)
theorem s_X5_init {d : Nat} {P : Unit → Mem → Prop} {r0 : Option Nat} {M : Mem} (h : FQ (f_X5_init r0 M) P) : Con Y_X5_init (d + 1) 1 300 [va_rf r0] M (QV P) := by
  refine Con.of [some (va_rf r0)] (by decide +kernel) dk_X5_init (by simp [Y_X5_init, cat_rf, cat_i, cat_l]) (by simp [loE, Y_X5_init, cat_rf, cat_i, cat_l, List.replicate]) ?_
  unfold f_X5_init at h
  refine r_aload_n rfl rfl ?_
  refine r_obj rfl mk_5_3 ⟨by show 1 ≤ _ + 1; omega, by show 20 ≤ 64 * (_ + 1); omega⟩ rfl h (fun h => ?_)
  refine r_aload_n rfl rfl ?_
  refine r_sipush (v := 300) rfl (by decide) ?_
  refine r_newI 300 rfl (by decide) ⟨Nat.le_of_ble_eq_true rfl, Nat.le_of_ble_eq_true rfl⟩ h (fun v1 M1 h => ?_)
  refine r_putR rfl fl_5_9 (fun _ => ⟨rfl, fun q hq => by cases hq; rfl⟩) (Or.inr ⟨_, rfl⟩) h (fun M2 h => ?_)
  refine r_aload_n rfl rfl ?_
  refine r_iconst (v := 0) rfl (by decide) ?_
  refine r_putI rfl fl_5_15 (fun z => by cases z) rfl h (fun M3 h => ?_)
  refine r_aload_n rfl rfl ?_
  refine r_iconst (v := -1) rfl (by decide) ?_
  refine r_putI rfl fl_5_19 (fun z => by cases z) rfl h (fun M4 h => ?_)
  refine r_aload_n rfl rfl ?_
  refine r_iconst (v := -1) rfl (by decide) ?_
  refine r_putI rfl fl_5_22 (fun z => by cases z) rfl h (fun M5 h => ?_)
  exact r_vret rfl rfl ⟨Nat.le_of_ble_eq_true rfl, Nat.le_of_ble_eq_true rfl⟩ h
set_option maxRecDepth 20000 in
theorem dk_X1_init : ∀ pc i, L_X1_init[pc]? = some (some i) → decode prog_3_method_1_code pc = .ok i := dk_of (by decide +kernel)
theorem s_X1_init {d : Nat} {P : Unit → Mem → Prop} {r0 : Option Nat} {i1 : Int32} {M : Mem} (h : FQ (f_X1_init r0 i1 M) P) : Con Y_X1_init (d + 1) 0 0 [va_rf r0, .int i1] M (QV P) := by
  refine Con.of [some (va_rf r0), some (.int i1)] (by decide +kernel) dk_X1_init (by simp [Y_X1_init, cat_rf, cat_i, cat_l]) (by simp [loE, Y_X1_init, cat_rf, cat_i, cat_l, List.replicate]) ?_
  unfold f_X1_init at h
  refine r_aload_n rfl rfl ?_
  refine r_obj rfl mk_1_1 ⟨by show 1 ≤ _ + 1; omega, by show 20 ≤ 64 * (_ + 1); omega⟩ rfl h (fun h => ?_)
  refine r_aload_n rfl rfl ?_
  refine r_iload_n rfl rfl ?_
  refine r_putI rfl fl_1_7 (fun _ => ⟨rfl, fun q hq => by cases hq; rfl⟩) rfl h (fun M1 h => ?_)
  exact r_vret rfl rfl ⟨Nat.le_of_ble_eq_true rfl, Nat.le_of_ble_eq_true rfl⟩ h
set_option maxRecDepth 20000 in
theorem dk_X6_init : ∀ pc i, L_X6_init[pc]? = some (some i) → decode prog_8_method_1_code pc = .ok i := dk_of (by decide +kernel)
theorem sb_X6_init_41 {d : Nat} {P : Unit → Mem → Prop} {q41 : Option Nat → Int32 → Mem → Option (Unit × Mem)} {c n : Nat} (hc : c + 1 ≤ 25) (hn : n + 9 ≤ 521) (hq41 : ∀ (r0 : Option Nat) (i1 : Int32) (M : Mem), FQ (q41 r0 i1 M) P → wp Y_X6_init (rmD (d + 2) 25 521) (FM (QV P) 25 521) (c + 1) (n + 9) 41 [some (va_rf r0), some (.int i1)] [] M) (r0 : Option Nat) (i1 : Int32) (M : Mem) (h : FQ (b_X6_init_41 q41 r0 i1 M) P) : wp Y_X6_init (rmD (d + 2) 25 521) (FM (QV P) 25 521) c n 41 [some (va_rf r0), some (.int i1)] [] M := by
  unfold b_X6_init_41 at h
  refine r_iload_n rfl rfl ?_
  refine r_bipush (v := 20) rfl (by decide) ?_
  refine r_ic_ge 67 rfl (by decide) h (fun h => ?_) (fun h => ?_)
  · refine r_wide (c' := 25) (n' := 521) (by omega) (by omega) ?_
    refine r_aload_n rfl rfl ?_
    refine r_iconst (v := 0) rfl (by decide) ?_
    refine r_putI rfl fl_6_30 (fun z => by cases z) rfl h (fun M1 h => ?_)
    refine r_aload_n rfl rfl ?_
    refine r_iconst (v := 0) rfl (by decide) ?_
    refine r_putI rfl fl_6_34 (fun z => by cases z) rfl h (fun M2 h => ?_)
    exact r_vret rfl rfl ⟨Nat.le_of_ble_eq_true rfl, Nat.le_of_ble_eq_true rfl⟩ h
  · refine r_aload_n rfl rfl ?_
    refine r_getR rfl fl_6_13 rfl h (fun v1 h => ?_)
    refine r_iload_n rfl rfl ?_
    refine r_new rfl cn_6_11 ⟨by show _ ≤ 25; omega, by show _ ≤ 521; omega⟩ h (fun v2 M3 h => ?_)
    refine r_dup rfl (cat_rf _) ?_
    refine r_iload_n rfl rfl ?_
    refine r_ci_v (mc := 0) (ms := 0) (vs := [.int i1]) rfl ml_6_27 (rOk.of rfl) ⟨by show _ ≤ 25; omega, by show _ ≤ 521; omega⟩ rfl rfl rfl h s_X1_init (fun _ M4 h => ?_)
    refine r_aast6 rfl h (fun M5 h => ?_)
    refine r_iinc (v := 1) (lo' := [some (va_rf r0), some (.int (i1 + (1 : Int32)))]) rfl rfl rfl (by decide) (by simp [stOk, cat_rf]) rfl ?_
    refine r_goto 41 rfl (by decide) ?_
    refine r_wide (c' := c + 1) (n' := n + 9) (by omega) (by omega) ?_
    exact hq41 _ _ _ h
theorem s_X6_init_41 {d : Nat} {P : Unit → Mem → Prop}   : ∀ (k c n : Nat), c + k * 1 ≤ 25 → n + k * 9 ≤ 521 → ∀ (r0 : Option Nat) (i1 : Int32) (M : Mem), FQ (f_X6_init_41  k r0 i1 M) P → wp Y_X6_init (rmD (d + 2) 25 521) (FM (QV P) 25 521) c n 41 [some (va_rf r0), some (.int i1)] [] M
  | 0, _, _, _, _, _, _, _, h => h.no
  | k + 1, c, n, hc, hn, r0, i1, M, h => sb_X6_init_41 (by omega) (by omega)  (s_X6_init_41  k (c + 1) (n + 9) (by omega) (by omega)) r0 i1 M h
theorem s_X6_init {d : Nat} {P : Unit → Mem → Prop} {r0 : Option Nat} {M : Mem} (h : FQ (f_X6_init r0 M) P) : Con Y_X6_init (d + 2) 25 521 [va_rf r0] M (QV P) := by
  refine Con.of [some (va_rf r0), none] (by decide +kernel) dk_X6_init (by simp [Y_X6_init, cat_rf, cat_i, cat_l]) (by simp [loE, Y_X6_init, cat_rf, cat_i, cat_l, List.replicate]) ?_
  unfold f_X6_init at h
  refine r_aload_n rfl rfl ?_
  refine r_obj rfl mk_6_3 ⟨by show 1 ≤ _ + 1; omega, by show 20 ≤ 64 * (_ + 1); omega⟩ rfl h (fun h => ?_)
  refine r_aload_n rfl rfl ?_
  refine r_bipush (v := 20) rfl (by decide) ?_
  refine r_newq6 20 rfl ck_6_11 (by decide) ⟨Nat.le_of_ble_eq_true rfl, Nat.le_of_ble_eq_true rfl⟩ h (fun v1 M1 h => ?_)
  refine r_putR rfl fl_6_13 (fun _ => ⟨rfl, fun q hq => by cases hq; rfl⟩) (Or.inr ⟨_, rfl⟩) h (fun M2 h => ?_)
  refine r_aload_n rfl rfl ?_
  refine r_bipush (v := 8) rfl (by decide) ?_
  refine r_newq6 8 rfl ck_6_11 (by decide) ⟨Nat.le_of_ble_eq_true rfl, Nat.le_of_ble_eq_true rfl⟩ h (fun v2 M3 h => ?_)
  refine r_putR rfl fl_6_17 (fun _ => ⟨rfl, fun q hq => by cases hq; rfl⟩) (Or.inr ⟨_, rfl⟩) h (fun M4 h => ?_)
  refine r_aload_n rfl rfl ?_
  refine r_iconst (v := 4) rfl (by decide) ?_
  refine r_newq6 4 rfl ck_6_11 (by decide) ⟨Nat.le_of_ble_eq_true rfl, Nat.le_of_ble_eq_true rfl⟩ h (fun v3 M5 h => ?_)
  refine r_putR rfl fl_6_20 (fun _ => ⟨rfl, fun q hq => by cases hq; rfl⟩) (Or.inr ⟨_, rfl⟩) h (fun M6 h => ?_)
  refine r_aload_n rfl rfl ?_
  refine r_sipush (v := 300) rfl (by decide) ?_
  refine r_newI 300 rfl (by decide) ⟨Nat.le_of_ble_eq_true rfl, Nat.le_of_ble_eq_true rfl⟩ h (fun v4 M7 h => ?_)
  refine r_putR rfl fl_6_23 (fun _ => ⟨rfl, fun q hq => by cases hq; rfl⟩) (Or.inr ⟨_, rfl⟩) h (fun M8 h => ?_)
  refine r_iconst (v := 0) rfl (by decide) ?_
  refine r_istore_n (lo' := [some (va_rf r0), some (.int (0 : Int32))]) rfl rfl (by simp [stOk, cat_rf]) rfl ?_
  exact s_X6_init_41 21 _ _ (by decide) (by decide) _ _ _ h
set_option maxRecDepth 20000 in
theorem dk_X7_init : ∀ pc i, L_X7_init[pc]? = some (some i) → decode prog_9_method_1_code pc = .ok i := dk_of (by decide +kernel)
theorem s_X7_init {d : Nat} {P : Unit → Mem → Prop} {r0 : Option Nat} {M : Mem} (h : FQ (f_X7_init r0 M) P) : Con Y_X7_init (d + 2) 3 205 [va_rf r0] M (QV P) := by
  refine Con.of [some (va_rf r0)] (by decide +kernel) dk_X7_init (by simp [Y_X7_init, cat_rf, cat_i, cat_l]) (by simp [loE, Y_X7_init, cat_rf, cat_i, cat_l, List.replicate]) ?_
  unfold f_X7_init at h
  refine r_aload_n rfl rfl ?_
  refine r_obj rfl mk_7_3 ⟨by show 1 ≤ _ + 1; omega, by show 20 ≤ 64 * (_ + 1); omega⟩ rfl h (fun h => ?_)
  refine r_aload_n rfl rfl ?_
  refine r_new rfl cn_7_9 ⟨Nat.le_of_ble_eq_true rfl, Nat.le_of_ble_eq_true rfl⟩ h (fun v1 M1 h => ?_)
  refine r_dup rfl (cat_rf _) ?_
  refine r_ci_v (mc := 0) (ms := 0) (vs := []) rfl ml_7_11 (rOk.of rfl) ⟨Nat.le_of_ble_eq_true rfl, Nat.le_of_ble_eq_true rfl⟩ rfl rfl rfl h s_X4_init (fun _ M2 h => ?_)
  refine r_putR rfl fl_7_12 (fun _ => ⟨rfl, fun q hq => by cases hq; rfl⟩) (Or.inl ⟨_, rfl⟩) h (fun M3 h => ?_)
  refine r_aload_n rfl rfl ?_
  refine r_iconst (v := 2) rfl (by decide) ?_
  refine r_newI 2 rfl (by decide) ⟨Nat.le_of_ble_eq_true rfl, Nat.le_of_ble_eq_true rfl⟩ h (fun v2 M4 h => ?_)
  refine r_putR rfl fl_7_18 (fun _ => ⟨rfl, fun q hq => by cases hq; rfl⟩) (Or.inr ⟨_, rfl⟩) h (fun M5 h => ?_)
  refine r_aload_n rfl rfl ?_
  refine r_sipush (v := 200) rfl (by decide) ?_
  refine r_newI 200 rfl (by decide) ⟨Nat.le_of_ble_eq_true rfl, Nat.le_of_ble_eq_true rfl⟩ h (fun v3 M6 h => ?_)
  refine r_putR rfl fl_7_22 (fun _ => ⟨rfl, fun q hq => by cases hq; rfl⟩) (Or.inr ⟨_, rfl⟩) h (fun M7 h => ?_)
  refine r_aload_n rfl rfl ?_
  refine r_iconst (v := 0) rfl (by decide) ?_
  refine r_putI rfl fl_7_25 (fun z => by cases z) rfl h (fun M8 h => ?_)
  refine r_aload_n rfl rfl ?_
  refine r_iconst (v := 0) rfl (by decide) ?_
  refine r_putI rfl fl_7_29 (fun z => by cases z) rfl h (fun M9 h => ?_)
  refine r_aload_n rfl rfl ?_
  refine r_iconst (v := -1) rfl (by decide) ?_
  refine r_putI rfl fl_7_32 (fun z => by cases z) rfl h (fun M10 h => ?_)
  refine r_aload_n rfl rfl ?_
  refine r_getR rfl fl_7_18 rfl h (fun v4 h => ?_)
  refine r_iconst (v := 0) rfl (by decide) ?_
  refine r_iconst (v := -1) rfl (by decide) ?_
  refine r_iast rfl h (fun M11 h => ?_)
  refine r_aload_n rfl rfl ?_
  refine r_getR rfl fl_7_18 rfl h (fun v5 h => ?_)
  refine r_iconst (v := 1) rfl (by decide) ?_
  refine r_iconst (v := -1) rfl (by decide) ?_
  refine r_iast rfl h (fun M12 h => ?_)
  exact r_vret rfl rfl ⟨Nat.le_of_ble_eq_true rfl, Nat.le_of_ble_eq_true rfl⟩ h
set_option maxRecDepth 20000 in
theorem dk_X8_init : ∀ pc i, L_X8_init[pc]? = some (some i) → decode prog_10_method_1_code pc = .ok i := dk_of (by decide +kernel)
theorem s_X8_init {d : Nat} {P : Unit → Mem → Prop} {r0 : Option Nat} {r1 : Option Nat} {M : Mem} (h : FQ (f_X8_init r0 r1 M) P) : Con Y_X8_init (d + 2) 8 138105 [va_rf r0, va_rf r1] M (QV P) := by
  refine Con.of [some (va_rf r0), some (va_rf r1)] (by decide +kernel) dk_X8_init (by simp [Y_X8_init, cat_rf, cat_i, cat_l]) (by simp [loE, Y_X8_init, cat_rf, cat_i, cat_l, List.replicate]) ?_
  unfold f_X8_init at h
  refine r_aload_n rfl rfl ?_
  refine r_obj rfl mk_8_3 ⟨by show 1 ≤ _ + 1; omega, by show 20 ≤ 64 * (_ + 1); omega⟩ rfl h (fun h => ?_)
  refine r_aload_n rfl rfl ?_
  refine r_sipush (v := 2000) rfl (by decide) ?_
  refine r_newI 2000 rfl (by decide) ⟨Nat.le_of_ble_eq_true rfl, Nat.le_of_ble_eq_true rfl⟩ h (fun v1 M1 h => ?_)
  refine r_putR rfl fl_8_11 (fun _ => ⟨rfl, fun q hq => by cases hq; rfl⟩) (Or.inr ⟨_, rfl⟩) h (fun M2 h => ?_)
  refine r_aload_n rfl rfl ?_
  refine r_ldc rfl kc_8_15 ?_
  refine r_newI 128000 rfl (by decide) ⟨Nat.le_of_ble_eq_true rfl, Nat.le_of_ble_eq_true rfl⟩ h (fun v2 M3 h => ?_)
  refine r_putR rfl fl_8_16 (fun _ => ⟨rfl, fun q hq => by cases hq; rfl⟩) (Or.inr ⟨_, rfl⟩) h (fun M4 h => ?_)
  refine r_aload_n rfl rfl ?_
  refine r_sipush (v := 2000) rfl (by decide) ?_
  refine r_newL 2000 rfl (by decide) ⟨Nat.le_of_ble_eq_true rfl, Nat.le_of_ble_eq_true rfl⟩ h (fun v3 M5 h => ?_)
  refine r_putR rfl fl_8_19 (fun _ => ⟨rfl, fun q hq => by cases hq; rfl⟩) (Or.inr ⟨_, rfl⟩) h (fun M6 h => ?_)
  refine r_aload_n rfl rfl ?_
  refine r_sipush (v := 2000) rfl (by decide) ?_
  refine r_newI 2000 rfl (by decide) ⟨Nat.le_of_ble_eq_true rfl, Nat.le_of_ble_eq_true rfl⟩ h (fun v4 M7 h => ?_)
  refine r_putR rfl fl_8_23 (fun _ => ⟨rfl, fun q hq => by cases hq; rfl⟩) (Or.inr ⟨_, rfl⟩) h (fun M8 h => ?_)
  refine r_aload_n rfl rfl ?_
  refine r_sipush (v := 4096) rfl (by decide) ?_
  refine r_newI 4096 rfl (by decide) ⟨Nat.le_of_ble_eq_true rfl, Nat.le_of_ble_eq_true rfl⟩ h (fun v5 M9 h => ?_)
  refine r_putR rfl fl_8_26 (fun _ => ⟨rfl, fun q hq => by cases hq; rfl⟩) (Or.inr ⟨_, rfl⟩) h (fun M10 h => ?_)
  refine r_aload_n rfl rfl ?_
  refine r_new rfl cn_8_29 ⟨Nat.le_of_ble_eq_true rfl, Nat.le_of_ble_eq_true rfl⟩ h (fun v6 M11 h => ?_)
  refine r_dup rfl (cat_rf _) ?_
  refine r_ci_v (mc := 0) (ms := 0) (vs := []) rfl ml_8_31 (rOk.of rfl) ⟨Nat.le_of_ble_eq_true rfl, Nat.le_of_ble_eq_true rfl⟩ rfl rfl rfl h s_X4_init (fun _ M12 h => ?_)
  refine r_putR rfl fl_8_32 (fun _ => ⟨rfl, fun q hq => by cases hq; rfl⟩) (Or.inl ⟨_, rfl⟩) h (fun M13 h => ?_)
  refine r_aload_n rfl rfl ?_
  refine r_new rfl cn_8_29 ⟨Nat.le_of_ble_eq_true rfl, Nat.le_of_ble_eq_true rfl⟩ h (fun v7 M14 h => ?_)
  refine r_dup rfl (cat_rf _) ?_
  refine r_ci_v (mc := 0) (ms := 0) (vs := []) rfl ml_8_31 (rOk.of rfl) ⟨Nat.le_of_ble_eq_true rfl, Nat.le_of_ble_eq_true rfl⟩ rfl rfl rfl h s_X4_init (fun _ M15 h => ?_)
  refine r_putR rfl fl_8_36 (fun _ => ⟨rfl, fun q hq => by cases hq; rfl⟩) (Or.inl ⟨_, rfl⟩) h (fun M16 h => ?_)
  refine r_aload_n rfl rfl ?_
  refine r_new rfl cn_8_29 ⟨Nat.le_of_ble_eq_true rfl, Nat.le_of_ble_eq_true rfl⟩ h (fun v8 M17 h => ?_)
  refine r_dup rfl (cat_rf _) ?_
  refine r_ci_v (mc := 0) (ms := 0) (vs := []) rfl ml_8_31 (rOk.of rfl) ⟨Nat.le_of_ble_eq_true rfl, Nat.le_of_ble_eq_true rfl⟩ rfl rfl rfl h s_X4_init (fun _ M18 h => ?_)
  refine r_putR rfl fl_8_39 (fun _ => ⟨rfl, fun q hq => by cases hq; rfl⟩) (Or.inl ⟨_, rfl⟩) h (fun M19 h => ?_)
  refine r_aload_n rfl rfl ?_
  refine r_aload_n rfl rfl ?_
  refine r_putR rfl fl_8_42 (fun _ => ⟨rfl, fun q hq => by cases hq; rfl⟩) (Or.inl ⟨_, rfl⟩) h (fun M20 h => ?_)
  refine r_aload_n rfl rfl ?_
  refine r_iconst (v := 0) rfl (by decide) ?_
  refine r_putI rfl fl_8_46 (fun z => by cases z) rfl h (fun M21 h => ?_)
  refine r_aload_n rfl rfl ?_
  refine r_iconst (v := 0) rfl (by decide) ?_
  refine r_putZ rfl fl_8_50 (fun z => by cases z) rfl h (fun M22 h => ?_)
  refine r_aload_n rfl rfl ?_
  refine r_null rfl ?_
  refine r_putR rfl fl_8_54 (fun z => by cases z) (Or.inl ⟨_, rfl⟩) h (fun M23 h => ?_)
  exact r_vret rfl rfl ⟨Nat.le_of_ble_eq_true rfl, Nat.le_of_ble_eq_true rfl⟩ h
set_option maxRecDepth 20000 in
theorem dk_X9_init : ∀ pc i, L_X9_init[pc]? = some (some i) → decode prog_11_method_1_code pc = .ok i := dk_of (by decide +kernel)
theorem s_X9_init {d : Nat} {P : Unit → Mem → Prop} {r0 : Option Nat} {M : Mem} (h : FQ (f_X9_init r0 M) P) : Con Y_X9_init (d + 1) 2 71 [va_rf r0] M (QV P) := by
  refine Con.of [some (va_rf r0)] (by decide +kernel) dk_X9_init (by simp [Y_X9_init, cat_rf, cat_i, cat_l]) (by simp [loE, Y_X9_init, cat_rf, cat_i, cat_l, List.replicate]) ?_
  unfold f_X9_init at h
  refine r_aload_n rfl rfl ?_
  refine r_obj rfl mk_9_3 ⟨by show 1 ≤ _ + 1; omega, by show 20 ≤ 64 * (_ + 1); omega⟩ rfl h (fun h => ?_)
  refine r_aload_n rfl rfl ?_
  refine r_bipush (v := 7) rfl (by decide) ?_
  refine r_newI 7 rfl (by decide) ⟨Nat.le_of_ble_eq_true rfl, Nat.le_of_ble_eq_true rfl⟩ h (fun v1 M1 h => ?_)
  refine r_putR rfl fl_9_9 (fun _ => ⟨rfl, fun q hq => by cases hq; rfl⟩) (Or.inr ⟨_, rfl⟩) h (fun M2 h => ?_)
  refine r_aload_n rfl rfl ?_
  refine r_bipush (v := 64) rfl (by decide) ?_
  refine r_newI 64 rfl (by decide) ⟨Nat.le_of_ble_eq_true rfl, Nat.le_of_ble_eq_true rfl⟩ h (fun v2 M3 h => ?_)
  refine r_putR rfl fl_9_15 (fun _ => ⟨rfl, fun q hq => by cases hq; rfl⟩) (Or.inr ⟨_, rfl⟩) h (fun M4 h => ?_)
  exact r_vret rfl rfl ⟨Nat.le_of_ble_eq_true rfl, Nat.le_of_ble_eq_true rfl⟩ h
