/-! walked by program (wip/gen): X0_decideAll X0_linkExits X0_prepare J7_fill_53178 X4_setBoardAndTurn X8_enter X8_numberOf -/
def L_X0_decideAll : List (Option (Instr × Nat)) := [some (.iconst 0, 1), some (.istore_n 1, 1), some (.iconst 1, 1), some (.istore_n 2, 1), some (.iload_n 2, 1), some (.sipush 2000, 3), none, none, some (.if_icmp .gt 79, 3), none, none, some (.iload_n 1, 1), some (.aload_n 0, 1), some (.getfield 50, 3), none, none, some (.if_icmp .ge 71, 3), none, none, some (.aload_n 0, 1), some (.getfield 50, 3), none, none, some (.istore_n 3, 1), some (.aload_n 0, 1), some (.iconst 0, 1), some (.putfield 54, 3), none, none, some (.iload_n 1, 1), some (.iload_n 3, 1), some (.if_icmp .ge 20, 3), none, none, some (.aload_n 0, 1), some (.aload_n 0, 1), some (.getfield 33, 3), none, none, some (.iload_n 1, 1), some (.iaload, 1), some (.iload_n 2, 1), some (.invokevirtual 74, 3), none, none, some (.iinc 1 1, 3), none, none, some (.goto (-19), 3), none, none, some (.iconst 0, 1), some (.istore 4, 2), none, some (.iload 4, 2), none, some (.aload_n 0, 1), some (.getfield 54, 3), none, none, some (.if_icmp .ge 21, 3), none, none, some (.aload_n 0, 1), some (.aload_n 0, 1), some (.getfield 36, 3), none, none, some (.iload 4, 2), none, some (.iaload, 1), some (.iload_n 2, 1), some (.invokevirtual 78, 3), none, none, some (.iinc 4 1, 3), none, none, some (.goto (-24), 3), none, none, some (.iinc 2 1, 3), none, none, some (.goto (-80), 3), none, none, some (.return_, 1)]
def Y_X0_decideAll : YM := (⟨RX0, "decideAll", "()V"⟩, prog_2_method_5_code, L_X0_decideAll, 5, none)
def b_X0_decideAll_54 (q4 : Option Nat → Int32 → Int32 → Mem → Option (Unit × Mem)) (q54 : Option Nat → Int32 → Int32 → Int32 → Mem → Option (Unit × Mem)) (r0 : Option Nat) (i1 : Int32) (i2 : Int32) (i4 : Int32) (M : Mem) : Option (Unit × Mem) :=
gI M r0 0 12 fun v1 =>
(if v1 ≤ i4 then
q4 r0 i1 (i2 + (1 : Int32)) M
else
gR M r0 0 9 fun v2 =>
aI M v2 2 i4 fun v3 =>
cR M r0 (1, 0) (cA (f_X0_decide r0 v3 i2 M) fun _ M1 =>
q54 r0 i1 i2 (i4 + (1 : Int32)) M1))
def f_X0_decideAll_54 (q4 : Option Nat → Int32 → Int32 → Mem → Option (Unit × Mem)) (n : Nat) : Option Nat → Int32 → Int32 → Int32 → Mem → Option (Unit × Mem) := lpN (fun _ _ _ _ _ => none) (b_X0_decideAll_54 q4) n
def b_X0_decideAll_29 (q4 : Option Nat → Int32 → Int32 → Mem → Option (Unit × Mem)) (q29 : Option Nat → Int32 → Int32 → Int32 → Mem → Option (Unit × Mem)) (r0 : Option Nat) (i1 : Int32) (i2 : Int32) (i3 : Int32) (M : Mem) : Option (Unit × Mem) :=
(if i3 ≤ i1 then
f_X0_decideAll_54 q4 FU r0 i1 i2 (0 : Int32) M
else
gR M r0 0 8 fun v1 =>
aI M v1 2 i1 fun v2 =>
cR M r0 (1, 0) (cA (f_X0_touchEntries r0 v2 i2 M) fun _ M1 =>
q29 r0 (i1 + (1 : Int32)) i2 i3 M1))
def f_X0_decideAll_29 (q4 : Option Nat → Int32 → Int32 → Mem → Option (Unit × Mem)) (n : Nat) : Option Nat → Int32 → Int32 → Int32 → Mem → Option (Unit × Mem) := lpN (fun _ _ _ _ _ => none) (b_X0_decideAll_29 q4) n
def b_X0_decideAll_4 (q4 : Option Nat → Int32 → Int32 → Mem → Option (Unit × Mem)) (r0 : Option Nat) (i1 : Int32) (i2 : Int32) (M : Mem) : Option (Unit × Mem) :=
(if (2000 : Int32) < i2 then
some ((), M)
else
gI M r0 0 11 fun v1 =>
(if v1 ≤ i1 then
some ((), M)
else
gI M r0 0 11 fun v2 =>
pI M r0 0 12 (0 : Int32) fun M1 =>
f_X0_decideAll_29 q4 FU r0 i1 i2 v2 M1))
def f_X0_decideAll_4 (n : Nat) : Option Nat → Int32 → Int32 → Mem → Option (Unit × Mem) := lpN (fun _ _ _ _ => none) (b_X0_decideAll_4 ) n
def f_X0_decideAll (r0 : Option Nat) (M : Mem) : Option (Unit × Mem) :=
f_X0_decideAll_4 FU r0 (0 : Int32) (1 : Int32) M
def L_X0_linkExits : List (Option (Instr × Nat)) := [some (.aload_n 0, 1), some (.getfield 42, 3), none, none, some (.getfield 60, 3), none, none, some (.iload_n 1, 1), some (.iaload, 1), some (.istore_n 2, 1), some (.iconst 0, 1), some (.istore_n 3, 1), some (.iload_n 3, 1), some (.bipush 64, 2), none, some (.if_icmp .ge 89, 3), none, none, some (.iload_n 3, 1), some (.bipush 8, 2), none, some (.idiv, 1), some (.istore 4, 2), none, some (.iload_n 3, 1), some (.bipush 8, 2), none, some (.irem, 1), some (.istore 5, 2), none, some (.iload 4, 2), none, some (.iload 5, 2), none, some (.if_icmp .eq 64, 3), none, none, some (.iload_n 2, 1), some (.iconst 1, 1), some (.iload 4, 2), none, some (.ishl, 1), some (.iand, 1), some (.ifCond .eq 55, 3), none, none, some (.iload_n 2, 1), some (.iconst 1, 1), some (.iload 5, 2), none, some (.ishl, 1), some (.iand, 1), some (.ifCond .eq 46, 3), none, none, some (.iload_n 1, 1), some (.bipush 64, 2), none, some (.imul, 1), some (.iload_n 3, 1), some (.iadd, 1), some (.istore 6, 2), none, some (.aload_n 0, 1), some (.getfield 42, 3), none, none, some (.getfield 71, 3), none, none, some (.iload 6, 2), none, some (.iaload, 1), some (.istore 7, 2), none, some (.aload_n 0, 1), some (.getfield 30, 3), none, none, some (.iload 6, 2), none, some (.aload_n 0, 1), some (.getfield 26, 3), none, none, some (.iload 7, 2), none, some (.iaload, 1), some (.iastore, 1), some (.aload_n 0, 1), some (.getfield 26, 3), none, none, some (.iload 7, 2), none, some (.iload 6, 2), none, some (.iastore, 1), some (.iinc 3 1, 3), none, none, some (.goto (-89), 3), none, none, some (.return_, 1)]
def Y_X0_linkExits : YM := (⟨RX0, "linkExits", "(I)V"⟩, prog_2_method_3_code, L_X0_linkExits, 8, none)
def b_X0_linkExits_12 (q12 : Option Nat → Int32 → Int32 → Int32 → Mem → Option (Unit × Mem)) (r0 : Option Nat) (i1 : Int32) (i2 : Int32) (i3 : Int32) (M : Mem) : Option (Unit × Mem) :=
(if (64 : Int32) ≤ i3 then
some ((), M)
else
nzI (8 : Int32) (
nzI (8 : Int32) (
(if (i3 / (8 : Int32)) = (i3 - i3 / (8 : Int32) * (8 : Int32)) then
q12 r0 i1 i2 (i3 + (1 : Int32)) M
else
(if (i2 &&& ((1 : Int32) <<< ((i3 / (8 : Int32)) &&& 31))) = 0 then
q12 r0 i1 i2 (i3 + (1 : Int32)) M
else
(if (i2 &&& ((1 : Int32) <<< ((i3 - i3 / (8 : Int32) * (8 : Int32)) &&& 31))) = 0 then
q12 r0 i1 i2 (i3 + (1 : Int32)) M
else
gR M r0 0 2 fun v1 =>
gR M v1 8 1 fun v2 =>
aI M v2 2 ((i1 * (64 : Int32)) + i3) fun v3 =>
gR M r0 0 7 fun v4 =>
gR M r0 0 6 fun v5 =>
aI M v5 2 v3 fun v6 =>
wI M v4 2 ((i1 * (64 : Int32)) + i3) v6 fun M1 =>
gR M1 r0 0 6 fun v7 =>
wI M1 v7 2 v3 ((i1 * (64 : Int32)) + i3) fun M2 =>
q12 r0 i1 i2 (i3 + (1 : Int32)) M2))))))
def f_X0_linkExits_12 (n : Nat) : Option Nat → Int32 → Int32 → Int32 → Mem → Option (Unit × Mem) := lpN (fun _ _ _ _ _ => none) (b_X0_linkExits_12 ) n
def f_X0_linkExits (r0 : Option Nat) (i1 : Int32) (M : Mem) : Option (Unit × Mem) :=
gR M r0 0 2 fun v1 =>
gR M v1 8 0 fun v2 =>
aI M v2 2 i1 fun v3 =>
f_X0_linkExits_12 FU r0 i1 v3 (0 : Int32) M
def L_X0_prepare : List (Option (Instr × Nat)) := [some (.iconst 0, 1), some (.istore_n 1, 1), some (.iload_n 1, 1), some (.aload_n 0, 1), some (.getfield 42, 3), none, none, some (.getfield 57, 3), none, none, some (.if_icmp .ge 37, 3), none, none, some (.aload_n 0, 1), some (.getfield 26, 3), none, none, some (.iload_n 1, 1), some (.iconst (-1), 1), some (.iastore, 1), some (.aload_n 0, 1), some (.getfield 11, 3), none, none, some (.iload_n 1, 1), some (.iconst 0, 1), some (.iastore, 1), some (.aload_n 0, 1), some (.getfield 17, 3), none, none, some (.iload_n 1, 1), some (.iconst (-1), 1), some (.iastore, 1), some (.aload_n 0, 1), some (.getfield 39, 3), none, none, some (.iload_n 1, 1), some (.iconst 0, 1), some (.iastore, 1), some (.iinc 1 1, 3), none, none, some (.goto (-42), 3), none, none, some (.iconst 0, 1), some (.istore_n 1, 1), some (.iload_n 1, 1), some (.aload_n 0, 1), some (.getfield 42, 3), none, none, some (.getfield 57, 3), none, none, some (.bipush 8, 2), none, some (.imul, 1), some (.if_icmp .ge 23, 3), none, none, some (.aload_n 0, 1), some (.getfield 20, 3), none, none, some (.iload_n 1, 1), some (.iconst 0, 1), some (.iastore, 1), some (.aload_n 0, 1), some (.getfield 23, 3), none, none, some (.iload_n 1, 1), some (.iconst 0, 1), some (.iastore, 1), some (.iinc 1 1, 3), none, none, some (.goto (-31), 3), none, none, some (.aload_n 0, 1), some (.iconst 0, 1), some (.putfield 50, 3), none, none, some (.iconst 0, 1), some (.istore_n 1, 1), some (.iload_n 1, 1), some (.aload_n 0, 1), some (.getfield 42, 3), none, none, some (.getfield 57, 3), none, none, some (.if_icmp .ge 36, 3), none, none, some (.aload_n 0, 1), some (.getfield 42, 3), none, none, some (.getfield 60, 3), none, none, some (.iload_n 1, 1), some (.iaload, 1), some (.ifCond .ne 13, 3), none, none, some (.aload_n 0, 1), some (.iload_n 1, 1), some (.iconst 1, 1), some (.iconst 0, 1), some (.invokevirtual 63, 3), none, none, some (.goto 8, 3), none, none, some (.aload_n 0, 1), some (.iload_n 1, 1), some (.invokevirtual 67, 3), none, none, some (.iinc 1 1, 3), none, none, some (.goto (-41), 3), none, none, some (.return_, 1)]
def Y_X0_prepare : YM := (⟨RX0, "prepare", "()V"⟩, prog_2_method_2_code, L_X0_prepare, 2, none)
def b_X0_prepare_90 (q90 : Option Nat → Int32 → Mem → Option (Unit × Mem)) (r0 : Option Nat) (i1 : Int32) (M : Mem) : Option (Unit × Mem) :=
gR M r0 0 2 fun v1 =>
gI M v1 8 2 fun v2 =>
(if v2 ≤ i1 then
some ((), M)
else
gR M r0 0 2 fun v3 =>
gR M v3 8 0 fun v4 =>
aI M v4 2 i1 fun v5 =>
(if v5 = 0 then
cR M r0 (1, 0) (cA (f_X0_settle r0 i1 (1 : Int32) (0 : Int32) M) fun _ M1 =>
q90 r0 (i1 + (1 : Int32)) M1)
else
cR M r0 (1, 0) (cA (f_X0_linkExits r0 i1 M) fun _ M2 =>
q90 r0 (i1 + (1 : Int32)) M2)))
def f_X0_prepare_90 (n : Nat) : Option Nat → Int32 → Mem → Option (Unit × Mem) := lpN (fun _ _ _ => none) (b_X0_prepare_90 ) n
def b_X0_prepare_49 (q49 : Option Nat → Int32 → Mem → Option (Unit × Mem)) (r0 : Option Nat) (i1 : Int32) (M : Mem) : Option (Unit × Mem) :=
gR M r0 0 2 fun v1 =>
gI M v1 8 2 fun v2 =>
(if (v2 * (8 : Int32)) ≤ i1 then
pI M r0 0 11 (0 : Int32) fun M1 =>
f_X0_prepare_90 FU r0 (0 : Int32) M1
else
gR M r0 0 4 fun v3 =>
wI M v3 2 i1 (0 : Int32) fun M2 =>
gR M2 r0 0 5 fun v4 =>
wI M2 v4 2 i1 (0 : Int32) fun M3 =>
q49 r0 (i1 + (1 : Int32)) M3)
def f_X0_prepare_49 (n : Nat) : Option Nat → Int32 → Mem → Option (Unit × Mem) := lpN (fun _ _ _ => none) (b_X0_prepare_49 ) n
def b_X0_prepare_2 (q2 : Option Nat → Int32 → Mem → Option (Unit × Mem)) (r0 : Option Nat) (i1 : Int32) (M : Mem) : Option (Unit × Mem) :=
gR M r0 0 2 fun v1 =>
gI M v1 8 2 fun v2 =>
(if v2 ≤ i1 then
f_X0_prepare_49 FU r0 (0 : Int32) M
else
gR M r0 0 6 fun v3 =>
wI M v3 2 i1 (-1 : Int32) fun M1 =>
gR M1 r0 0 0 fun v4 =>
wI M1 v4 2 i1 (0 : Int32) fun M2 =>
gR M2 r0 0 1 fun v5 =>
wI M2 v5 2 i1 (-1 : Int32) fun M3 =>
gR M3 r0 0 10 fun v6 =>
wI M3 v6 2 i1 (0 : Int32) fun M4 =>
q2 r0 (i1 + (1 : Int32)) M4)
def f_X0_prepare_2 (n : Nat) : Option Nat → Int32 → Mem → Option (Unit × Mem) := lpN (fun _ _ _ => none) (b_X0_prepare_2 ) n
def f_X0_prepare (r0 : Option Nat) (M : Mem) : Option (Unit × Mem) :=
f_X0_prepare_2 FU r0 (0 : Int32) M
def L_J7_fill_53178 : List (Option (Instr × Nat)) := [some (.iconst 0, 1), some (.istore_n 2, 1), some (.aload_n 0, 1), some (.arraylength, 1), some (.istore_n 3, 1), some (.iload_n 2, 1), some (.iload_n 3, 1), some (.if_icmp .ge 13, 3), none, none, some (.aload_n 0, 1), some (.iload_n 2, 1), some (.iload_n 1, 1), some (.iastore, 1), some (.iinc 2 1, 3), none, none, some (.goto (-12), 3), none, none, some (.return_, 1)]
def Y_J7_fill_53178 : YM := (⟨"java/util/Arrays", "fill", "([II)V"⟩, prog_22_method_103_code, L_J7_fill_53178, 4, none)
def b_J7_fill_53178_5 (q5 : Option Nat → Int32 → Int32 → Int32 → Mem → Option (Unit × Mem)) (r0 : Option Nat) (i1 : Int32) (i2 : Int32) (i3 : Int32) (M : Mem) : Option (Unit × Mem) :=
(if i3 ≤ i2 then
some ((), M)
else
wI M r0 2 i2 i1 fun M1 =>
q5 r0 i1 (i2 + (1 : Int32)) i3 M1)
def f_J7_fill_53178_5 (n : Nat) : Option Nat → Int32 → Int32 → Int32 → Mem → Option (Unit × Mem) := lpN (fun _ _ _ _ _ => none) (b_J7_fill_53178_5 ) n
def f_J7_fill_53178 (r0 : Option Nat) (i1 : Int32) (M : Mem) : Option (Unit × Mem) :=
aN M r0 fun v1 =>
f_J7_fill_53178_5 FU r0 i1 (0 : Int32) v1 M
def L_X4_setBoardAndTurn : List (Option (Instr × Nat)) := [some (.aload_n 0, 1), some (.lload_n 1, 1), some (.bipush 48, 2), none, some (.lushr, 1), some (.l2i, 1), some (.putfield 19, 3), none, none, some (.aload_n 0, 1), some (.lload_n 1, 1), some (.ldc2_w 22, 3), none, none, some (.land, 1), some (.putfield 9, 3), none, none, some (.return_, 1)]
def Y_X4_setBoardAndTurn : YM := (⟨RX4, "setBoardAndTurn", "(J)V"⟩, prog_6_method_4_code, L_X4_setBoardAndTurn, 3, none)
def f_X4_setBoardAndTurn (r0 : Option Nat) (l1 : Int64) (M : Mem) : Option (Unit × Mem) :=
pI M r0 4 2 (l1.toUInt64 >>> ((48 : Int32).toInt64.toUInt64 &&& Int64.toUInt64 63)).toInt64.toInt32 fun M1 =>
pL M1 r0 4 0 (l1 &&& (281474976710655 : Int64)) fun M2 =>
some ((), M2)
def L_X8_enter : List (Option (Instr × Nat)) := [some (.aload_n 0, 1), some (.getfield 46, 3), none, none, some (.sipush 2000, 3), none, none, some (.if_icmp .lt 10, 3), none, none, some (.aload_n 0, 1), some (.iconst 1, 1), some (.putfield 50, 3), none, none, some (.iconst 0, 1), some (.ireturn, 1), some (.aload_n 0, 1), some (.getfield 19, 3), none, none, some (.aload_n 0, 1), some (.getfield 46, 3), none, none, some (.lload_n 2, 1), some (.lastore, 1), some (.aload_n 0, 1), some (.getfield 23, 3), none, none, some (.aload_n 0, 1), some (.getfield 46, 3), none, none, some (.iload 4, 2), none, some (.iastore, 1), some (.aload_n 0, 1), some (.dup, 1), some (.getfield 46, 3), none, none, some (.iconst 1, 1), some (.iadd, 1), some (.putfield 46, 3), none, none, some (.aload_n 0, 1), some (.getfield 26, 3), none, none, some (.iload_n 1, 1), some (.aload_n 0, 1), some (.getfield 46, 3), none, none, some (.iastore, 1), some (.aload_n 0, 1), some (.getfield 46, 3), none, none, some (.iconst 1, 1), some (.isub, 1), some (.ireturn, 1)]
def Y_X8_enter : YM := (⟨RX8, "enter", "(IJI)I"⟩, prog_10_method_7_code, L_X8_enter, 5, some .int)
def f_X8_enter (r0 : Option Nat) (i1 : Int32) (l2 : Int64) (i4 : Int32) (M : Mem) : Option (Int32 × Mem) :=
gI M r0 8 2 fun v1 =>
(if v1 < (2000 : Int32) then
gR M r0 8 4 fun v2 =>
gI M r0 8 2 fun v3 =>
wL M v2 v3 l2 fun M1 =>
gR M1 r0 8 5 fun v4 =>
gI M1 r0 8 2 fun v5 =>
wI M1 v4 2 v5 i4 fun M2 =>
gI M2 r0 8 2 fun v6 =>
pI M2 r0 8 2 (v6 + (1 : Int32)) fun M3 =>
gR M3 r0 8 6 fun v7 =>
gI M3 r0 8 2 fun v8 =>
wI M3 v7 2 i1 v8 fun M4 =>
gI M4 r0 8 2 fun v9 =>
some ((v9 - (1 : Int32)), M4)
else
tv (1 : Int32) (pI M r0 8 3 (1 : Int32) fun M5 =>
some ((0 : Int32), M5)))
def L_X8_numberOf : List (Option (Instr × Nat)) := [some (.lload_n 1, 1), some (.iload_n 3, 1), some (.i2l, 1), some (.bipush 40, 2), none, some (.lshl, 1), some (.lxor, 1), some (.ldc2_w 114, 3), none, none, some (.lmul, 1), some (.lstore 4, 2), none, some (.lload 4, 2), none, some (.bipush 52, 2), none, some (.lushr, 1), some (.l2i, 1), some (.istore 6, 2), none, some (.iconst 0, 1), some (.istore 7, 2), none, some (.iload 7, 2), none, some (.sipush 4096, 3), none, none, some (.if_icmp .ge 80, 3), none, none, some (.aload_n 0, 1), some (.getfield 26, 3), none, none, some (.iload 6, 2), none, some (.iaload, 1), some (.iconst 1, 1), some (.isub, 1), some (.istore 8, 2), none, some (.iload 8, 2), none, some (.ifCond .ge 12, 3), none, none, some (.aload_n 0, 1), some (.iload 6, 2), none, some (.lload_n 1, 1), some (.iload_n 3, 1), some (.invokevirtual 116, 3), none, none, some (.ireturn, 1), some (.aload_n 0, 1), some (.getfield 19, 3), none, none, some (.iload 8, 2), none, some (.laload, 1), some (.lload_n 1, 1), some (.lcmp, 1), some (.ifCond .ne 17, 3), none, none, some (.aload_n 0, 1), some (.getfield 23, 3), none, none, some (.iload 8, 2), none, some (.iaload, 1), some (.iload_n 3, 1), some (.if_icmp .ne 6, 3), none, none, some (.iload 8, 2), none, some (.ireturn, 1), some (.iload 6, 2), none, some (.iconst 1, 1), some (.iadd, 1), some (.sipush 4096, 3), none, none, some (.if_icmp .ge 10, 3), none, none, some (.iload 6, 2), none, some (.iconst 1, 1), some (.iadd, 1), some (.goto 4, 3), none, none, some (.iconst 0, 1), some (.istore 6, 2), none, some (.iinc 7 1, 3), none, none, some (.goto (-82), 3), none, none, some (.iconst 0, 1), some (.ireturn, 1)]
def Y_X8_numberOf : YM := (⟨RX8, "numberOf", "(JI)I"⟩, prog_10_method_6_code, L_X8_numberOf, 9, some .int)
def f_X8_numberOf_83 (q24 : Option Nat → Int64 → Int32 → Int32 → Int32 → Mem → Option (Int32 × Mem)) (r0 : Option Nat) (l1 : Int64) (i3 : Int32) (i6 : Int32) (i7 : Int32) (M : Mem) : Option (Int32 × Mem) :=
(if (4096 : Int32) ≤ (i6 + (1 : Int32)) then
q24 r0 l1 i3 (0 : Int32) (i7 + (1 : Int32)) M
else
q24 r0 l1 i3 (i6 + (1 : Int32)) (i7 + (1 : Int32)) M)
def b_X8_numberOf_24 (q24 : Option Nat → Int64 → Int32 → Int32 → Int32 → Mem → Option (Int32 × Mem)) (r0 : Option Nat) (l1 : Int64) (i3 : Int32) (i6 : Int32) (i7 : Int32) (M : Mem) : Option (Int32 × Mem) :=
(if (4096 : Int32) ≤ i7 then
some ((0 : Int32), M)
else
gR M r0 8 6 fun v1 =>
aI M v1 2 i6 fun v2 =>
(if 0 ≤ (v2 - (1 : Int32)) then
gR M r0 8 4 fun v3 =>
aL M v3 (v2 - (1 : Int32)) fun v4 =>
(if (lg_cmp v4 l1) = 0 then
gR M r0 8 5 fun v5 =>
aI M v5 2 (v2 - (1 : Int32)) fun v6 =>
(if v6 = i3 then
some ((v2 - (1 : Int32)), M)
else
f_X8_numberOf_83 q24 r0 l1 i3 i6 i7 M)
else
f_X8_numberOf_83 q24 r0 l1 i3 i6 i7 M)
else
cR M r0 (1, 8) (cA (f_X8_enter r0 i6 l1 i3 M) fun v7 M1 =>
some (v7, M1))))
def f_X8_numberOf_24 (n : Nat) : Option Nat → Int64 → Int32 → Int32 → Int32 → Mem → Option (Int32 × Mem) := lpN (fun _ _ _ _ _ _ => none) (b_X8_numberOf_24 ) n
def f_X8_numberOf (r0 : Option Nat) (l1 : Int64) (i3 : Int32) (M : Mem) : Option (Int32 × Mem) :=
f_X8_numberOf_24 FU r0 l1 i3 (((l1 ^^^ (i3.toInt64 <<< ((40 : Int32).toInt64 &&& 63))) * (-7046029254386353131 : Int64)).toUInt64 >>> ((52 : Int32).toInt64.toUInt64 &&& Int64.toUInt64 63)).toInt64.toInt32 (0 : Int32) M
set_option maxRecDepth 30000 in
theorem ok_X0_decide : okY Y_X0_decide := ⟨(gw_in 999 rfl rfl), (gw_in 13 (by decide +kernel) (by decide +kernel)), by decide +kernel, by decide +kernel⟩
theorem ml_0_78 : MLv RX0 78 Y_X0_decide 2 := ⟨(gw_in 996 (by decide +kernel) (by decide +kernel)), (gw_in 998 (by decide +kernel) (by decide +kernel)), (gw_sel (n := 13) 38 (by decide +kernel) (by decide +kernel)), ok_X0_decide, by decide +kernel⟩
set_option maxRecDepth 30000 in
theorem ok_X0_touchEntries : okY Y_X0_touchEntries := ⟨(gw_in 995 rfl rfl), (gw_in 13 (by decide +kernel) (by decide +kernel)), by decide +kernel, by decide +kernel⟩
theorem ml_0_74 : MLv RX0 74 Y_X0_touchEntries 2 := ⟨(gw_in 992 (by decide +kernel) (by decide +kernel)), (gw_in 994 (by decide +kernel) (by decide +kernel)), (gw_sel (n := 13) 37 (by decide +kernel) (by decide +kernel)), ok_X0_touchEntries, by decide +kernel⟩
theorem fl_0_71 : FLk RX0 71 8 1 true := ⟨_, rfl, by decide, (gw_in 313 (by decide +kernel) (by decide +kernel)), rfl⟩
theorem fl_0_57 : FLk RX0 57 8 2 false := ⟨_, rfl, by decide, (gw_in 315 (by decide +kernel) (by decide +kernel)), rfl⟩
set_option maxRecDepth 30000 in
theorem ok_X0_linkExits : okY Y_X0_linkExits := ⟨(gw_in 987 rfl rfl), (gw_in 13 (by decide +kernel) (by decide +kernel)), by decide +kernel, by decide +kernel⟩
theorem ml_0_67 : MLv RX0 67 Y_X0_linkExits 1 := ⟨(gw_in 984 (by decide +kernel) (by decide +kernel)), (gw_in 986 (by decide +kernel) (by decide +kernel)), (gw_sel (n := 13) 36 (by decide +kernel) (by decide +kernel)), ok_X0_linkExits, by decide +kernel⟩
theorem kl_4_22 : Jvm.Cond.constantLong RX4 22 (281474976710655) ∈ gw := gw_in 970 (by decide +kernel) (by decide +kernel)
theorem fl_8_46 : FLk RX8 46 8 2 false := ⟨_, rfl, by decide, (gw_in 314 (by decide +kernel) (by decide +kernel)), rfl⟩
theorem fl_8_19 : FLk RX8 19 8 4 true := ⟨_, rfl, by decide, (gw_in 319 (by decide +kernel) (by decide +kernel)), rfl⟩
theorem fl_8_23 : FLk RX8 23 8 5 true := ⟨_, rfl, by decide, (gw_in 320 (by decide +kernel) (by decide +kernel)), rfl⟩
theorem fl_8_26 : FLk RX8 26 8 6 true := ⟨_, rfl, by decide, (gw_in 321 (by decide +kernel) (by decide +kernel)), rfl⟩
theorem fl_8_50 : FLk RX8 50 8 3 false := ⟨_, rfl, by decide, (gw_in 317 (by decide +kernel) (by decide +kernel)), rfl⟩
set_option maxRecDepth 30000 in
theorem ok_X8_enter : okY Y_X8_enter := ⟨(gw_in 961 rfl rfl), (gw_in 12 (by decide +kernel) (by decide +kernel)), by decide +kernel, by decide +kernel⟩
theorem ml_8_116 : MLv RX8 116 Y_X8_enter 3 := ⟨(gw_in 958 (by decide +kernel) (by decide +kernel)), (gw_in 960 (by decide +kernel) (by decide +kernel)), (gw_sel (n := 12) 33 (by decide +kernel) (by decide +kernel)), ok_X8_enter, by decide +kernel⟩
theorem kl_8_114 : Jvm.Cond.constantLong RX8 114 (-7046029254386353131) ∈ gw := gw_in 957 (by decide +kernel) (by decide +kernel)
set_option maxRecDepth 20000 in
theorem dk_X0_decideAll : ∀ pc i, L_X0_decideAll[pc]? = some (some i) → decode prog_2_method_5_code pc = .ok i := dk_of (by decide +kernel)
theorem sb_X0_decideAll_54 {d : Nat} {P : Unit → Mem → Prop} {q4 : Option Nat → Int32 → Int32 → Mem → Option (Unit × Mem)} {q54 : Option Nat → Int32 → Int32 → Int32 → Mem → Option (Unit × Mem)} (hq4 : ∀ (r0 : Option Nat) (i1 : Int32) (i2 : Int32) (M : Mem), FQ (q4 r0 i1 i2 M) P → wp Y_X0_decideAll (rmD (d + 2) 0 0) (FM (QV P) 0 0) 0 0 4 [some (va_rf r0), some (.int i1), some (.int i2), none, none] [] M) (hq54 : ∀ (r0 : Option Nat) (i1 : Int32) (i2 : Int32) (i4 : Int32) (M : Mem), FQ (q54 r0 i1 i2 i4 M) P → wp Y_X0_decideAll (rmD (d + 2) 0 0) (FM (QV P) 0 0) 0 0 54 [some (va_rf r0), some (.int i1), some (.int i2), none, some (.int i4)] [] M) (r0 : Option Nat) (i1 : Int32) (i2 : Int32) (i4 : Int32) (M : Mem) (h : FQ (b_X0_decideAll_54 q4 q54 r0 i1 i2 i4 M) P) : wp Y_X0_decideAll (rmD (d + 2) 0 0) (FM (QV P) 0 0) 0 0 54 [some (va_rf r0), some (.int i1), some (.int i2), none, some (.int i4)] [] M := by
  unfold b_X0_decideAll_54 at h
  refine r_iload rfl rfl ?_
  refine r_aload_n rfl rfl ?_
  refine r_getI rfl fl_0_54 rfl h (fun v1 h => ?_)
  refine r_ic_ge 81 rfl (by decide) h (fun h => ?_) (fun h => ?_)
  · refine r_iinc (v := 1) (lo' := [some (va_rf r0), some (.int i1), some (.int (i2 + (1 : Int32))), none, some (.int i4)]) rfl rfl rfl (by decide) rfl rfl ?_
    refine r_goto 4 rfl (by decide) ?_
    refine r_msk [true, true, true, true, false] rfl ?_
    exact hq4 _ _ _ _ h
  · refine r_aload_n rfl rfl ?_
    refine r_aload_n rfl rfl ?_
    refine r_getR rfl fl_0_36 rfl h (fun v2 h => ?_)
    refine r_iload rfl rfl ?_
    refine r_iald rfl h (fun v3 h => ?_)
    refine r_iload_n rfl rfl ?_
    refine r_cv_v (vs := [.int v3, .int i2]) rfl ml_0_78 rfl (rOk.of rfl) ⟨Nat.zero_le _, Nat.zero_le _⟩ rfl rfl rfl h s_X0_decide (fun _ M1 h => ?_)
    refine r_iinc (v := 1) (lo' := [some (va_rf r0), some (.int i1), some (.int i2), none, some (.int (i4 + (1 : Int32)))]) rfl rfl rfl (by decide) rfl rfl ?_
    refine r_goto 54 rfl (by decide) ?_
    exact hq54 _ _ _ _ _ h
theorem s_X0_decideAll_54 {d : Nat} {P : Unit → Mem → Prop} {q4 : Option Nat → Int32 → Int32 → Mem → Option (Unit × Mem)} (hq4 : ∀ (r0 : Option Nat) (i1 : Int32) (i2 : Int32) (M : Mem), FQ (q4 r0 i1 i2 M) P → wp Y_X0_decideAll (rmD (d + 2) 0 0) (FM (QV P) 0 0) 0 0 4 [some (va_rf r0), some (.int i1), some (.int i2), none, none] [] M) : ∀ (k : Nat) (r0 : Option Nat) (i1 : Int32) (i2 : Int32) (i4 : Int32) (M : Mem), FQ (f_X0_decideAll_54 q4 k r0 i1 i2 i4 M) P → wp Y_X0_decideAll (rmD (d + 2) 0 0) (FM (QV P) 0 0) 0 0 54 [some (va_rf r0), some (.int i1), some (.int i2), none, some (.int i4)] [] M
  | 0, _, _, _, _, _, h => h.no
  | k + 1, r0, i1, i2, i4, M, h => sb_X0_decideAll_54 hq4 (s_X0_decideAll_54 hq4 k) r0 i1 i2 i4 M h
theorem sb_X0_decideAll_29 {d : Nat} {P : Unit → Mem → Prop} {q4 : Option Nat → Int32 → Int32 → Mem → Option (Unit × Mem)} {q29 : Option Nat → Int32 → Int32 → Int32 → Mem → Option (Unit × Mem)} (hq4 : ∀ (r0 : Option Nat) (i1 : Int32) (i2 : Int32) (M : Mem), FQ (q4 r0 i1 i2 M) P → wp Y_X0_decideAll (rmD (d + 2) 0 0) (FM (QV P) 0 0) 0 0 4 [some (va_rf r0), some (.int i1), some (.int i2), none, none] [] M) (hq29 : ∀ (r0 : Option Nat) (i1 : Int32) (i2 : Int32) (i3 : Int32) (M : Mem), FQ (q29 r0 i1 i2 i3 M) P → wp Y_X0_decideAll (rmD (d + 2) 0 0) (FM (QV P) 0 0) 0 0 29 [some (va_rf r0), some (.int i1), some (.int i2), some (.int i3), none] [] M) (r0 : Option Nat) (i1 : Int32) (i2 : Int32) (i3 : Int32) (M : Mem) (h : FQ (b_X0_decideAll_29 q4 q29 r0 i1 i2 i3 M) P) : wp Y_X0_decideAll (rmD (d + 2) 0 0) (FM (QV P) 0 0) 0 0 29 [some (va_rf r0), some (.int i1), some (.int i2), some (.int i3), none] [] M := by
  unfold b_X0_decideAll_29 at h
  refine r_iload_n rfl rfl ?_
  refine r_iload_n rfl rfl ?_
  refine r_ic_ge 51 rfl (by decide) h (fun h => ?_) (fun h => ?_)
  · refine r_iconst (v := 0) rfl (by decide) ?_
    refine r_istore (lo' := [some (va_rf r0), some (.int i1), some (.int i2), some (.int i3), some (.int (0 : Int32))]) rfl rfl rfl rfl ?_
    refine r_msk [true, true, true, false, true] rfl ?_
    exact s_X0_decideAll_54 hq4 FU _ _ _ _ _ h
  · refine r_aload_n rfl rfl ?_
    refine r_aload_n rfl rfl ?_
    refine r_getR rfl fl_0_33 rfl h (fun v1 h => ?_)
    refine r_iload_n rfl rfl ?_
    refine r_iald rfl h (fun v2 h => ?_)
    refine r_iload_n rfl rfl ?_
    refine r_cv_v (vs := [.int v2, .int i2]) rfl ml_0_74 rfl (rOk.of rfl) ⟨Nat.zero_le _, Nat.zero_le _⟩ rfl rfl rfl h s_X0_touchEntries (fun _ M1 h => ?_)
    refine r_iinc (v := 1) (lo' := [some (va_rf r0), some (.int (i1 + (1 : Int32))), some (.int i2), some (.int i3), none]) rfl rfl rfl (by decide) (by simp [stOk, cat_rf]) rfl ?_
    refine r_goto 29 rfl (by decide) ?_
    exact hq29 _ _ _ _ _ h
theorem s_X0_decideAll_29 {d : Nat} {P : Unit → Mem → Prop} {q4 : Option Nat → Int32 → Int32 → Mem → Option (Unit × Mem)} (hq4 : ∀ (r0 : Option Nat) (i1 : Int32) (i2 : Int32) (M : Mem), FQ (q4 r0 i1 i2 M) P → wp Y_X0_decideAll (rmD (d + 2) 0 0) (FM (QV P) 0 0) 0 0 4 [some (va_rf r0), some (.int i1), some (.int i2), none, none] [] M) : ∀ (k : Nat) (r0 : Option Nat) (i1 : Int32) (i2 : Int32) (i3 : Int32) (M : Mem), FQ (f_X0_decideAll_29 q4 k r0 i1 i2 i3 M) P → wp Y_X0_decideAll (rmD (d + 2) 0 0) (FM (QV P) 0 0) 0 0 29 [some (va_rf r0), some (.int i1), some (.int i2), some (.int i3), none] [] M
  | 0, _, _, _, _, _, h => h.no
  | k + 1, r0, i1, i2, i3, M, h => sb_X0_decideAll_29 hq4 (s_X0_decideAll_29 hq4 k) r0 i1 i2 i3 M h
theorem sb_X0_decideAll_4 {d : Nat} {P : Unit → Mem → Prop} {q4 : Option Nat → Int32 → Int32 → Mem → Option (Unit × Mem)} (hq4 : ∀ (r0 : Option Nat) (i1 : Int32) (i2 : Int32) (M : Mem), FQ (q4 r0 i1 i2 M) P → wp Y_X0_decideAll (rmD (d + 2) 0 0) (FM (QV P) 0 0) 0 0 4 [some (va_rf r0), some (.int i1), some (.int i2), none, none] [] M) (r0 : Option Nat) (i1 : Int32) (i2 : Int32) (M : Mem) (h : FQ (b_X0_decideAll_4 q4 r0 i1 i2 M) P) : wp Y_X0_decideAll (rmD (d + 2) 0 0) (FM (QV P) 0 0) 0 0 4 [some (va_rf r0), some (.int i1), some (.int i2), none, none] [] M := by
  unfold b_X0_decideAll_4 at h
  refine r_iload_n rfl rfl ?_
  refine r_sipush (v := 2000) rfl (by decide) ?_
  refine r_ic_gt 87 rfl (by decide) h (fun h => ?_) (fun h => ?_)
  · exact r_vret rfl rfl ⟨Nat.le_of_ble_eq_true rfl, Nat.le_of_ble_eq_true rfl⟩ h
  · refine r_iload_n rfl rfl ?_
    refine r_aload_n rfl rfl ?_
    refine r_getI rfl fl_0_50 rfl h (fun v1 h => ?_)
    refine r_ic_ge 87 rfl (by decide) h (fun h => ?_) (fun h => ?_)
    · exact r_vret rfl rfl ⟨Nat.le_of_ble_eq_true rfl, Nat.le_of_ble_eq_true rfl⟩ h
    · refine r_aload_n rfl rfl ?_
      refine r_getI rfl fl_0_50 rfl h (fun v2 h => ?_)
      refine r_istore_n (lo' := [some (va_rf r0), some (.int i1), some (.int i2), some (.int v2), none]) rfl rfl rfl rfl ?_
      refine r_aload_n rfl rfl ?_
      refine r_iconst (v := 0) rfl (by decide) ?_
      refine r_putI rfl fl_0_54 (fun z => by cases z) rfl h (fun M1 h => ?_)
      exact s_X0_decideAll_29 hq4 FU _ _ _ _ _ h
theorem s_X0_decideAll_4 {d : Nat} {P : Unit → Mem → Prop}   : ∀ (k : Nat) (r0 : Option Nat) (i1 : Int32) (i2 : Int32) (M : Mem), FQ (f_X0_decideAll_4  k r0 i1 i2 M) P → wp Y_X0_decideAll (rmD (d + 2) 0 0) (FM (QV P) 0 0) 0 0 4 [some (va_rf r0), some (.int i1), some (.int i2), none, none] [] M
  | 0, _, _, _, _, h => h.no
  | k + 1, r0, i1, i2, M, h => sb_X0_decideAll_4  (s_X0_decideAll_4  k) r0 i1 i2 M h
theorem s_X0_decideAll {d : Nat} {P : Unit → Mem → Prop} {r0 : Option Nat} {M : Mem} (h : FQ (f_X0_decideAll r0 M) P) : Con Y_X0_decideAll (d + 2) 0 0 [va_rf r0] M (QV P) := by
  refine Con.of [some (va_rf r0), none, none, none, none] (by decide +kernel) dk_X0_decideAll (by simp [Y_X0_decideAll, cat_rf, cat_i, cat_l]) (by simp [loE, Y_X0_decideAll, cat_rf, cat_i, cat_l, List.replicate]) ?_
  unfold f_X0_decideAll at h
  refine r_iconst (v := 0) rfl (by decide) ?_
  refine r_istore_n (lo' := [some (va_rf r0), some (.int (0 : Int32)), none, none, none]) rfl rfl (by simp [stOk, cat_rf]) rfl ?_
  refine r_iconst (v := 1) rfl (by decide) ?_
  refine r_istore_n (lo' := [some (va_rf r0), some (.int (0 : Int32)), some (.int (1 : Int32)), none, none]) rfl rfl rfl rfl ?_
  exact s_X0_decideAll_4 FU _ _ _ _ h
set_option maxRecDepth 20000 in
theorem dk_X0_linkExits : ∀ pc i, L_X0_linkExits[pc]? = some (some i) → decode prog_2_method_3_code pc = .ok i := dk_of (by decide +kernel)
theorem sb_X0_linkExits_12 {d : Nat} {P : Unit → Mem → Prop} {q12 : Option Nat → Int32 → Int32 → Int32 → Mem → Option (Unit × Mem)} (hq12 : ∀ (r0 : Option Nat) (i1 : Int32) (i2 : Int32) (i3 : Int32) (M : Mem), FQ (q12 r0 i1 i2 i3 M) P → wp Y_X0_linkExits (rmD d 0 0) (FM (QV P) 0 0) 0 0 12 [some (va_rf r0), some (.int i1), some (.int i2), some (.int i3), none, none, none, none] [] M) (r0 : Option Nat) (i1 : Int32) (i2 : Int32) (i3 : Int32) (M : Mem) (h : FQ (b_X0_linkExits_12 q12 r0 i1 i2 i3 M) P) : wp Y_X0_linkExits (rmD d 0 0) (FM (QV P) 0 0) 0 0 12 [some (va_rf r0), some (.int i1), some (.int i2), some (.int i3), none, none, none, none] [] M := by
  unfold b_X0_linkExits_12 at h
  refine r_iload_n rfl rfl ?_
  refine r_bipush (v := 64) rfl (by decide) ?_
  refine r_ic_ge 104 rfl (by decide) h (fun h => ?_) (fun h => ?_)
  · exact r_vret rfl rfl ⟨Nat.le_of_ble_eq_true rfl, Nat.le_of_ble_eq_true rfl⟩ h
  · refine r_iload_n rfl rfl ?_
    refine r_bipush (v := 8) rfl (by decide) ?_
    refine r_idiv rfl h (fun h => ?_)
    refine r_istore (lo' := [some (va_rf r0), some (.int i1), some (.int i2), some (.int i3), some (.int (i3 / (8 : Int32))), none, none, none]) rfl rfl rfl rfl ?_
    refine r_iload_n rfl rfl ?_
    refine r_bipush (v := 8) rfl (by decide) ?_
    refine r_irem rfl h (fun h => ?_)
    refine r_istore (lo' := [some (va_rf r0), some (.int i1), some (.int i2), some (.int i3), some (.int (i3 / (8 : Int32))), some (.int (i3 - i3 / (8 : Int32) * (8 : Int32))), none, none]) rfl rfl rfl rfl ?_
    refine r_iload rfl rfl ?_
    refine r_iload rfl rfl ?_
    refine r_ic_eq 98 rfl (by decide) h (fun h => ?_) (fun h => ?_)
    · refine r_iinc (v := 1) (lo' := [some (va_rf r0), some (.int i1), some (.int i2), some (.int (i3 + (1 : Int32))), some (.int (i3 / (8 : Int32))), some (.int (i3 - i3 / (8 : Int32) * (8 : Int32))), none, none]) rfl rfl rfl (by decide) rfl rfl ?_
      refine r_goto 12 rfl (by decide) ?_
      refine r_msk [true, true, true, true, false, false, true, true] rfl ?_
      exact hq12 _ _ _ _ _ h
    · refine r_iload_n rfl rfl ?_
      refine r_iconst (v := 1) rfl (by decide) ?_
      refine r_iload rfl rfl ?_
      refine r_ishl rfl ?_
      refine r_iand rfl ?_
      refine r_if_eq 98 rfl (by decide) h (fun h => ?_) (fun h => ?_)
      · refine r_iinc (v := 1) (lo' := [some (va_rf r0), some (.int i1), some (.int i2), some (.int (i3 + (1 : Int32))), some (.int (i3 / (8 : Int32))), some (.int (i3 - i3 / (8 : Int32) * (8 : Int32))), none, none]) rfl rfl rfl (by decide) rfl rfl ?_
        refine r_goto 12 rfl (by decide) ?_
        refine r_msk [true, true, true, true, false, false, true, true] rfl ?_
        exact hq12 _ _ _ _ _ h
      · refine r_iload_n rfl rfl ?_
        refine r_iconst (v := 1) rfl (by decide) ?_
        refine r_iload rfl rfl ?_
        refine r_ishl rfl ?_
        refine r_iand rfl ?_
        refine r_if_eq 98 rfl (by decide) h (fun h => ?_) (fun h => ?_)
        · refine r_iinc (v := 1) (lo' := [some (va_rf r0), some (.int i1), some (.int i2), some (.int (i3 + (1 : Int32))), some (.int (i3 / (8 : Int32))), some (.int (i3 - i3 / (8 : Int32) * (8 : Int32))), none, none]) rfl rfl rfl (by decide) rfl rfl ?_
          refine r_goto 12 rfl (by decide) ?_
          refine r_msk [true, true, true, true, false, false, true, true] rfl ?_
          exact hq12 _ _ _ _ _ h
        · refine r_iload_n rfl rfl ?_
          refine r_bipush (v := 64) rfl (by decide) ?_
          refine r_imul rfl ?_
          refine r_iload_n rfl rfl ?_
          refine r_iadd rfl ?_
          refine r_istore (lo' := [some (va_rf r0), some (.int i1), some (.int i2), some (.int i3), some (.int (i3 / (8 : Int32))), some (.int (i3 - i3 / (8 : Int32) * (8 : Int32))), some (.int ((i1 * (64 : Int32)) + i3)), none]) rfl rfl rfl rfl ?_
          refine r_aload_n rfl rfl ?_
          refine r_getR rfl fl_0_42 rfl h (fun v1 h => ?_)
          refine r_getR rfl fl_0_71 rfl h (fun v2 h => ?_)
          refine r_iload rfl rfl ?_
          refine r_iald rfl h (fun v3 h => ?_)
          refine r_istore (lo' := [some (va_rf r0), some (.int i1), some (.int i2), some (.int i3), some (.int (i3 / (8 : Int32))), some (.int (i3 - i3 / (8 : Int32) * (8 : Int32))), some (.int ((i1 * (64 : Int32)) + i3)), some (.int v3)]) rfl rfl rfl rfl ?_
          refine r_aload_n rfl rfl ?_
          refine r_getR rfl fl_0_30 rfl h (fun v4 h => ?_)
          refine r_iload rfl rfl ?_
          refine r_aload_n rfl rfl ?_
          refine r_getR rfl fl_0_26 rfl h (fun v5 h => ?_)
          refine r_iload rfl rfl ?_
          refine r_iald rfl h (fun v6 h => ?_)
          refine r_iast rfl h (fun M1 h => ?_)
          refine r_aload_n rfl rfl ?_
          refine r_getR rfl fl_0_26 rfl h (fun v7 h => ?_)
          refine r_iload rfl rfl ?_
          refine r_iload rfl rfl ?_
          refine r_iast rfl h (fun M2 h => ?_)
          refine r_iinc (v := 1) (lo' := [some (va_rf r0), some (.int i1), some (.int i2), some (.int (i3 + (1 : Int32))), some (.int (i3 / (8 : Int32))), some (.int (i3 - i3 / (8 : Int32) * (8 : Int32))), some (.int ((i1 * (64 : Int32)) + i3)), some (.int v3)]) rfl rfl rfl (by decide) rfl rfl ?_
          refine r_goto 12 rfl (by decide) ?_
          refine r_msk [true, true, true, true, false, false, false, false] rfl ?_
          exact hq12 _ _ _ _ _ h
theorem s_X0_linkExits_12 {d : Nat} {P : Unit → Mem → Prop}   : ∀ (k : Nat) (r0 : Option Nat) (i1 : Int32) (i2 : Int32) (i3 : Int32) (M : Mem), FQ (f_X0_linkExits_12  k r0 i1 i2 i3 M) P → wp Y_X0_linkExits (rmD d 0 0) (FM (QV P) 0 0) 0 0 12 [some (va_rf r0), some (.int i1), some (.int i2), some (.int i3), none, none, none, none] [] M
  | 0, _, _, _, _, _, h => h.no
  | k + 1, r0, i1, i2, i3, M, h => sb_X0_linkExits_12  (s_X0_linkExits_12  k) r0 i1 i2 i3 M h
theorem s_X0_linkExits {d : Nat} {P : Unit → Mem → Prop} {r0 : Option Nat} {i1 : Int32} {M : Mem} (h : FQ (f_X0_linkExits r0 i1 M) P) : Con Y_X0_linkExits d 0 0 [va_rf r0, .int i1] M (QV P) := by
  refine Con.of [some (va_rf r0), some (.int i1), none, none, none, none, none, none] (by decide +kernel) dk_X0_linkExits (by simp [Y_X0_linkExits, cat_rf, cat_i, cat_l]) (by simp [loE, Y_X0_linkExits, cat_rf, cat_i, cat_l, List.replicate]) ?_
  unfold f_X0_linkExits at h
  refine r_aload_n rfl rfl ?_
  refine r_getR rfl fl_0_42 rfl h (fun v1 h => ?_)
  refine r_getR rfl fl_0_60 rfl h (fun v2 h => ?_)
  refine r_iload_n rfl rfl ?_
  refine r_iald rfl h (fun v3 h => ?_)
  refine r_istore_n (lo' := [some (va_rf r0), some (.int i1), some (.int v3), none, none, none, none, none]) rfl rfl rfl rfl ?_
  refine r_iconst (v := 0) rfl (by decide) ?_
  refine r_istore_n (lo' := [some (va_rf r0), some (.int i1), some (.int v3), some (.int (0 : Int32)), none, none, none, none]) rfl rfl rfl rfl ?_
  exact s_X0_linkExits_12 FU _ _ _ _ _ h
set_option maxRecDepth 20000 in
theorem dk_X0_prepare : ∀ pc i, L_X0_prepare[pc]? = some (some i) → decode prog_2_method_2_code pc = .ok i := dk_of (by decide +kernel)
theorem sb_X0_prepare_90 {d : Nat} {P : Unit → Mem → Prop} {q90 : Option Nat → Int32 → Mem → Option (Unit × Mem)} (hq90 : ∀ (r0 : Option Nat) (i1 : Int32) (M : Mem), FQ (q90 r0 i1 M) P → wp Y_X0_prepare (rmD (d + 1) 0 0) (FM (QV P) 0 0) 0 0 90 [some (va_rf r0), some (.int i1)] [] M) (r0 : Option Nat) (i1 : Int32) (M : Mem) (h : FQ (b_X0_prepare_90 q90 r0 i1 M) P) : wp Y_X0_prepare (rmD (d + 1) 0 0) (FM (QV P) 0 0) 0 0 90 [some (va_rf r0), some (.int i1)] [] M := by
  unfold b_X0_prepare_90 at h
  refine r_iload_n rfl rfl ?_
  refine r_aload_n rfl rfl ?_
  refine r_getR rfl fl_0_42 rfl h (fun v1 h => ?_)
  refine r_getI rfl fl_0_57 rfl h (fun v2 h => ?_)
  refine r_ic_ge 134 rfl (by decide) h (fun h => ?_) (fun h => ?_)
  · exact r_vret rfl rfl ⟨Nat.le_of_ble_eq_true rfl, Nat.le_of_ble_eq_true rfl⟩ h
  · refine r_aload_n rfl rfl ?_
    refine r_getR rfl fl_0_42 rfl h (fun v3 h => ?_)
    refine r_getR rfl fl_0_60 rfl h (fun v4 h => ?_)
    refine r_iload_n rfl rfl ?_
    refine r_iald rfl h (fun v5 h => ?_)
    refine r_if_ne 123 rfl (by decide) h (fun h => ?_) (fun h => ?_)
    · refine r_aload_n rfl rfl ?_
      refine r_iload_n rfl rfl ?_
      refine r_iconst (v := 1) rfl (by decide) ?_
      refine r_iconst (v := 0) rfl (by decide) ?_
      refine r_cv_v (vs := [.int i1, .int (1 : Int32), .int (0 : Int32)]) rfl ml_0_63 rfl (rOk.of rfl) ⟨Nat.zero_le _, Nat.zero_le _⟩ rfl rfl rfl h s_X0_settle (fun _ M1 h => ?_)
      refine r_goto 128 rfl (by decide) ?_
      refine r_iinc (v := 1) (lo' := [some (va_rf r0), some (.int (i1 + (1 : Int32)))]) rfl rfl rfl (by decide) (by simp [stOk, cat_rf]) rfl ?_
      refine r_goto 90 rfl (by decide) ?_
      exact hq90 _ _ _ h
    · refine r_aload_n rfl rfl ?_
      refine r_iload_n rfl rfl ?_
      refine r_cv_v (vs := [.int i1]) rfl ml_0_67 rfl (rOk.of rfl) ⟨Nat.zero_le _, Nat.zero_le _⟩ rfl rfl rfl h s_X0_linkExits (fun _ M2 h => ?_)
      refine r_iinc (v := 1) (lo' := [some (va_rf r0), some (.int (i1 + (1 : Int32)))]) rfl rfl rfl (by decide) (by simp [stOk, cat_rf]) rfl ?_
      refine r_goto 90 rfl (by decide) ?_
      exact hq90 _ _ _ h
theorem s_X0_prepare_90 {d : Nat} {P : Unit → Mem → Prop}   : ∀ (k : Nat) (r0 : Option Nat) (i1 : Int32) (M : Mem), FQ (f_X0_prepare_90  k r0 i1 M) P → wp Y_X0_prepare (rmD (d + 1) 0 0) (FM (QV P) 0 0) 0 0 90 [some (va_rf r0), some (.int i1)] [] M
  | 0, _, _, _, h => h.no
  | k + 1, r0, i1, M, h => sb_X0_prepare_90  (s_X0_prepare_90  k) r0 i1 M h
theorem sb_X0_prepare_49 {d : Nat} {P : Unit → Mem → Prop} {q49 : Option Nat → Int32 → Mem → Option (Unit × Mem)} (hq49 : ∀ (r0 : Option Nat) (i1 : Int32) (M : Mem), FQ (q49 r0 i1 M) P → wp Y_X0_prepare (rmD (d + 1) 0 0) (FM (QV P) 0 0) 0 0 49 [some (va_rf r0), some (.int i1)] [] M) (r0 : Option Nat) (i1 : Int32) (M : Mem) (h : FQ (b_X0_prepare_49 q49 r0 i1 M) P) : wp Y_X0_prepare (rmD (d + 1) 0 0) (FM (QV P) 0 0) 0 0 49 [some (va_rf r0), some (.int i1)] [] M := by
  unfold b_X0_prepare_49 at h
  refine r_iload_n rfl rfl ?_
  refine r_aload_n rfl rfl ?_
  refine r_getR rfl fl_0_42 rfl h (fun v1 h => ?_)
  refine r_getI rfl fl_0_57 rfl h (fun v2 h => ?_)
  refine r_bipush (v := 8) rfl (by decide) ?_
  refine r_imul rfl ?_
  refine r_ic_ge 83 rfl (by decide) h (fun h => ?_) (fun h => ?_)
  · refine r_aload_n rfl rfl ?_
    refine r_iconst (v := 0) rfl (by decide) ?_
    refine r_putI rfl fl_0_50 (fun z => by cases z) rfl h (fun M1 h => ?_)
    refine r_iconst (v := 0) rfl (by decide) ?_
    refine r_istore_n (lo' := [some (va_rf r0), some (.int (0 : Int32))]) rfl rfl (by simp [stOk, cat_rf]) rfl ?_
    exact s_X0_prepare_90 FU _ _ _ h
  · refine r_aload_n rfl rfl ?_
    refine r_getR rfl fl_0_20 rfl h (fun v3 h => ?_)
    refine r_iload_n rfl rfl ?_
    refine r_iconst (v := 0) rfl (by decide) ?_
    refine r_iast rfl h (fun M2 h => ?_)
    refine r_aload_n rfl rfl ?_
    refine r_getR rfl fl_0_23 rfl h (fun v4 h => ?_)
    refine r_iload_n rfl rfl ?_
    refine r_iconst (v := 0) rfl (by decide) ?_
    refine r_iast rfl h (fun M3 h => ?_)
    refine r_iinc (v := 1) (lo' := [some (va_rf r0), some (.int (i1 + (1 : Int32)))]) rfl rfl rfl (by decide) (by simp [stOk, cat_rf]) rfl ?_
    refine r_goto 49 rfl (by decide) ?_
    exact hq49 _ _ _ h
theorem s_X0_prepare_49 {d : Nat} {P : Unit → Mem → Prop}   : ∀ (k : Nat) (r0 : Option Nat) (i1 : Int32) (M : Mem), FQ (f_X0_prepare_49  k r0 i1 M) P → wp Y_X0_prepare (rmD (d + 1) 0 0) (FM (QV P) 0 0) 0 0 49 [some (va_rf r0), some (.int i1)] [] M
  | 0, _, _, _, h => h.no
  | k + 1, r0, i1, M, h => sb_X0_prepare_49  (s_X0_prepare_49  k) r0 i1 M h
theorem sb_X0_prepare_2 {d : Nat} {P : Unit → Mem → Prop} {q2 : Option Nat → Int32 → Mem → Option (Unit × Mem)} (hq2 : ∀ (r0 : Option Nat) (i1 : Int32) (M : Mem), FQ (q2 r0 i1 M) P → wp Y_X0_prepare (rmD (d + 1) 0 0) (FM (QV P) 0 0) 0 0 2 [some (va_rf r0), some (.int i1)] [] M) (r0 : Option Nat) (i1 : Int32) (M : Mem) (h : FQ (b_X0_prepare_2 q2 r0 i1 M) P) : wp Y_X0_prepare (rmD (d + 1) 0 0) (FM (QV P) 0 0) 0 0 2 [some (va_rf r0), some (.int i1)] [] M := by
  unfold b_X0_prepare_2 at h
  refine r_iload_n rfl rfl ?_
  refine r_aload_n rfl rfl ?_
  refine r_getR rfl fl_0_42 rfl h (fun v1 h => ?_)
  refine r_getI rfl fl_0_57 rfl h (fun v2 h => ?_)
  refine r_ic_ge 47 rfl (by decide) h (fun h => ?_) (fun h => ?_)
  · refine r_iconst (v := 0) rfl (by decide) ?_
    refine r_istore_n (lo' := [some (va_rf r0), some (.int (0 : Int32))]) rfl rfl (by simp [stOk, cat_rf]) rfl ?_
    exact s_X0_prepare_49 FU _ _ _ h
  · refine r_aload_n rfl rfl ?_
    refine r_getR rfl fl_0_26 rfl h (fun v3 h => ?_)
    refine r_iload_n rfl rfl ?_
    refine r_iconst (v := -1) rfl (by decide) ?_
    refine r_iast rfl h (fun M1 h => ?_)
    refine r_aload_n rfl rfl ?_
    refine r_getR rfl fl_0_11 rfl h (fun v4 h => ?_)
    refine r_iload_n rfl rfl ?_
    refine r_iconst (v := 0) rfl (by decide) ?_
    refine r_iast rfl h (fun M2 h => ?_)
    refine r_aload_n rfl rfl ?_
    refine r_getR rfl fl_0_17 rfl h (fun v5 h => ?_)
    refine r_iload_n rfl rfl ?_
    refine r_iconst (v := -1) rfl (by decide) ?_
    refine r_iast rfl h (fun M3 h => ?_)
    refine r_aload_n rfl rfl ?_
    refine r_getR rfl fl_0_39 rfl h (fun v6 h => ?_)
    refine r_iload_n rfl rfl ?_
    refine r_iconst (v := 0) rfl (by decide) ?_
    refine r_iast rfl h (fun M4 h => ?_)
    refine r_iinc (v := 1) (lo' := [some (va_rf r0), some (.int (i1 + (1 : Int32)))]) rfl rfl rfl (by decide) (by simp [stOk, cat_rf]) rfl ?_
    refine r_goto 2 rfl (by decide) ?_
    exact hq2 _ _ _ h
theorem s_X0_prepare_2 {d : Nat} {P : Unit → Mem → Prop}   : ∀ (k : Nat) (r0 : Option Nat) (i1 : Int32) (M : Mem), FQ (f_X0_prepare_2  k r0 i1 M) P → wp Y_X0_prepare (rmD (d + 1) 0 0) (FM (QV P) 0 0) 0 0 2 [some (va_rf r0), some (.int i1)] [] M
  | 0, _, _, _, h => h.no
  | k + 1, r0, i1, M, h => sb_X0_prepare_2  (s_X0_prepare_2  k) r0 i1 M h
theorem s_X0_prepare {d : Nat} {P : Unit → Mem → Prop} {r0 : Option Nat} {M : Mem} (h : FQ (f_X0_prepare r0 M) P) : Con Y_X0_prepare (d + 1) 0 0 [va_rf r0] M (QV P) := by
  refine Con.of [some (va_rf r0), none] (by decide +kernel) dk_X0_prepare (by simp [Y_X0_prepare, cat_rf, cat_i, cat_l]) (by simp [loE, Y_X0_prepare, cat_rf, cat_i, cat_l, List.replicate]) ?_
  unfold f_X0_prepare at h
  refine r_iconst (v := 0) rfl (by decide) ?_
  refine r_istore_n (lo' := [some (va_rf r0), some (.int (0 : Int32))]) rfl rfl (by simp [stOk, cat_rf]) rfl ?_
  exact s_X0_prepare_2 FU _ _ _ h
set_option maxRecDepth 20000 in
theorem dk_J7_fill_53178 : ∀ pc i, L_J7_fill_53178[pc]? = some (some i) → decode prog_22_method_103_code pc = .ok i := dk_of (by decide +kernel)
theorem sb_J7_fill_53178_5 {d : Nat} {P : Unit → Mem → Prop} {q5 : Option Nat → Int32 → Int32 → Int32 → Mem → Option (Unit × Mem)} (hq5 : ∀ (r0 : Option Nat) (i1 : Int32) (i2 : Int32) (i3 : Int32) (M : Mem), FQ (q5 r0 i1 i2 i3 M) P → wp Y_J7_fill_53178 (rmD d 0 0) (FM (QV P) 0 0) 0 0 5 [some (va_rf r0), some (.int i1), some (.int i2), some (.int i3)] [] M) (r0 : Option Nat) (i1 : Int32) (i2 : Int32) (i3 : Int32) (M : Mem) (h : FQ (b_J7_fill_53178_5 q5 r0 i1 i2 i3 M) P) : wp Y_J7_fill_53178 (rmD d 0 0) (FM (QV P) 0 0) 0 0 5 [some (va_rf r0), some (.int i1), some (.int i2), some (.int i3)] [] M := by
  unfold b_J7_fill_53178_5 at h
  refine r_iload_n rfl rfl ?_
  refine r_iload_n rfl rfl ?_
  refine r_ic_ge 20 rfl (by decide) h (fun h => ?_) (fun h => ?_)
  · exact r_vret rfl rfl ⟨Nat.le_of_ble_eq_true rfl, Nat.le_of_ble_eq_true rfl⟩ h
  · refine r_aload_n rfl rfl ?_
    refine r_iload_n rfl rfl ?_
    refine r_iload_n rfl rfl ?_
    refine r_iast rfl h (fun M1 h => ?_)
    refine r_iinc (v := 1) (lo' := [some (va_rf r0), some (.int i1), some (.int (i2 + (1 : Int32))), some (.int i3)]) rfl rfl rfl (by decide) rfl rfl ?_
    refine r_goto 5 rfl (by decide) ?_
    exact hq5 _ _ _ _ _ h
theorem s_J7_fill_53178_5 {d : Nat} {P : Unit → Mem → Prop}   : ∀ (k : Nat) (r0 : Option Nat) (i1 : Int32) (i2 : Int32) (i3 : Int32) (M : Mem), FQ (f_J7_fill_53178_5  k r0 i1 i2 i3 M) P → wp Y_J7_fill_53178 (rmD d 0 0) (FM (QV P) 0 0) 0 0 5 [some (va_rf r0), some (.int i1), some (.int i2), some (.int i3)] [] M
  | 0, _, _, _, _, _, h => h.no
  | k + 1, r0, i1, i2, i3, M, h => sb_J7_fill_53178_5  (s_J7_fill_53178_5  k) r0 i1 i2 i3 M h
theorem s_J7_fill_53178 {d : Nat} {P : Unit → Mem → Prop} {r0 : Option Nat} {i1 : Int32} {M : Mem} (h : FQ (f_J7_fill_53178 r0 i1 M) P) : Con Y_J7_fill_53178 d 0 0 [va_rf r0, .int i1] M (QV P) := by
  refine Con.of [some (va_rf r0), some (.int i1), none, none] (by decide +kernel) dk_J7_fill_53178 (by simp [Y_J7_fill_53178, cat_rf, cat_i, cat_l]) (by simp [loE, Y_J7_fill_53178, cat_rf, cat_i, cat_l, List.replicate]) ?_
  unfold f_J7_fill_53178 at h
  refine r_iconst (v := 0) rfl (by decide) ?_
  refine r_istore_n (lo' := [some (va_rf r0), some (.int i1), some (.int (0 : Int32)), none]) rfl rfl rfl rfl ?_
  refine r_aload_n rfl rfl ?_
  refine r_alen rfl h (fun v1 h => ?_)
  refine r_istore_n (lo' := [some (va_rf r0), some (.int i1), some (.int (0 : Int32)), some (.int v1)]) rfl rfl rfl rfl ?_
  exact s_J7_fill_53178_5 FU _ _ _ _ _ h
set_option maxRecDepth 20000 in
theorem dk_X4_setBoardAndTurn : ∀ pc i, L_X4_setBoardAndTurn[pc]? = some (some i) → decode prog_6_method_4_code pc = .ok i := dk_of (by decide +kernel)
theorem s_X4_setBoardAndTurn {d : Nat} {P : Unit → Mem → Prop} {r0 : Option Nat} {l1 : Int64} {M : Mem} (h : FQ (f_X4_setBoardAndTurn r0 l1 M) P) : Con Y_X4_setBoardAndTurn d 0 0 [va_rf r0, .long l1] M (QV P) := by
  refine Con.of [some (va_rf r0), some (.long l1), none] (by decide +kernel) dk_X4_setBoardAndTurn (by simp [Y_X4_setBoardAndTurn, cat_rf, cat_i, cat_l]) (by simp [loE, Y_X4_setBoardAndTurn, cat_rf, cat_i, cat_l, List.replicate]) ?_
  unfold f_X4_setBoardAndTurn at h
  refine r_aload_n rfl rfl ?_
  refine r_lload_n rfl rfl ?_
  refine r_bipush (v := 48) rfl (by decide) ?_
  refine r_lushr rfl ?_
  refine r_l2i rfl ?_
  refine r_putI rfl fl_4_19 (fun z => by cases z) rfl h (fun M1 h => ?_)
  refine r_aload_n rfl rfl ?_
  refine r_lload_n rfl rfl ?_
  refine r_ldc2 rfl kl_4_22 ?_
  refine r_land rfl ?_
  refine r_putL rfl fl_4_9 (fun z => by cases z) rfl h (fun M2 h => ?_)
  exact r_vret rfl rfl ⟨Nat.le_of_ble_eq_true rfl, Nat.le_of_ble_eq_true rfl⟩ h
set_option maxRecDepth 20000 in
theorem dk_X8_enter : ∀ pc i, L_X8_enter[pc]? = some (some i) → decode prog_10_method_7_code pc = .ok i := dk_of (by decide +kernel)
theorem s_X8_enter {d : Nat} {P : Int32 → Mem → Prop} {r0 : Option Nat} {i1 : Int32} {l2 : Int64} {i4 : Int32} {M : Mem} (h : FQ (f_X8_enter r0 i1 l2 i4 M) P) : Con Y_X8_enter d 0 0 [va_rf r0, .int i1, .long l2, .int i4] M (QI P) := by
  refine Con.of [some (va_rf r0), some (.int i1), some (.long l2), none, some (.int i4)] (by decide +kernel) dk_X8_enter (by simp [Y_X8_enter, cat_rf, cat_i, cat_l]) (by simp [loE, Y_X8_enter, cat_rf, cat_i, cat_l, List.replicate]) ?_
  unfold f_X8_enter at h
  refine r_aload_n rfl rfl ?_
  refine r_getI rfl fl_8_46 rfl h (fun v1 h => ?_)
  refine r_sipush (v := 2000) rfl (by decide) ?_
  refine r_ic_lt 17 rfl (by decide) h (fun h => ?_) (fun h => ?_)
  · refine r_aload_n rfl rfl ?_
    refine r_getR rfl fl_8_19 rfl h (fun v2 h => ?_)
    refine r_aload_n rfl rfl ?_
    refine r_getI rfl fl_8_46 rfl h (fun v3 h => ?_)
    refine r_lload_n rfl rfl ?_
    refine r_last rfl h (fun M1 h => ?_)
    refine r_aload_n rfl rfl ?_
    refine r_getR rfl fl_8_23 rfl h (fun v4 h => ?_)
    refine r_aload_n rfl rfl ?_
    refine r_getI rfl fl_8_46 rfl h (fun v5 h => ?_)
    refine r_iload rfl rfl ?_
    refine r_iast rfl h (fun M2 h => ?_)
    refine r_aload_n rfl rfl ?_
    refine r_dup rfl (cat_rf _) ?_
    refine r_getI rfl fl_8_46 rfl h (fun v6 h => ?_)
    refine r_iconst (v := 1) rfl (by decide) ?_
    refine r_iadd rfl ?_
    refine r_putI rfl fl_8_46 (fun z => by cases z) rfl h (fun M3 h => ?_)
    refine r_aload_n rfl rfl ?_
    refine r_getR rfl fl_8_26 rfl h (fun v7 h => ?_)
    refine r_iload_n rfl rfl ?_
    refine r_aload_n rfl rfl ?_
    refine r_getI rfl fl_8_46 rfl h (fun v8 h => ?_)
    refine r_iast rfl h (fun M4 h => ?_)
    refine r_aload_n rfl rfl ?_
    refine r_getI rfl fl_8_46 rfl h (fun v9 h => ?_)
    refine r_iconst (v := 1) rfl (by decide) ?_
    refine r_isub rfl ?_
    exact r_iret rfl rfl ⟨Nat.le_of_ble_eq_true rfl, Nat.le_of_ble_eq_true rfl⟩ h
  · refine r_aload_n rfl rfl ?_
    refine r_iconst (v := 1) rfl (by decide) ?_
    refine r_putZ rfl fl_8_50 (fun z => by cases z) rfl h (fun M5 h => ?_)
    refine r_iconst (v := 0) rfl (by decide) ?_
    exact r_iret rfl rfl ⟨Nat.le_of_ble_eq_true rfl, Nat.le_of_ble_eq_true rfl⟩ h
set_option maxRecDepth 20000 in
theorem dk_X8_numberOf : ∀ pc i, L_X8_numberOf[pc]? = some (some i) → decode prog_10_method_6_code pc = .ok i := dk_of (by decide +kernel)
theorem s_X8_numberOf_83 {d : Nat} {P : Int32 → Mem → Prop} {q24 : Option Nat → Int64 → Int32 → Int32 → Int32 → Mem → Option (Int32 × Mem)} (hq24 : ∀ (r0 : Option Nat) (l1 : Int64) (i3 : Int32) (i6 : Int32) (i7 : Int32) (M : Mem), FQ (q24 r0 l1 i3 i6 i7 M) P → wp Y_X8_numberOf (rmD (d + 1) 0 0) (FM (QI P) 0 0) 0 0 24 [some (va_rf r0), some (.long l1), none, some (.int i3), none, none, some (.int i6), some (.int i7), none] [] M) (r0 : Option Nat) (l1 : Int64) (i3 : Int32) (i6 : Int32) (i7 : Int32) (M : Mem) (h : FQ (f_X8_numberOf_83 q24 r0 l1 i3 i6 i7 M) P) : wp Y_X8_numberOf (rmD (d + 1) 0 0) (FM (QI P) 0 0) 0 0 83 [some (va_rf r0), some (.long l1), none, some (.int i3), none, none, some (.int i6), some (.int i7), none] [] M := by
  unfold f_X8_numberOf_83 at h
  refine r_iload rfl rfl ?_
  refine r_iconst (v := 1) rfl (by decide) ?_
  refine r_iadd rfl ?_
  refine r_sipush (v := 4096) rfl (by decide) ?_
  refine r_ic_ge 100 rfl (by decide) h (fun h => ?_) (fun h => ?_)
  · refine r_iconst (v := 0) rfl (by decide) ?_
    refine r_istore (lo' := [some (va_rf r0), some (.long l1), none, some (.int i3), none, none, some (.int (0 : Int32)), some (.int i7), none]) rfl rfl rfl rfl ?_
    refine r_iinc (v := 1) (lo' := [some (va_rf r0), some (.long l1), none, some (.int i3), none, none, some (.int (0 : Int32)), some (.int (i7 + (1 : Int32))), none]) rfl rfl rfl (by decide) rfl rfl ?_
    refine r_goto 24 rfl (by decide) ?_
    exact hq24 _ _ _ _ _ _ h
  · refine r_iload rfl rfl ?_
    refine r_iconst (v := 1) rfl (by decide) ?_
    refine r_iadd rfl ?_
    refine r_goto 101 rfl (by decide) ?_
    refine r_istore (lo' := [some (va_rf r0), some (.long l1), none, some (.int i3), none, none, some (.int (i6 + (1 : Int32))), some (.int i7), none]) rfl rfl rfl rfl ?_
    refine r_iinc (v := 1) (lo' := [some (va_rf r0), some (.long l1), none, some (.int i3), none, none, some (.int (i6 + (1 : Int32))), some (.int (i7 + (1 : Int32))), none]) rfl rfl rfl (by decide) rfl rfl ?_
    refine r_goto 24 rfl (by decide) ?_
    exact hq24 _ _ _ _ _ _ h
theorem sb_X8_numberOf_24 {d : Nat} {P : Int32 → Mem → Prop} {q24 : Option Nat → Int64 → Int32 → Int32 → Int32 → Mem → Option (Int32 × Mem)} (hq24 : ∀ (r0 : Option Nat) (l1 : Int64) (i3 : Int32) (i6 : Int32) (i7 : Int32) (M : Mem), FQ (q24 r0 l1 i3 i6 i7 M) P → wp Y_X8_numberOf (rmD (d + 1) 0 0) (FM (QI P) 0 0) 0 0 24 [some (va_rf r0), some (.long l1), none, some (.int i3), none, none, some (.int i6), some (.int i7), none] [] M) (r0 : Option Nat) (l1 : Int64) (i3 : Int32) (i6 : Int32) (i7 : Int32) (M : Mem) (h : FQ (b_X8_numberOf_24 q24 r0 l1 i3 i6 i7 M) P) : wp Y_X8_numberOf (rmD (d + 1) 0 0) (FM (QI P) 0 0) 0 0 24 [some (va_rf r0), some (.long l1), none, some (.int i3), none, none, some (.int i6), some (.int i7), none] [] M := by
  unfold b_X8_numberOf_24 at h
  refine r_iload rfl rfl ?_
  refine r_sipush (v := 4096) rfl (by decide) ?_
  refine r_ic_ge 109 rfl (by decide) h (fun h => ?_) (fun h => ?_)
  · refine r_iconst (v := 0) rfl (by decide) ?_
    exact r_iret rfl rfl ⟨Nat.le_of_ble_eq_true rfl, Nat.le_of_ble_eq_true rfl⟩ h
  · refine r_aload_n rfl rfl ?_
    refine r_getR rfl fl_8_26 rfl h (fun v1 h => ?_)
    refine r_iload rfl rfl ?_
    refine r_iald rfl h (fun v2 h => ?_)
    refine r_iconst (v := 1) rfl (by decide) ?_
    refine r_isub rfl ?_
    refine r_istore (lo' := [some (va_rf r0), some (.long l1), none, some (.int i3), none, none, some (.int i6), some (.int i7), some (.int (v2 - (1 : Int32)))]) rfl rfl rfl rfl ?_
    refine r_iload rfl rfl ?_
    refine r_if_ge 57 rfl (by decide) h (fun h => ?_) (fun h => ?_)
    · refine r_aload_n rfl rfl ?_
      refine r_getR rfl fl_8_19 rfl h (fun v3 h => ?_)
      refine r_iload rfl rfl ?_
      refine r_lald rfl h (fun v4 h => ?_)
      refine r_lload_n rfl rfl ?_
      refine r_lcmp rfl ?_
      refine r_if_ne 83 rfl (by decide) h (fun h => ?_) (fun h => ?_)
      · refine r_aload_n rfl rfl ?_
        refine r_getR rfl fl_8_23 rfl h (fun v5 h => ?_)
        refine r_iload rfl rfl ?_
        refine r_iald rfl h (fun v6 h => ?_)
        refine r_iload_n rfl rfl ?_
        refine r_ic_ne 83 rfl (by decide) h (fun h => ?_) (fun h => ?_)
        · refine r_iload rfl rfl ?_
          exact r_iret rfl rfl ⟨Nat.le_of_ble_eq_true rfl, Nat.le_of_ble_eq_true rfl⟩ h
        · refine r_msk [true, true, true, true, true, true, true, true, false] rfl ?_
          exact s_X8_numberOf_83 hq24 _ _ _ _ _ _ h
      · refine r_msk [true, true, true, true, true, true, true, true, false] rfl ?_
        exact s_X8_numberOf_83 hq24 _ _ _ _ _ _ h
    · refine r_aload_n rfl rfl ?_
      refine r_iload rfl rfl ?_
      refine r_lload_n rfl rfl ?_
      refine r_iload_n rfl rfl ?_
      refine r_cv_i (vs := [.int i6, .long l1, .int i3]) rfl ml_8_116 rfl (rOk.of rfl) ⟨Nat.zero_le _, Nat.zero_le _⟩ rfl rfl rfl h s_X8_enter (fun v7 M1 h => ?_)
      exact r_iret rfl rfl ⟨Nat.le_of_ble_eq_true rfl, Nat.le_of_ble_eq_true rfl⟩ h
theorem s_X8_numberOf_24 {d : Nat} {P : Int32 → Mem → Prop}   : ∀ (k : Nat) (r0 : Option Nat) (l1 : Int64) (i3 : Int32) (i6 : Int32) (i7 : Int32) (M : Mem), FQ (f_X8_numberOf_24  k r0 l1 i3 i6 i7 M) P → wp Y_X8_numberOf (rmD (d + 1) 0 0) (FM (QI P) 0 0) 0 0 24 [some (va_rf r0), some (.long l1), none, some (.int i3), none, none, some (.int i6), some (.int i7), none] [] M
  | 0, _, _, _, _, _, _, h => h.no
  | k + 1, r0, l1, i3, i6, i7, M, h => sb_X8_numberOf_24  (s_X8_numberOf_24  k) r0 l1 i3 i6 i7 M h
theorem s_X8_numberOf {d : Nat} {P : Int32 → Mem → Prop} {r0 : Option Nat} {l1 : Int64} {i3 : Int32} {M : Mem} (h : FQ (f_X8_numberOf r0 l1 i3 M) P) : Con Y_X8_numberOf (d + 1) 0 0 [va_rf r0, .long l1, .int i3] M (QI P) := by
  refine Con.of [some (va_rf r0), some (.long l1), none, some (.int i3), none, none, none, none, none] (by decide +kernel) dk_X8_numberOf (by simp [Y_X8_numberOf, cat_rf, cat_i, cat_l]) (by simp [loE, Y_X8_numberOf, cat_rf, cat_i, cat_l, List.replicate]) ?_
  unfold f_X8_numberOf at h
  refine r_lload_n rfl rfl ?_
  refine r_iload_n rfl rfl ?_
  refine r_i2l rfl ?_
  refine r_bipush (v := 40) rfl (by decide) ?_
  refine r_lshl rfl ?_
  refine r_lxor rfl ?_
  refine r_ldc2 rfl kl_8_114 ?_
  refine r_lmul rfl ?_
  refine r_lstore (lo' := [some (va_rf r0), some (.long l1), none, some (.int i3), some (.long ((l1 ^^^ (i3.toInt64 <<< ((40 : Int32).toInt64 &&& 63))) * (-7046029254386353131 : Int64))), none, none, none, none]) rfl rfl rfl rfl ?_
  refine r_lload rfl rfl ?_
  refine r_bipush (v := 52) rfl (by decide) ?_
  refine r_lushr rfl ?_
  refine r_l2i rfl ?_
  refine r_istore (lo' := [some (va_rf r0), some (.long l1), none, some (.int i3), some (.long ((l1 ^^^ (i3.toInt64 <<< ((40 : Int32).toInt64 &&& 63))) * (-7046029254386353131 : Int64))), none, some (.int (((l1 ^^^ (i3.toInt64 <<< ((40 : Int32).toInt64 &&& 63))) * (-7046029254386353131 : Int64)).toUInt64 >>> ((52 : Int32).toInt64.toUInt64 &&& Int64.toUInt64 63)).toInt64.toInt32), none, none]) rfl rfl rfl rfl ?_
  refine r_iconst (v := 0) rfl (by decide) ?_
  refine r_istore (lo' := [some (va_rf r0), some (.long l1), none, some (.int i3), some (.long ((l1 ^^^ (i3.toInt64 <<< ((40 : Int32).toInt64 &&& 63))) * (-7046029254386353131 : Int64))), none, some (.int (((l1 ^^^ (i3.toInt64 <<< ((40 : Int32).toInt64 &&& 63))) * (-7046029254386353131 : Int64)).toUInt64 >>> ((52 : Int32).toInt64.toUInt64 &&& Int64.toUInt64 63)).toInt64.toInt32), some (.int (0 : Int32)), none]) rfl rfl rfl rfl ?_
  refine r_msk [true, true, true, true, false, true, true, true, true] rfl ?_
  exact s_X8_numberOf_24 FU _ _ _ _ _ _ h
