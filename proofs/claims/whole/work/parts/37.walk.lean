/-! walked by program (wip/gen): X6_chain X6_clear X5_read X11_text X11_turn X11_way X11_won X12_in X12_isPlace X12_about X12_boardCode X12_isMove X12_isIn -/
def L_X6_chain : List (Option (Instr × Nat)) := [some (.aload_n 0, 1), some (.getfield 30, 3), none, none, some (.iconst 1, 1), some (.isub, 1), some (.istore_n 1, 1), some (.iload_n 1, 1), some (.ifCond .lt 56, 3), none, none, some (.aload_n 0, 1), some (.getfield 13, 3), none, none, some (.iload_n 1, 1), some (.aaload, 1), some (.astore_n 2, 1), some (.aload_n 2, 1), some (.getfield 41, 3), none, none, some (.ifCond .ne 36, 3), none, none, some (.aload_n 2, 1), some (.getfield 47, 3), none, none, some (.invokestatic 50, 3), none, none, some (.ifCond .eq 26, 3), none, none, some (.aload_n 2, 1), some (.aload_n 0, 1), some (.getfield 17, 3), none, none, some (.aload_n 2, 1), some (.getfield 47, 3), none, none, some (.aaload, 1), some (.putfield 53, 3), none, none, some (.aload_n 0, 1), some (.getfield 17, 3), none, none, some (.aload_n 2, 1), some (.getfield 47, 3), none, none, some (.aload_n 2, 1), some (.aastore, 1), some (.iinc 1 (-1), 3), none, none, some (.goto (-54), 3), none, none, some (.return_, 1)]
def Y_X6_chain : YM := (⟨RX6, "chain", "()V"⟩, prog_8_method_7_code, L_X6_chain, 3, none)
def b_X6_chain_7 (q7 : Option Nat → Int32 → Mem → Option (Unit × Mem)) (r0 : Option Nat) (i1 : Int32) (M : Mem) : Option (Unit × Mem) :=
(if i1 < 0 then
some ((), M)
else
gR M r0 6 0 fun v1 =>
aR M v1 6 i1 fun v2 =>
gI M v2 1 1 fun v3 =>
(if v3 = 0 then
gI M v2 1 2 fun v4 =>
cA (f_X11_isMove v4 M) fun v5 M1 =>
(if v5 = 0 then
q7 r0 (i1 + (-1 : Int32)) M1
else
gR M1 r0 6 1 fun v6 =>
gI M1 v2 1 2 fun v7 =>
aR M1 v6 6 v7 fun v8 =>
pR M1 v2 1 8 v8 fun M2 =>
gR M2 r0 6 1 fun v9 =>
gI M2 v2 1 2 fun v10 =>
wR M2 v9 6 v10 v2 fun M3 =>
q7 r0 (i1 + (-1 : Int32)) M3)
else
q7 r0 (i1 + (-1 : Int32)) M))
def f_X6_chain_7 (n : Nat) : Option Nat → Int32 → Mem → Option (Unit × Mem) := lpN (fun _ _ _ => none) (b_X6_chain_7 ) n
def f_X6_chain (r0 : Option Nat) (M : Mem) : Option (Unit × Mem) :=
gI M r0 6 4 fun v1 =>
f_X6_chain_7 FU r0 (v1 - (1 : Int32)) M
def L_X6_clear : List (Option (Instr × Nat)) := [some (.aload_n 0, 1), some (.iconst 0, 1), some (.putfield 30, 3), none, none, some (.aload_n 0, 1), some (.iconst 0, 1), some (.putfield 34, 3), none, none, some (.iconst 0, 1), some (.istore_n 1, 1), some (.iload_n 1, 1), some (.bipush 8, 2), none, some (.if_icmp .ge 16, 3), none, none, some (.aload_n 0, 1), some (.getfield 17, 3), none, none, some (.iload_n 1, 1), some (.aconst_null, 1), some (.aastore, 1), some (.iinc 1 1, 3), none, none, some (.goto (-16), 3), none, none, some (.iconst 0, 1), some (.istore_n 1, 1), some (.iload_n 1, 1), some (.aload_n 0, 1), some (.getfield 20, 3), none, none, some (.arraylength, 1), some (.if_icmp .ge 16, 3), none, none, some (.aload_n 0, 1), some (.getfield 20, 3), none, none, some (.iload_n 1, 1), some (.aconst_null, 1), some (.aastore, 1), some (.iinc 1 1, 3), none, none, some (.goto (-19), 3), none, none, some (.return_, 1)]
def Y_X6_clear : YM := (⟨RX6, "clear", "()V"⟩, prog_8_method_2_code, L_X6_clear, 2, none)
def b_X6_clear_33 (q33 : Option Nat → Int32 → Mem → Option (Unit × Mem)) (r0 : Option Nat) (i1 : Int32) (M : Mem) : Option (Unit × Mem) :=
gR M r0 6 2 fun v1 =>
aN M v1 fun v2 =>
(if v2 ≤ i1 then
some ((), M)
else
gR M r0 6 2 fun v3 =>
wR M v3 6 i1 none fun M1 =>
q33 r0 (i1 + (1 : Int32)) M1)
def f_X6_clear_33 (n : Nat) : Option Nat → Int32 → Mem → Option (Unit × Mem) := lpN (fun _ _ _ => none) (b_X6_clear_33 ) n
def b_X6_clear_12 (q12 : Option Nat → Int32 → Mem → Option (Unit × Mem)) (r0 : Option Nat) (i1 : Int32) (M : Mem) : Option (Unit × Mem) :=
(if (8 : Int32) ≤ i1 then
f_X6_clear_33 FU r0 (0 : Int32) M
else
gR M r0 6 1 fun v1 =>
wR M v1 6 i1 none fun M1 =>
q12 r0 (i1 + (1 : Int32)) M1)
def f_X6_clear_12 (n : Nat) : Option Nat → Int32 → Mem → Option (Unit × Mem) := lpN (fun _ _ _ => none) (b_X6_clear_12 ) n
def f_X6_clear (r0 : Option Nat) (M : Mem) : Option (Unit × Mem) :=
pI M r0 6 4 (0 : Int32) fun M1 =>
pI M1 r0 6 5 (0 : Int32) fun M2 =>
f_X6_clear_12 FU r0 (0 : Int32) M2
def L_X5_read : List (Option (Instr × Nat)) := [some (.aload_n 0, 1), some (.aload_n 1, 1), some (.putfield 25, 3), none, none, some (.aload_n 0, 1), some (.getfield 25, 3), none, none, some (.invokevirtual 29, 3), none, none, some (.aload_n 0, 1), some (.iconst 0, 1), some (.putfield 19, 3), none, none, some (.aload_n 0, 1), some (.iconst (-1), 1), some (.putfield 22, 3), none, none, some (.aload_n 0, 1), some (.iconst 0, 1), some (.putfield 34, 3), none, none, some (.aload_n 0, 1), some (.invokevirtual 37, 3), none, none, some (.iconst 0, 1), some (.istore_n 2, 1), some (.iload_n 2, 1), some (.sipush 300, 3), none, none, some (.if_icmp .gt 29, 3), none, none, some (.aload_n 0, 1), some (.getfield 19, 3), none, none, some (.ifCond .ne 22, 3), none, none, some (.aload_n 0, 1), some (.getfield 40, 3), none, none, some (.bipush 35, 2), none, some (.if_icmp .eq 13, 3), none, none, some (.aload_n 0, 1), some (.invokevirtual 43, 3), none, none, some (.iinc 2 1, 3), none, none, some (.goto (-30), 3), none, none, some (.aload_n 0, 1), some (.getfield 19, 3), none, none, some (.ifCond .ne 10, 3), none, none, some (.aload_n 0, 1), some (.getfield 25, 3), none, none, some (.invokevirtual 46, 3), none, none, some (.aload_n 0, 1), some (.iconst 0, 1), some (.putfield 15, 3), none, none, some (.return_, 1)]
def Y_X5_read : YM := (⟨RX5, "read", "(LGameOfNoes$Rules;)V"⟩, prog_7_method_3_code, L_X5_read, 3, none)
def b_X5_read_33 (q33 : Option Nat → Int32 → Mem → Option (Unit × Mem)) (r0 : Option Nat) (i2 : Int32) (M : Mem) : Option (Unit × Mem) :=
(if (300 : Int32) < i2 then
gI M r0 5 2 fun v1 =>
(if v1 = 0 then
gR M r0 5 4 fun v2 =>
cR M v2 (1, 6) (cA (f_X6_chain v2 M) fun _ M1 =>
pI M1 r0 5 1 (0 : Int32) fun M2 =>
some ((), M2))
else
pI M r0 5 1 (0 : Int32) fun M3 =>
some ((), M3))
else
gI M r0 5 2 fun v3 =>
(if v3 = 0 then
gI M r0 5 6 fun v4 =>
(if v4 = (35 : Int32) then
gI M r0 5 2 fun v5 =>
(if v5 = 0 then
gR M r0 5 4 fun v6 =>
cR M v6 (1, 6) (cA (f_X6_chain v6 M) fun _ M4 =>
pI M4 r0 5 1 (0 : Int32) fun M5 =>
some ((), M5))
else
pI M r0 5 1 (0 : Int32) fun M6 =>
some ((), M6))
else
cR M r0 (1, 5) (cA (f_X5_clause r0 M) fun _ M7 =>
q33 r0 (i2 + (1 : Int32)) M7))
else
gI M r0 5 2 fun v7 =>
(if v7 = 0 then
gR M r0 5 4 fun v8 =>
cR M v8 (1, 6) (cA (f_X6_chain v8 M) fun _ M8 =>
pI M8 r0 5 1 (0 : Int32) fun M9 =>
some ((), M9))
else
pI M r0 5 1 (0 : Int32) fun M10 =>
some ((), M10))))
def f_X5_read_33 (n : Nat) : Option Nat → Int32 → Mem → Option (Unit × Mem) := lpN (fun _ _ _ => none) (b_X5_read_33 ) n
def f_X5_read (r0 : Option Nat) (r1 : Option Nat) (M : Mem) : Option (Unit × Mem) :=
pR M r0 5 4 r1 fun M1 =>
gR M1 r0 5 4 fun v1 =>
cR M1 v1 (1, 6) (cA (f_X6_clear v1 M1) fun _ M2 =>
pI M2 r0 5 2 (0 : Int32) fun M3 =>
pI M3 r0 5 3 (-1 : Int32) fun M4 =>
pI M4 r0 5 5 (0 : Int32) fun M5 =>
cR M5 r0 (1, 5) (cA (f_X5_advance r0 M5) fun _ M6 =>
f_X5_read_33 FU r0 (0 : Int32) M6))
def L_X11_text : List (Option (Instr × Nat)) := [some (.aload_n 0, 1), some (.getfield 10, 3), none, none, some (.getfield 141, 3), none, none, some (.ifCond .lt 15, 3), none, none, some (.aload_n 0, 1), some (.getfield 10, 3), none, none, some (.getfield 141, 3), none, none, some (.bipush 6, 2), none, some (.if_icmp .lt 5, 3), none, none, some (.iconst (-1), 1), some (.ireturn, 1), some (.aload_n 0, 1), some (.getfield 33, 3), none, none, some (.aload_n 0, 1), some (.getfield 21, 3), none, none, some (.aload_n 0, 1), some (.getfield 10, 3), none, none, some (.getfield 141, 3), none, none, some (.aaload, 1), some (.invokevirtual 143, 3), none, none, some (.aload_n 0, 1), some (.getfield 33, 3), none, none, some (.getfield 147, 3), none, none, some (.ifCond .eq 5, 3), none, none, some (.iconst (-1), 1), some (.ireturn, 1), some (.aload_n 0, 1), some (.getfield 10, 3), none, none, some (.dup, 1), some (.getfield 141, 3), none, none, some (.iconst 1, 1), some (.iadd, 1), some (.putfield 141, 3), none, none, some (.aload_n 0, 1), some (.getfield 10, 3), none, none, some (.getfield 141, 3), none, none, some (.iconst 1, 1), some (.isub, 1), some (.ireturn, 1)]
def Y_X11_text : YM := (⟨RX11, "text", "()I"⟩, prog_1_method_7_code, L_X11_text, 1, some .int)
def f_X11_text (r0 : Option Nat) (M : Mem) : Option (Int32 × Mem) :=
gR M r0 11 2 fun v1 =>
gI M v1 7 4 fun v2 =>
(if v2 < 0 then
some ((-1 : Int32), M)
else
gR M r0 11 2 fun v3 =>
gI M v3 7 4 fun v4 =>
(if v4 < (6 : Int32) then
gR M r0 11 6 fun v5 =>
gR M r0 11 4 fun v6 =>
gR M r0 11 2 fun v7 =>
gI M v7 7 4 fun v8 =>
aR M v6 7 v8 fun v9 =>
cR M v5 (1, 5) (cA (f_X5_read v5 v9 M) fun _ M1 =>
gR M1 r0 11 6 fun v10 =>
gI M1 v10 5 2 fun v11 =>
(if v11 = 0 then
gR M1 r0 11 2 fun v12 =>
gI M1 v12 7 4 fun v13 =>
pI M1 v12 7 4 (v13 + (1 : Int32)) fun M2 =>
gR M2 r0 11 2 fun v14 =>
gI M2 v14 7 4 fun v15 =>
some ((v15 - (1 : Int32)), M2)
else
some ((-1 : Int32), M1)))
else
some ((-1 : Int32), M)))
def L_X11_turn : List (Option (Instr × Nat)) := [some (.iload_n 1, 1), some (.invokestatic 121, 3), none, none, some (.ifCond .ne 5, 3), none, none, some (.iconst 0, 1), some (.ireturn, 1), some (.aload_n 0, 1), some (.getfield 10, 3), none, none, some (.getfield 114, 3), none, none, some (.iload_n 1, 1), some (.putfield 131, 3), none, none, some (.iconst 1, 1), some (.ireturn, 1)]
def Y_X11_turn : YM := (⟨RX11, "turn", "(I)Z"⟩, prog_1_method_4_code, L_X11_turn, 2, some .boolean)
def f_X11_turn (r0 : Option Nat) (i1 : Int32) (M : Mem) : Option (Int32 × Mem) :=
cA (f_X11_isSide i1 M) fun v1 M1 =>
(if v1 = 0 then
tv (0 : Int32) (some ((0 : Int32), M1))
else
gR M1 r0 11 2 fun v2 =>
gR M1 v2 7 0 fun v3 =>
pI M1 v3 4 2 i1 fun M2 =>
tv (1 : Int32) (some ((1 : Int32), M2)))
def L_X11_way : List (Option (Instr × Nat)) := [some (.iload_n 1, 1), some (.invokestatic 121, 3), none, none, some (.ifCond .eq 11, 3), none, none, some (.aload_n 0, 1), some (.iload_n 2, 1), some (.invokevirtual 153, 3), none, none, some (.ifCond .ne 5, 3), none, none, some (.iconst 0, 1), some (.ireturn, 1), some (.aload_n 0, 1), some (.getfield 10, 3), none, none, some (.getfield 159, 3), none, none, some (.iload_n 1, 1), some (.iload_n 2, 1), some (.iastore, 1), some (.iconst 1, 1), some (.ireturn, 1)]
def Y_X11_way : YM := (⟨RX11, "way", "(II)Z"⟩, prog_1_method_10_code, L_X11_way, 3, some .boolean)
def f_X11_way (r0 : Option Nat) (i1 : Int32) (i2 : Int32) (M : Mem) : Option (Int32 × Mem) :=
cA (f_X11_isSide i1 M) fun v1 M1 =>
(if v1 = 0 then
tv (0 : Int32) (some ((0 : Int32), M1))
else
cR M1 r0 (1, 11) (cA (f_X11_isTextOrNone r0 i2 M1) fun v2 M2 =>
(if v2 = 0 then
tv (0 : Int32) (some ((0 : Int32), M2))
else
gR M2 r0 11 2 fun v3 =>
gR M2 v3 7 1 fun v4 =>
wI M2 v4 2 i1 i2 fun M3 =>
tv (1 : Int32) (some ((1 : Int32), M3)))))
def L_X11_won : List (Option (Instr × Nat)) := [some (.aload_n 0, 1), some (.aload_n 0, 1), some (.getfield 10, 3), none, none, some (.getfield 114, 3), none, none, some (.invokevirtual 201, 3), none, none, some (.ireturn, 1)]
def Y_X11_won : YM := (⟨RX11, "won", "()I"⟩, prog_1_method_15_code, L_X11_won, 1, some .int)
def f_X11_won (r0 : Option Nat) (M : Mem) : Option (Int32 × Mem) :=
gR M r0 11 2 fun v1 =>
gR M v1 7 0 fun v2 =>
cR M r0 (1, 11) (cA (f_X11_winner r0 v2 M) fun v3 M1 =>
some (v3, M1))
def L_X12_in : List (Option (Instr × Nat)) := [some (.iload_n 0, 1), some (.iload_n 1, 1), some (.if_icmp .lt 12, 3), none, none, some (.iload_n 0, 1), some (.iload_n 2, 1), some (.if_icmp .gt 7, 3), none, none, some (.iconst 1, 1), some (.goto 4, 3), none, none, some (.iconst 0, 1), some (.ireturn, 1)]
def Y_X12_in : YM := (⟨RX12, "in", "(III)Z"⟩, prog_14_method_2_code, L_X12_in, 3, some .boolean)
def f_X12_in (i0 : Int32) (i1 : Int32) (i2 : Int32) (M : Mem) : Option (Int32 × Mem) :=
(if i0 < i1 then
tv (0 : Int32) (some ((0 : Int32), M))
else
(if i2 < i0 then
tv (0 : Int32) (some ((0 : Int32), M))
else
tv (1 : Int32) (some ((1 : Int32), M))))
def L_X12_isPlace : List (Option (Instr × Nat)) := [some (.iload_n 1, 1), some (.iconst 0, 1), some (.aload_n 0, 1), some (.getfield 144, 3), none, none, some (.iconst 1, 1), some (.isub, 1), some (.invokestatic 151, 3), none, none, some (.ireturn, 1)]
def Y_X12_isPlace : YM := (⟨RX12, "isPlace", "(I)Z"⟩, prog_14_method_4_code, L_X12_isPlace, 2, some .boolean)
def f_X12_isPlace (r0 : Option Nat) (i1 : Int32) (M : Mem) : Option (Int32 × Mem) :=
gI M r0 12 2 fun v1 =>
cA (f_X12_in i1 (0 : Int32) (v1 - (1 : Int32)) M) fun v2 M1 =>
tv v2 (some (v2, M1))
def L_X12_about : List (Option (Instr × Nat)) := [some (.iload_n 1, 1), some (.tableswitch 108 0 8 #[51, 56, 61, 68, 75, 82, 89, 96, 103], 51), none, none, none, none, none, none, none, none, none, none, none, none, none, none, none, none, none, none, none, none, none, none, none, none, none, none, none, none, none, none, none, none, none, none, none, none, none, none, none, none, none, none, none, none, none, none, none, none, none, none, some (.aload_n 0, 1), some (.getfield 138, 3), none, none, some (.ireturn, 1), some (.aload_n 0, 1), some (.getfield 141, 3), none, none, some (.ireturn, 1), some (.aload_n 0, 1), some (.getfield 7, 3), none, none, some (.iconst 0, 1), some (.iaload, 1), some (.ireturn, 1), some (.aload_n 0, 1), some (.getfield 7, 3), none, none, some (.iconst 1, 1), some (.iaload, 1), some (.ireturn, 1), some (.aload_n 0, 1), some (.getfield 7, 3), none, none, some (.iconst 2, 1), some (.iaload, 1), some (.ireturn, 1), some (.aload_n 0, 1), some (.getfield 7, 3), none, none, some (.iconst 3, 1), some (.iaload, 1), some (.ireturn, 1), some (.aload_n 0, 1), some (.getfield 7, 3), none, none, some (.iconst 4, 1), some (.iaload, 1), some (.ireturn, 1), some (.aload_n 0, 1), some (.getfield 7, 3), none, none, some (.iconst 5, 1), some (.iaload, 1), some (.ireturn, 1), some (.aload_n 0, 1), some (.getfield 162, 3), none, none, some (.ireturn, 1), some (.iload_n 1, 1), some (.bipush 10, 2), none, some (.bipush 17, 2), none, some (.invokestatic 151, 3), none, none, some (.ifCond .eq 16, 3), none, none, some (.aload_n 0, 1), some (.getfield 7, 3), none, none, some (.bipush 10, 2), none, some (.iload_n 1, 1), some (.iadd, 1), some (.bipush 10, 2), none, some (.isub, 1), some (.iaload, 1), some (.ireturn, 1), some (.aload_n 0, 1), some (.iload_n 1, 1), some (.bipush 20, 2), none, some (.isub, 1), some (.invokevirtual 155, 3), none, none, some (.ifCond .eq 18, 3), none, none, some (.aload_n 0, 1), some (.getfield 7, 3), none, none, some (.bipush 20, 2), none, some (.iload_n 1, 1), some (.iadd, 1), some (.bipush 20, 2), none, some (.isub, 1), some (.iaload, 1), some (.goto 5, 3), none, none, some (.bipush (-2), 2), none, some (.ireturn, 1)]
def Y_X12_about : YM := (⟨RX12, "about", "(I)I"⟩, prog_14_method_115_code, L_X12_about, 2, some .int)
def f_X12_about (r0 : Option Nat) (i1 : Int32) (M : Mem) : Option (Int32 × Mem) :=
(if i1 = (0 : Int32) then
gI M r0 12 0 fun v21 =>
some (v21, M)
else
(if i1 = (1 : Int32) then
gI M r0 12 1 fun v20 =>
some (v20, M)
else
(if i1 = (2 : Int32) then
gR M r0 12 3 fun v18 =>
aI M v18 2 (0 : Int32) fun v19 =>
some (v19, M)
else
(if i1 = (3 : Int32) then
gR M r0 12 3 fun v16 =>
aI M v16 2 (1 : Int32) fun v17 =>
some (v17, M)
else
(if i1 = (4 : Int32) then
gR M r0 12 3 fun v14 =>
aI M v14 2 (2 : Int32) fun v15 =>
some (v15, M)
else
(if i1 = (5 : Int32) then
gR M r0 12 3 fun v12 =>
aI M v12 2 (3 : Int32) fun v13 =>
some (v13, M)
else
(if i1 = (6 : Int32) then
gR M r0 12 3 fun v10 =>
aI M v10 2 (4 : Int32) fun v11 =>
some (v11, M)
else
(if i1 = (7 : Int32) then
gR M r0 12 3 fun v8 =>
aI M v8 2 (5 : Int32) fun v9 =>
some (v9, M)
else
(if i1 = (8 : Int32) then
gI M r0 12 6 fun v7 =>
some (v7, M)
else
cA (f_X12_in i1 (10 : Int32) (17 : Int32) M) fun v1 M1 =>
(if v1 = 0 then
cR M1 r0 (1, 12) (cA (f_X12_isPlace r0 (i1 - (20 : Int32)) M1) fun v2 M2 =>
(if v2 = 0 then
some ((-2 : Int32), M2)
else
gR M2 r0 12 3 fun v3 =>
aI M2 v3 2 (((20 : Int32) + i1) - (20 : Int32)) fun v4 =>
some (v4, M2)))
else
gR M1 r0 12 3 fun v5 =>
aI M1 v5 2 (((10 : Int32) + i1) - (10 : Int32)) fun v6 =>
some (v6, M1)))))))))))
def L_X12_boardCode : List (Option (Instr × Nat)) := [some (.aload_n 0, 1), some (.getfield 355, 3), none, none, some (.i2l, 1), some (.lstore_n 1, 1), some (.iconst 0, 1), some (.istore_n 3, 1), some (.iload_n 3, 1), some (.aload_n 0, 1), some (.getfield 144, 3), none, none, some (.if_icmp .ge 23, 3), none, none, some (.ldc2_w 465, 3), none, none, some (.lload_n 1, 1), some (.lmul, 1), some (.aload_n 0, 1), some (.getfield 88, 3), none, none, some (.iload_n 3, 1), some (.iaload, 1), some (.i2l, 1), some (.ladd, 1), some (.lstore_n 1, 1), some (.iinc 3 1, 3), none, none, some (.goto (-25), 3), none, none, some (.lload_n 1, 1), some (.lreturn, 1)]
def Y_X12_boardCode : YM := (⟨RX12, "boardCode", "()J"⟩, prog_14_method_80_code, L_X12_boardCode, 4, some .long)
def b_X12_boardCode_8 (q8 : Option Nat → Int64 → Int32 → Mem → Option (Int64 × Mem)) (r0 : Option Nat) (l1 : Int64) (i3 : Int32) (M : Mem) : Option (Int64 × Mem) :=
gI M r0 12 2 fun v1 =>
(if v1 ≤ i3 then
some (l1, M)
else
gR M r0 12 43 fun v2 =>
aI M v2 2 i3 fun v3 =>
q8 r0 (((9 : Int64) * l1) + v3.toInt64) (i3 + (1 : Int32)) M)
def f_X12_boardCode_8 (n : Nat) : Option Nat → Int64 → Int32 → Mem → Option (Int64 × Mem) := lpN (fun _ _ _ _ => none) (b_X12_boardCode_8 ) n
def f_X12_boardCode (r0 : Option Nat) (M : Mem) : Option (Int64 × Mem) :=
gI M r0 12 45 fun v1 =>
f_X12_boardCode_8 FU r0 v1.toInt64 (0 : Int32) M
def L_X12_isMove : List (Option (Instr × Nat)) := [some (.iload_n 0, 1), some (.iconst 0, 1), some (.bipush 7, 2), none, some (.invokestatic 151, 3), none, none, some (.ireturn, 1)]
def Y_X12_isMove : YM := (⟨RX12, "isMove", "(I)Z"⟩, prog_14_method_5_code, L_X12_isMove, 1, some .boolean)
def f_X12_isMove (i0 : Int32) (M : Mem) : Option (Int32 × Mem) :=
cA (f_X12_in i0 (0 : Int32) (7 : Int32) M) fun v1 M1 =>
tv v1 (some (v1, M1))
def L_X12_isIn : List (Option (Instr × Nat)) := [some (.iload_n 1, 1), some (.invokestatic 159, 3), none, none, some (.ifCond .eq 19, 3), none, none, some (.aload_n 0, 1), some (.getfield 401, 3), none, none, some (.iload_n 1, 1), some (.ishr, 1), some (.iconst 1, 1), some (.iand, 1), some (.iconst 1, 1), some (.if_icmp .ne 7, 3), none, none, some (.iconst 1, 1), some (.goto 4, 3), none, none, some (.iconst 0, 1), some (.ireturn, 1)]
def Y_X12_isIn : YM := (⟨RX12, "isIn", "(I)Z"⟩, prog_14_method_64_code, L_X12_isIn, 2, some .boolean)
def f_X12_isIn (r0 : Option Nat) (i1 : Int32) (M : Mem) : Option (Int32 × Mem) :=
cA (f_X12_isMove i1 M) fun v1 M1 =>
(if v1 = 0 then
tv (0 : Int32) (some ((0 : Int32), M1))
else
gI M1 r0 12 49 fun v2 =>
(if ((v2 >>> (i1 &&& 31)) &&& (1 : Int32)) = (1 : Int32) then
tv (1 : Int32) (some ((1 : Int32), M1))
else
tv (0 : Int32) (some ((0 : Int32), M1))))
theorem fl_6_47 : FLk RX6 47 1 2 false := ⟨_, rfl, by decide, (gw_in 105 (by decide +kernel) (by decide +kernel)), rfl⟩
theorem nest_ok : Jvm.Cond.static Y_X11_isMove.1 ∈ gw ∧ okY Y_X11_isMove ∧ (parseMethodDescriptor Y_X11_isMove.1.desc).map (fun d => d.parameters.length) = some 1 := ⟨(gw_in 468 (by decide +kernel) (by decide +kernel)), ok_X11_isMove, by decide +kernel⟩
theorem fl_6_53 : FLk RX6 53 1 8 false := ⟨_, rfl, by decide, (gw_in 119 (by decide +kernel) (by decide +kernel)), rfl⟩
set_option maxRecDepth 30000 in
theorem ok_X6_chain : okY Y_X6_chain := ⟨(gw_in 686 rfl rfl), (gw_in 4 (by decide +kernel) (by decide +kernel)), by decide +kernel, by decide +kernel⟩
theorem ml_5_46 : MLv RX5 46 Y_X6_chain 0 := ⟨(gw_in 683 (by decide +kernel) (by decide +kernel)), (gw_in 684 (by decide +kernel) (by decide +kernel)), (gw_in 685 (by decide +kernel) (by decide +kernel)), ok_X6_chain, by decide +kernel⟩
set_option maxRecDepth 30000 in
theorem ok_X5_clause : okY Y_X5_clause := ⟨(gw_in 631 rfl rfl), (gw_in 6 (by decide +kernel) (by decide +kernel)), by decide +kernel, by decide +kernel⟩
theorem ml_5_43 : MLv RX5 43 Y_X5_clause 0 := ⟨(gw_in 628 (by decide +kernel) (by decide +kernel)), (gw_in 630 (by decide +kernel) (by decide +kernel)), (gw_sel (n := 9) 3 (by decide +kernel) (by decide +kernel)), ok_X5_clause, by decide +kernel⟩
set_option maxRecDepth 30000 in
theorem ok_X6_clear : okY Y_X6_clear := ⟨(gw_in 501 rfl rfl), (gw_in 4 (by decide +kernel) (by decide +kernel)), by decide +kernel, by decide +kernel⟩
theorem ml_5_29 : MLv RX5 29 Y_X6_clear 0 := ⟨(gw_in 498 (by decide +kernel) (by decide +kernel)), (gw_in 499 (by decide +kernel) (by decide +kernel)), (gw_in 500 (by decide +kernel) (by decide +kernel)), ok_X6_clear, by decide +kernel⟩
set_option maxRecDepth 30000 in
theorem ok_X5_read : okY Y_X5_read := ⟨(gw_in 497 rfl rfl), (gw_in 6 (by decide +kernel) (by decide +kernel)), by decide +kernel, by decide +kernel⟩
theorem ml_11_143 : MLv RX11 143 Y_X5_read 1 := ⟨(gw_in 494 (by decide +kernel) (by decide +kernel)), (gw_in 495 (by decide +kernel) (by decide +kernel)), (gw_in 496 (by decide +kernel) (by decide +kernel)), ok_X5_read, by decide +kernel⟩
theorem fl_12_144 : FLk RX12 144 12 2 true := ⟨_, rfl, by decide, (gw_in 1118 (by decide +kernel) (by decide +kernel)), rfl⟩
set_option maxRecDepth 30000 in
theorem ok_X12_in : okY Y_X12_in := ⟨(gw_in 1338 rfl rfl), (gw_in 14 (by decide +kernel) (by decide +kernel)), by decide +kernel, by decide +kernel⟩
theorem ml_12_151 : MLs RX12 151 Y_X12_in 3 := ⟨(gw_in 1336 (by decide +kernel) (by decide +kernel)), (gw_in 1337 (by decide +kernel) (by decide +kernel)), ok_X12_in, by decide +kernel⟩
set_option maxRecDepth 30000 in
theorem ok_X12_isPlace : okY Y_X12_isPlace := ⟨(gw_in 1335 rfl rfl), (gw_in 14 (by decide +kernel) (by decide +kernel)), by decide +kernel, by decide +kernel⟩
theorem ml_12_155 : MLv RX12 155 Y_X12_isPlace 1 := ⟨(gw_in 1332 (by decide +kernel) (by decide +kernel)), (gw_in 1334 (by decide +kernel) (by decide +kernel)), (gw_sel (n := 70) 47 (by decide +kernel) (by decide +kernel)), ok_X12_isPlace, by decide +kernel⟩
theorem fl_12_7 : FLk RX12 7 12 3 true := ⟨_, rfl, by decide, (gw_in 1119 (by decide +kernel) (by decide +kernel)), rfl⟩
theorem fl_12_162 : FLk RX12 162 12 6 false := ⟨_, rfl, by decide, (gw_in 1122 (by decide +kernel) (by decide +kernel)), rfl⟩
theorem fl_12_141 : FLk RX12 141 12 1 true := ⟨_, rfl, by decide, (gw_in 1117 (by decide +kernel) (by decide +kernel)), rfl⟩
theorem fl_12_138 : FLk RX12 138 12 0 true := ⟨_, rfl, by decide, (gw_in 1116 (by decide +kernel) (by decide +kernel)), rfl⟩
theorem kl_12_465 : Jvm.Cond.constantLong RX12 465 (9) ∈ gw := gw_in 1662 (by decide +kernel) (by decide +kernel)
theorem fl_12_88 : FLk RX12 88 12 43 true := ⟨_, rfl, by decide, (gw_in 1159 (by decide +kernel) (by decide +kernel)), rfl⟩
theorem fl_12_355 : FLk RX12 355 12 45 false := ⟨_, rfl, by decide, (gw_in 1161 (by decide +kernel) (by decide +kernel)), rfl⟩
set_option maxRecDepth 30000 in
theorem ok_X12_isMove : okY Y_X12_isMove := ⟨(gw_in 1345 rfl rfl), (gw_in 14 (by decide +kernel) (by decide +kernel)), by decide +kernel, by decide +kernel⟩
theorem ml_12_159 : MLs RX12 159 Y_X12_isMove 1 := ⟨(gw_in 1343 (by decide +kernel) (by decide +kernel)), (gw_in 1344 (by decide +kernel) (by decide +kernel)), ok_X12_isMove, by decide +kernel⟩
theorem fl_12_401 : FLk RX12 401 12 49 false := ⟨_, rfl, by decide, (gw_in 1165 (by decide +kernel) (by decide +kernel)), rfl⟩
set_option maxRecDepth 20000 in
theorem dk_X6_chain : ∀ pc i, L_X6_chain[pc]? = some (some i) → decode prog_8_method_7_code pc = .ok i := dk_of (by decide +kernel)
theorem sb_X6_chain_7 {d : Nat} {P : Unit → Mem → Prop} {q7 : Option Nat → Int32 → Mem → Option (Unit × Mem)} (hq7 : ∀ (r0 : Option Nat) (i1 : Int32) (M : Mem), FQ (q7 r0 i1 M) P → wp Y_X6_chain (rmD (d + 1) 0 0) (FM (QV P) 0 0) 0 0 7 [some (va_rf r0), some (.int i1), none] [] M) (r0 : Option Nat) (i1 : Int32) (M : Mem) (h : FQ (b_X6_chain_7 q7 r0 i1 M) P) : wp Y_X6_chain (rmD (d + 1) 0 0) (FM (QV P) 0 0) 0 0 7 [some (va_rf r0), some (.int i1), none] [] M := by
  unfold b_X6_chain_7 at h
  refine r_iload_n rfl rfl ?_
  refine r_if_lt 64 rfl (by decide) h (fun h => ?_) (fun h => ?_)
  · exact r_vret rfl rfl ⟨Nat.le_of_ble_eq_true rfl, Nat.le_of_ble_eq_true rfl⟩ h
  · refine r_aload_n rfl rfl ?_
    refine r_getR rfl fl_6_13 rfl h (fun v1 h => ?_)
    refine r_iload_n rfl rfl ?_
    refine r_aald6 rfl h (fun v2 h => ?_)
    refine r_astore_n (lo' := [some (va_rf r0), some (.int i1), some (va_rf v2)]) rfl rfl rfl rfl ?_
    refine r_aload_n rfl rfl ?_
    refine r_getI rfl fl_6_41 rfl h (fun v3 h => ?_)
    refine r_if_ne 58 rfl (by decide) h (fun h => ?_) (fun h => ?_)
    · refine r_aload_n rfl rfl ?_
      refine r_getI rfl fl_6_47 rfl h (fun v4 h => ?_)
      refine r_cn_i (vs := [.int v4]) rfl rfl rfl nest_ok (rOk.of rfl) ⟨Nat.zero_le _, Nat.zero_le _⟩ rfl rfl rfl h s_X11_isMove (fun v5 M1 h => ?_)
      refine r_if_eq 58 rfl (by decide) h (fun h => ?_) (fun h => ?_)
      · refine r_iinc (v := -1) (lo' := [some (va_rf r0), some (.int (i1 + (-1 : Int32))), some (va_rf v2)]) rfl rfl rfl (by decide) (by simp [stOk, cat_rf]) rfl ?_
        refine r_goto 7 rfl (by decide) ?_
        refine r_msk [true, true, false] rfl ?_
        exact hq7 _ _ _ h
      · refine r_aload_n rfl rfl ?_
        refine r_aload_n rfl rfl ?_
        refine r_getR rfl fl_6_17 rfl h (fun v6 h => ?_)
        refine r_aload_n rfl rfl ?_
        refine r_getI rfl fl_6_47 rfl h (fun v7 h => ?_)
        refine r_aald6 rfl h (fun v8 h => ?_)
        refine r_putR rfl fl_6_53 (fun z => by cases z) (Or.inl ⟨_, rfl⟩) h (fun M2 h => ?_)
        refine r_aload_n rfl rfl ?_
        refine r_getR rfl fl_6_17 rfl h (fun v9 h => ?_)
        refine r_aload_n rfl rfl ?_
        refine r_getI rfl fl_6_47 rfl h (fun v10 h => ?_)
        refine r_aload_n rfl rfl ?_
        refine r_aast6 rfl h (fun M3 h => ?_)
        refine r_iinc (v := -1) (lo' := [some (va_rf r0), some (.int (i1 + (-1 : Int32))), some (va_rf v2)]) rfl rfl rfl (by decide) (by simp [stOk, cat_rf]) rfl ?_
        refine r_goto 7 rfl (by decide) ?_
        refine r_msk [true, true, false] rfl ?_
        exact hq7 _ _ _ h
    · refine r_iinc (v := -1) (lo' := [some (va_rf r0), some (.int (i1 + (-1 : Int32))), some (va_rf v2)]) rfl rfl rfl (by decide) (by simp [stOk, cat_rf]) rfl ?_
      refine r_goto 7 rfl (by decide) ?_
      refine r_msk [true, true, false] rfl ?_
      exact hq7 _ _ _ h
theorem s_X6_chain_7 {d : Nat} {P : Unit → Mem → Prop}   : ∀ (k : Nat) (r0 : Option Nat) (i1 : Int32) (M : Mem), FQ (f_X6_chain_7  k r0 i1 M) P → wp Y_X6_chain (rmD (d + 1) 0 0) (FM (QV P) 0 0) 0 0 7 [some (va_rf r0), some (.int i1), none] [] M
  | 0, _, _, _, h => h.no
  | k + 1, r0, i1, M, h => sb_X6_chain_7  (s_X6_chain_7  k) r0 i1 M h
theorem s_X6_chain {d : Nat} {P : Unit → Mem → Prop} {r0 : Option Nat} {M : Mem} (h : FQ (f_X6_chain r0 M) P) : Con Y_X6_chain (d + 1) 0 0 [va_rf r0] M (QV P) := by
  refine Con.of [some (va_rf r0), none, none] (by decide +kernel) dk_X6_chain (by simp [Y_X6_chain, cat_rf, cat_i, cat_l]) (by simp [loE, Y_X6_chain, cat_rf, cat_i, cat_l, List.replicate]) ?_
  unfold f_X6_chain at h
  refine r_aload_n rfl rfl ?_
  refine r_getI rfl fl_6_30 rfl h (fun v1 h => ?_)
  refine r_iconst (v := 1) rfl (by decide) ?_
  refine r_isub rfl ?_
  refine r_istore_n (lo' := [some (va_rf r0), some (.int (v1 - (1 : Int32))), none]) rfl rfl (by simp [stOk, cat_rf]) rfl ?_
  exact s_X6_chain_7 FU _ _ _ h
set_option maxRecDepth 20000 in
theorem dk_X6_clear : ∀ pc i, L_X6_clear[pc]? = some (some i) → decode prog_8_method_2_code pc = .ok i := dk_of (by decide +kernel)
theorem sb_X6_clear_33 {d : Nat} {P : Unit → Mem → Prop} {q33 : Option Nat → Int32 → Mem → Option (Unit × Mem)} (hq33 : ∀ (r0 : Option Nat) (i1 : Int32) (M : Mem), FQ (q33 r0 i1 M) P → wp Y_X6_clear (rmD d 0 0) (FM (QV P) 0 0) 0 0 33 [some (va_rf r0), some (.int i1)] [] M) (r0 : Option Nat) (i1 : Int32) (M : Mem) (h : FQ (b_X6_clear_33 q33 r0 i1 M) P) : wp Y_X6_clear (rmD d 0 0) (FM (QV P) 0 0) 0 0 33 [some (va_rf r0), some (.int i1)] [] M := by
  unfold b_X6_clear_33 at h
  refine r_iload_n rfl rfl ?_
  refine r_aload_n rfl rfl ?_
  refine r_getR rfl fl_6_20 rfl h (fun v1 h => ?_)
  refine r_alen rfl h (fun v2 h => ?_)
  refine r_ic_ge 55 rfl (by decide) h (fun h => ?_) (fun h => ?_)
  · exact r_vret rfl rfl ⟨Nat.le_of_ble_eq_true rfl, Nat.le_of_ble_eq_true rfl⟩ h
  · refine r_aload_n rfl rfl ?_
    refine r_getR rfl fl_6_20 rfl h (fun v3 h => ?_)
    refine r_iload_n rfl rfl ?_
    refine r_null rfl ?_
    refine r_aast6 rfl h (fun M1 h => ?_)
    refine r_iinc (v := 1) (lo' := [some (va_rf r0), some (.int (i1 + (1 : Int32)))]) rfl rfl rfl (by decide) (by simp [stOk, cat_rf]) rfl ?_
    refine r_goto 33 rfl (by decide) ?_
    exact hq33 _ _ _ h
theorem s_X6_clear_33 {d : Nat} {P : Unit → Mem → Prop}   : ∀ (k : Nat) (r0 : Option Nat) (i1 : Int32) (M : Mem), FQ (f_X6_clear_33  k r0 i1 M) P → wp Y_X6_clear (rmD d 0 0) (FM (QV P) 0 0) 0 0 33 [some (va_rf r0), some (.int i1)] [] M
  | 0, _, _, _, h => h.no
  | k + 1, r0, i1, M, h => sb_X6_clear_33  (s_X6_clear_33  k) r0 i1 M h
theorem sb_X6_clear_12 {d : Nat} {P : Unit → Mem → Prop} {q12 : Option Nat → Int32 → Mem → Option (Unit × Mem)} (hq12 : ∀ (r0 : Option Nat) (i1 : Int32) (M : Mem), FQ (q12 r0 i1 M) P → wp Y_X6_clear (rmD d 0 0) (FM (QV P) 0 0) 0 0 12 [some (va_rf r0), some (.int i1)] [] M) (r0 : Option Nat) (i1 : Int32) (M : Mem) (h : FQ (b_X6_clear_12 q12 r0 i1 M) P) : wp Y_X6_clear (rmD d 0 0) (FM (QV P) 0 0) 0 0 12 [some (va_rf r0), some (.int i1)] [] M := by
  unfold b_X6_clear_12 at h
  refine r_iload_n rfl rfl ?_
  refine r_bipush (v := 8) rfl (by decide) ?_
  refine r_ic_ge 31 rfl (by decide) h (fun h => ?_) (fun h => ?_)
  · refine r_iconst (v := 0) rfl (by decide) ?_
    refine r_istore_n (lo' := [some (va_rf r0), some (.int (0 : Int32))]) rfl rfl (by simp [stOk, cat_rf]) rfl ?_
    exact s_X6_clear_33 FU _ _ _ h
  · refine r_aload_n rfl rfl ?_
    refine r_getR rfl fl_6_17 rfl h (fun v1 h => ?_)
    refine r_iload_n rfl rfl ?_
    refine r_null rfl ?_
    refine r_aast6 rfl h (fun M1 h => ?_)
    refine r_iinc (v := 1) (lo' := [some (va_rf r0), some (.int (i1 + (1 : Int32)))]) rfl rfl rfl (by decide) (by simp [stOk, cat_rf]) rfl ?_
    refine r_goto 12 rfl (by decide) ?_
    exact hq12 _ _ _ h
theorem s_X6_clear_12 {d : Nat} {P : Unit → Mem → Prop}   : ∀ (k : Nat) (r0 : Option Nat) (i1 : Int32) (M : Mem), FQ (f_X6_clear_12  k r0 i1 M) P → wp Y_X6_clear (rmD d 0 0) (FM (QV P) 0 0) 0 0 12 [some (va_rf r0), some (.int i1)] [] M
  | 0, _, _, _, h => h.no
  | k + 1, r0, i1, M, h => sb_X6_clear_12  (s_X6_clear_12  k) r0 i1 M h
theorem s_X6_clear {d : Nat} {P : Unit → Mem → Prop} {r0 : Option Nat} {M : Mem} (h : FQ (f_X6_clear r0 M) P) : Con Y_X6_clear d 0 0 [va_rf r0] M (QV P) := by
  refine Con.of [some (va_rf r0), none] (by decide +kernel) dk_X6_clear (by simp [Y_X6_clear, cat_rf, cat_i, cat_l]) (by simp [loE, Y_X6_clear, cat_rf, cat_i, cat_l, List.replicate]) ?_
  unfold f_X6_clear at h
  refine r_aload_n rfl rfl ?_
  refine r_iconst (v := 0) rfl (by decide) ?_
  refine r_putI rfl fl_6_30 (fun z => by cases z) rfl h (fun M1 h => ?_)
  refine r_aload_n rfl rfl ?_
  refine r_iconst (v := 0) rfl (by decide) ?_
  refine r_putI rfl fl_6_34 (fun z => by cases z) rfl h (fun M2 h => ?_)
  refine r_iconst (v := 0) rfl (by decide) ?_
  refine r_istore_n (lo' := [some (va_rf r0), some (.int (0 : Int32))]) rfl rfl (by simp [stOk, cat_rf]) rfl ?_
  exact s_X6_clear_12 FU _ _ _ h
set_option maxRecDepth 20000 in
theorem dk_X5_read : ∀ pc i, L_X5_read[pc]? = some (some i) → decode prog_7_method_3_code pc = .ok i := dk_of (by decide +kernel)
theorem sb_X5_read_33 {d : Nat} {P : Unit → Mem → Prop} {q33 : Option Nat → Int32 → Mem → Option (Unit × Mem)} (hq33 : ∀ (r0 : Option Nat) (i2 : Int32) (M : Mem), FQ (q33 r0 i2 M) P → wp Y_X5_read (rmD (d + 76) 0 0) (FM (QV P) 0 0) 0 0 33 [some (va_rf r0), none, some (.int i2)] [] M) (r0 : Option Nat) (i2 : Int32) (M : Mem) (h : FQ (b_X5_read_33 q33 r0 i2 M) P) : wp Y_X5_read (rmD (d + 76) 0 0) (FM (QV P) 0 0) 0 0 33 [some (va_rf r0), none, some (.int i2)] [] M := by
  unfold b_X5_read_33 at h
  refine r_iload_n rfl rfl ?_
  refine r_sipush (v := 300) rfl (by decide) ?_
  refine r_ic_gt 66 rfl (by decide) h (fun h => ?_) (fun h => ?_)
  · refine r_aload_n rfl rfl ?_
    refine r_getI rfl fl_5_19 rfl h (fun v1 h => ?_)
    refine r_if_ne 80 rfl (by decide) h (fun h => ?_) (fun h => ?_)
    · refine r_aload_n rfl rfl ?_
      refine r_getR rfl fl_5_25 rfl h (fun v2 h => ?_)
      refine r_cv_v (vs := []) rfl ml_5_46 rfl (rOk.of rfl) ⟨Nat.zero_le _, Nat.zero_le _⟩ rfl rfl rfl h s_X6_chain (fun _ M1 h => ?_)
      refine r_aload_n rfl rfl ?_
      refine r_iconst (v := 0) rfl (by decide) ?_
      refine r_putI rfl fl_5_15 (fun z => by cases z) rfl h (fun M2 h => ?_)
      exact r_vret rfl rfl ⟨Nat.le_of_ble_eq_true rfl, Nat.le_of_ble_eq_true rfl⟩ h
    · refine r_aload_n rfl rfl ?_
      refine r_iconst (v := 0) rfl (by decide) ?_
      refine r_putI rfl fl_5_15 (fun z => by cases z) rfl h (fun M3 h => ?_)
      exact r_vret rfl rfl ⟨Nat.le_of_ble_eq_true rfl, Nat.le_of_ble_eq_true rfl⟩ h
  · refine r_aload_n rfl rfl ?_
    refine r_getI rfl fl_5_19 rfl h (fun v3 h => ?_)
    refine r_if_ne 66 rfl (by decide) h (fun h => ?_) (fun h => ?_)
    · refine r_aload_n rfl rfl ?_
      refine r_getI rfl fl_5_40 rfl h (fun v4 h => ?_)
      refine r_bipush (v := 35) rfl (by decide) ?_
      refine r_ic_eq 66 rfl (by decide) h (fun h => ?_) (fun h => ?_)
      · refine r_aload_n rfl rfl ?_
        refine r_getI rfl fl_5_19 rfl h (fun v5 h => ?_)
        refine r_if_ne 80 rfl (by decide) h (fun h => ?_) (fun h => ?_)
        · refine r_aload_n rfl rfl ?_
          refine r_getR rfl fl_5_25 rfl h (fun v6 h => ?_)
          refine r_cv_v (vs := []) rfl ml_5_46 rfl (rOk.of rfl) ⟨Nat.zero_le _, Nat.zero_le _⟩ rfl rfl rfl h s_X6_chain (fun _ M4 h => ?_)
          refine r_aload_n rfl rfl ?_
          refine r_iconst (v := 0) rfl (by decide) ?_
          refine r_putI rfl fl_5_15 (fun z => by cases z) rfl h (fun M5 h => ?_)
          exact r_vret rfl rfl ⟨Nat.le_of_ble_eq_true rfl, Nat.le_of_ble_eq_true rfl⟩ h
        · refine r_aload_n rfl rfl ?_
          refine r_iconst (v := 0) rfl (by decide) ?_
          refine r_putI rfl fl_5_15 (fun z => by cases z) rfl h (fun M6 h => ?_)
          exact r_vret rfl rfl ⟨Nat.le_of_ble_eq_true rfl, Nat.le_of_ble_eq_true rfl⟩ h
      · refine r_aload_n rfl rfl ?_
        refine r_cv_v (vs := []) rfl ml_5_43 rfl (rOk.of rfl) ⟨Nat.zero_le _, Nat.zero_le _⟩ rfl rfl rfl h s_X5_clause (fun _ M7 h => ?_)
        refine r_iinc (v := 1) (lo' := [some (va_rf r0), none, some (.int (i2 + (1 : Int32)))]) rfl rfl rfl (by decide) rfl rfl ?_
        refine r_goto 33 rfl (by decide) ?_
        exact hq33 _ _ _ h
    · refine r_aload_n rfl rfl ?_
      refine r_getI rfl fl_5_19 rfl h (fun v7 h => ?_)
      refine r_if_ne 80 rfl (by decide) h (fun h => ?_) (fun h => ?_)
      · refine r_aload_n rfl rfl ?_
        refine r_getR rfl fl_5_25 rfl h (fun v8 h => ?_)
        refine r_cv_v (vs := []) rfl ml_5_46 rfl (rOk.of rfl) ⟨Nat.zero_le _, Nat.zero_le _⟩ rfl rfl rfl h s_X6_chain (fun _ M8 h => ?_)
        refine r_aload_n rfl rfl ?_
        refine r_iconst (v := 0) rfl (by decide) ?_
        refine r_putI rfl fl_5_15 (fun z => by cases z) rfl h (fun M9 h => ?_)
        exact r_vret rfl rfl ⟨Nat.le_of_ble_eq_true rfl, Nat.le_of_ble_eq_true rfl⟩ h
      · refine r_aload_n rfl rfl ?_
        refine r_iconst (v := 0) rfl (by decide) ?_
        refine r_putI rfl fl_5_15 (fun z => by cases z) rfl h (fun M10 h => ?_)
        exact r_vret rfl rfl ⟨Nat.le_of_ble_eq_true rfl, Nat.le_of_ble_eq_true rfl⟩ h
theorem s_X5_read_33 {d : Nat} {P : Unit → Mem → Prop}   : ∀ (k : Nat) (r0 : Option Nat) (i2 : Int32) (M : Mem), FQ (f_X5_read_33  k r0 i2 M) P → wp Y_X5_read (rmD (d + 76) 0 0) (FM (QV P) 0 0) 0 0 33 [some (va_rf r0), none, some (.int i2)] [] M
  | 0, _, _, _, h => h.no
  | k + 1, r0, i2, M, h => sb_X5_read_33  (s_X5_read_33  k) r0 i2 M h
theorem s_X5_read {d : Nat} {P : Unit → Mem → Prop} {r0 : Option Nat} {r1 : Option Nat} {M : Mem} (h : FQ (f_X5_read r0 r1 M) P) : Con Y_X5_read (d + 76) 0 0 [va_rf r0, va_rf r1] M (QV P) := by
  refine Con.of [some (va_rf r0), some (va_rf r1), none] (by decide +kernel) dk_X5_read (by simp [Y_X5_read, cat_rf, cat_i, cat_l]) (by simp [loE, Y_X5_read, cat_rf, cat_i, cat_l, List.replicate]) ?_
  unfold f_X5_read at h
  refine r_aload_n rfl rfl ?_
  refine r_aload_n rfl rfl ?_
  refine r_putR rfl fl_5_25 (fun z => by cases z) (Or.inl ⟨_, rfl⟩) h (fun M1 h => ?_)
  refine r_aload_n rfl rfl ?_
  refine r_getR rfl fl_5_25 rfl h (fun v1 h => ?_)
  refine r_cv_v (vs := []) rfl ml_5_29 rfl (rOk.of rfl) ⟨Nat.zero_le _, Nat.zero_le _⟩ rfl rfl rfl h s_X6_clear (fun _ M2 h => ?_)
  refine r_aload_n rfl rfl ?_
  refine r_iconst (v := 0) rfl (by decide) ?_
  refine r_putI rfl fl_5_19 (fun z => by cases z) rfl h (fun M3 h => ?_)
  refine r_aload_n rfl rfl ?_
  refine r_iconst (v := -1) rfl (by decide) ?_
  refine r_putI rfl fl_5_22 (fun z => by cases z) rfl h (fun M4 h => ?_)
  refine r_aload_n rfl rfl ?_
  refine r_iconst (v := 0) rfl (by decide) ?_
  refine r_putI rfl fl_5_34 (fun z => by cases z) rfl h (fun M5 h => ?_)
  refine r_aload_n rfl rfl ?_
  refine r_cv_v (vs := []) rfl ml_5_37 rfl (rOk.of rfl) ⟨Nat.zero_le _, Nat.zero_le _⟩ rfl rfl rfl h s_X5_advance (fun _ M6 h => ?_)
  refine r_iconst (v := 0) rfl (by decide) ?_
  refine r_istore_n (lo' := [some (va_rf r0), some (va_rf r1), some (.int (0 : Int32))]) rfl rfl (by simp [stOk, cat_rf]) rfl ?_
  refine r_msk [true, false, true] rfl ?_
  exact s_X5_read_33 FU _ _ _ h
set_option maxRecDepth 20000 in
theorem dk_X11_text : ∀ pc i, L_X11_text[pc]? = some (some i) → decode prog_1_method_7_code pc = .ok i := dk_of (by decide +kernel)
theorem s_X11_text {d : Nat} {P : Int32 → Mem → Prop} {r0 : Option Nat} {M : Mem} (h : FQ (f_X11_text r0 M) P) : Con Y_X11_text (d + 77) 0 0 [va_rf r0] M (QI P) := by
  refine Con.of [some (va_rf r0)] (by decide +kernel) dk_X11_text (by simp [Y_X11_text, cat_rf, cat_i, cat_l]) (by simp [loE, Y_X11_text, cat_rf, cat_i, cat_l, List.replicate]) ?_
  unfold f_X11_text at h
  refine r_aload_n rfl rfl ?_
  refine r_getR rfl fl_11_10 rfl h (fun v1 h => ?_)
  refine r_getI rfl fl_11_141 rfl h (fun v2 h => ?_)
  refine r_if_lt 22 rfl (by decide) h (fun h => ?_) (fun h => ?_)
  · refine r_iconst (v := -1) rfl (by decide) ?_
    exact r_iret rfl rfl ⟨Nat.le_of_ble_eq_true rfl, Nat.le_of_ble_eq_true rfl⟩ h
  · refine r_aload_n rfl rfl ?_
    refine r_getR rfl fl_11_10 rfl h (fun v3 h => ?_)
    refine r_getI rfl fl_11_141 rfl h (fun v4 h => ?_)
    refine r_bipush (v := 6) rfl (by decide) ?_
    refine r_ic_lt 24 rfl (by decide) h (fun h => ?_) (fun h => ?_)
    · refine r_aload_n rfl rfl ?_
      refine r_getR rfl fl_11_33 rfl h (fun v5 h => ?_)
      refine r_aload_n rfl rfl ?_
      refine r_getR rfl fl_11_21 rfl h (fun v6 h => ?_)
      refine r_aload_n rfl rfl ?_
      refine r_getR rfl fl_11_10 rfl h (fun v7 h => ?_)
      refine r_getI rfl fl_11_141 rfl h (fun v8 h => ?_)
      refine r_aald7 rfl h (fun v9 h => ?_)
      refine r_cv_v (vs := [va_rf v9]) rfl ml_11_143 rfl (rOk.of rfl) ⟨Nat.zero_le _, Nat.zero_le _⟩ rfl rfl rfl h s_X5_read (fun _ M1 h => ?_)
      refine r_aload_n rfl rfl ?_
      refine r_getR rfl fl_11_33 rfl h (fun v10 h => ?_)
      refine r_getI rfl fl_11_147 rfl h (fun v11 h => ?_)
      refine r_if_eq 55 rfl (by decide) h (fun h => ?_) (fun h => ?_)
      · refine r_aload_n rfl rfl ?_
        refine r_getR rfl fl_11_10 rfl h (fun v12 h => ?_)
        refine r_dup rfl (cat_rf _) ?_
        refine r_getI rfl fl_11_141 rfl h (fun v13 h => ?_)
        refine r_iconst (v := 1) rfl (by decide) ?_
        refine r_iadd rfl ?_
        refine r_putI rfl fl_11_141 (fun z => by cases z) rfl h (fun M2 h => ?_)
        refine r_aload_n rfl rfl ?_
        refine r_getR rfl fl_11_10 rfl h (fun v14 h => ?_)
        refine r_getI rfl fl_11_141 rfl h (fun v15 h => ?_)
        refine r_iconst (v := 1) rfl (by decide) ?_
        refine r_isub rfl ?_
        exact r_iret rfl rfl ⟨Nat.le_of_ble_eq_true rfl, Nat.le_of_ble_eq_true rfl⟩ h
      · refine r_iconst (v := -1) rfl (by decide) ?_
        exact r_iret rfl rfl ⟨Nat.le_of_ble_eq_true rfl, Nat.le_of_ble_eq_true rfl⟩ h
    · refine r_iconst (v := -1) rfl (by decide) ?_
      exact r_iret rfl rfl ⟨Nat.le_of_ble_eq_true rfl, Nat.le_of_ble_eq_true rfl⟩ h
set_option maxRecDepth 20000 in
theorem dk_X11_turn : ∀ pc i, L_X11_turn[pc]? = some (some i) → decode prog_1_method_4_code pc = .ok i := dk_of (by decide +kernel)
theorem s_X11_turn {d : Nat} {P : Int32 → Mem → Prop} {r0 : Option Nat} {i1 : Int32} {M : Mem} (h : FQ (f_X11_turn r0 i1 M) P) : Con Y_X11_turn (d + 1) 0 0 [va_rf r0, .int i1] M (QI P) := by
  refine Con.of [some (va_rf r0), some (.int i1)] (by decide +kernel) dk_X11_turn (by simp [Y_X11_turn, cat_rf, cat_i, cat_l]) (by simp [loE, Y_X11_turn, cat_rf, cat_i, cat_l, List.replicate]) ?_
  unfold f_X11_turn at h
  refine r_iload_n rfl rfl ?_
  refine r_cs_i (vs := [.int i1]) rfl ml_11_121 (rOk.of rfl) ⟨Nat.zero_le _, Nat.zero_le _⟩ rfl rfl rfl h s_X11_isSide (fun v1 M1 h => ?_)
  refine r_if_ne 9 rfl (by decide) h (fun h => ?_) (fun h => ?_)
  · refine r_iconst (v := 0) rfl (by decide) ?_
    exact r_zret rfl rfl ⟨Nat.le_of_ble_eq_true rfl, Nat.le_of_ble_eq_true rfl⟩ h
  · refine r_aload_n rfl rfl ?_
    refine r_getR rfl fl_11_10 rfl h (fun v2 h => ?_)
    refine r_getR rfl fl_11_114 rfl h (fun v3 h => ?_)
    refine r_iload_n rfl rfl ?_
    refine r_putI rfl fl_11_131 (fun z => by cases z) rfl h (fun M2 h => ?_)
    refine r_iconst (v := 1) rfl (by decide) ?_
    exact r_zret rfl rfl ⟨Nat.le_of_ble_eq_true rfl, Nat.le_of_ble_eq_true rfl⟩ h
set_option maxRecDepth 20000 in
theorem dk_X11_way : ∀ pc i, L_X11_way[pc]? = some (some i) → decode prog_1_method_10_code pc = .ok i := dk_of (by decide +kernel)
theorem s_X11_way {d : Nat} {P : Int32 → Mem → Prop} {r0 : Option Nat} {i1 : Int32} {i2 : Int32} {M : Mem} (h : FQ (f_X11_way r0 i1 i2 M) P) : Con Y_X11_way (d + 1) 0 0 [va_rf r0, .int i1, .int i2] M (QI P) := by
  refine Con.of [some (va_rf r0), some (.int i1), some (.int i2)] (by decide +kernel) dk_X11_way (by simp [Y_X11_way, cat_rf, cat_i, cat_l]) (by simp [loE, Y_X11_way, cat_rf, cat_i, cat_l, List.replicate]) ?_
  unfold f_X11_way at h
  refine r_iload_n rfl rfl ?_
  refine r_cs_i (vs := [.int i1]) rfl ml_11_121 (rOk.of rfl) ⟨Nat.zero_le _, Nat.zero_le _⟩ rfl rfl rfl h s_X11_isSide (fun v1 M1 h => ?_)
  refine r_if_eq 15 rfl (by decide) h (fun h => ?_) (fun h => ?_)
  · refine r_iconst (v := 0) rfl (by decide) ?_
    exact r_zret rfl rfl ⟨Nat.le_of_ble_eq_true rfl, Nat.le_of_ble_eq_true rfl⟩ h
  · refine r_aload_n rfl rfl ?_
    refine r_iload_n rfl rfl ?_
    refine r_cv_i (vs := [.int i2]) rfl ml_11_153 rfl (rOk.of rfl) ⟨Nat.zero_le _, Nat.zero_le _⟩ rfl rfl rfl h s_X11_isTextOrNone (fun v2 M2 h => ?_)
    refine r_if_ne 17 rfl (by decide) h (fun h => ?_) (fun h => ?_)
    · refine r_iconst (v := 0) rfl (by decide) ?_
      exact r_zret rfl rfl ⟨Nat.le_of_ble_eq_true rfl, Nat.le_of_ble_eq_true rfl⟩ h
    · refine r_aload_n rfl rfl ?_
      refine r_getR rfl fl_11_10 rfl h (fun v3 h => ?_)
      refine r_getR rfl fl_11_159 rfl h (fun v4 h => ?_)
      refine r_iload_n rfl rfl ?_
      refine r_iload_n rfl rfl ?_
      refine r_iast rfl h (fun M3 h => ?_)
      refine r_iconst (v := 1) rfl (by decide) ?_
      exact r_zret rfl rfl ⟨Nat.le_of_ble_eq_true rfl, Nat.le_of_ble_eq_true rfl⟩ h
set_option maxRecDepth 20000 in
theorem dk_X11_won : ∀ pc i, L_X11_won[pc]? = some (some i) → decode prog_1_method_15_code pc = .ok i := dk_of (by decide +kernel)
theorem s_X11_won {d : Nat} {P : Int32 → Mem → Prop} {r0 : Option Nat} {M : Mem} (h : FQ (f_X11_won r0 M) P) : Con Y_X11_won (d + 6) 0 0 [va_rf r0] M (QI P) := by
  refine Con.of [some (va_rf r0)] (by decide +kernel) dk_X11_won (by simp [Y_X11_won, cat_rf, cat_i, cat_l]) (by simp [loE, Y_X11_won, cat_rf, cat_i, cat_l, List.replicate]) ?_
  unfold f_X11_won at h
  refine r_aload_n rfl rfl ?_
  refine r_aload_n rfl rfl ?_
  refine r_getR rfl fl_11_10 rfl h (fun v1 h => ?_)
  refine r_getR rfl fl_11_114 rfl h (fun v2 h => ?_)
  refine r_cv_i (vs := [va_rf v2]) rfl ml_11_201 rfl (rOk.of rfl) ⟨Nat.zero_le _, Nat.zero_le _⟩ rfl rfl rfl h s_X11_winner (fun v3 M1 h => ?_)
  exact r_iret rfl rfl ⟨Nat.le_of_ble_eq_true rfl, Nat.le_of_ble_eq_true rfl⟩ h
set_option maxRecDepth 20000 in
theorem dk_X12_in : ∀ pc i, L_X12_in[pc]? = some (some i) → decode prog_14_method_2_code pc = .ok i := dk_of (by decide +kernel)
theorem s_X12_in {d : Nat} {P : Int32 → Mem → Prop} {i0 : Int32} {i1 : Int32} {i2 : Int32} {M : Mem} (h : FQ (f_X12_in i0 i1 i2 M) P) : Con Y_X12_in d 0 0 [.int i0, .int i1, .int i2] M (QI P) := by
  refine Con.of [some (.int i0), some (.int i1), some (.int i2)] (by decide +kernel) dk_X12_in (by simp [Y_X12_in, cat_rf, cat_i, cat_l]) (by simp [loE, Y_X12_in, cat_rf, cat_i, cat_l, List.replicate]) ?_
  unfold f_X12_in at h
  refine r_iload_n rfl rfl ?_
  refine r_iload_n rfl rfl ?_
  refine r_ic_lt 14 rfl (by decide) h (fun h => ?_) (fun h => ?_)
  · refine r_iconst (v := 0) rfl (by decide) ?_
    exact r_zret rfl rfl ⟨Nat.le_of_ble_eq_true rfl, Nat.le_of_ble_eq_true rfl⟩ h
  · refine r_iload_n rfl rfl ?_
    refine r_iload_n rfl rfl ?_
    refine r_ic_gt 14 rfl (by decide) h (fun h => ?_) (fun h => ?_)
    · refine r_iconst (v := 0) rfl (by decide) ?_
      exact r_zret rfl rfl ⟨Nat.le_of_ble_eq_true rfl, Nat.le_of_ble_eq_true rfl⟩ h
    · refine r_iconst (v := 1) rfl (by decide) ?_
      refine r_goto 15 rfl (by decide) ?_
      exact r_zret rfl rfl ⟨Nat.le_of_ble_eq_true rfl, Nat.le_of_ble_eq_true rfl⟩ h
set_option maxRecDepth 20000 in
theorem dk_X12_isPlace : ∀ pc i, L_X12_isPlace[pc]? = some (some i) → decode prog_14_method_4_code pc = .ok i := dk_of (by decide +kernel)
theorem s_X12_isPlace {d : Nat} {P : Int32 → Mem → Prop} {r0 : Option Nat} {i1 : Int32} {M : Mem} (h : FQ (f_X12_isPlace r0 i1 M) P) : Con Y_X12_isPlace (d + 1) 0 0 [va_rf r0, .int i1] M (QI P) := by
  refine Con.of [some (va_rf r0), some (.int i1)] (by decide +kernel) dk_X12_isPlace (by simp [Y_X12_isPlace, cat_rf, cat_i, cat_l]) (by simp [loE, Y_X12_isPlace, cat_rf, cat_i, cat_l, List.replicate]) ?_
  unfold f_X12_isPlace at h
  refine r_iload_n rfl rfl ?_
  refine r_iconst (v := 0) rfl (by decide) ?_
  refine r_aload_n rfl rfl ?_
  refine r_getI rfl fl_12_144 rfl h (fun v1 h => ?_)
  refine r_iconst (v := 1) rfl (by decide) ?_
  refine r_isub rfl ?_
  refine r_cs_i (vs := [.int i1, .int (0 : Int32), .int (v1 - (1 : Int32))]) rfl ml_12_151 (rOk.of rfl) ⟨Nat.zero_le _, Nat.zero_le _⟩ rfl rfl rfl h s_X12_in (fun v2 M1 h => ?_)
  exact r_zret rfl rfl ⟨Nat.le_of_ble_eq_true rfl, Nat.le_of_ble_eq_true rfl⟩ h
set_option maxRecDepth 20000 in
theorem dk_X12_about : ∀ pc i, L_X12_about[pc]? = some (some i) → decode prog_14_method_115_code pc = .ok i := dk_of (by decide +kernel)
theorem s_X12_about {d : Nat} {P : Int32 → Mem → Prop} {r0 : Option Nat} {i1 : Int32} {M : Mem} (h : FQ (f_X12_about r0 i1 M) P) : Con Y_X12_about (d + 2) 0 0 [va_rf r0, .int i1] M (QI P) := by
  refine Con.of [some (va_rf r0), some (.int i1)] (by decide +kernel) dk_X12_about (by simp [Y_X12_about, cat_rf, cat_i, cat_l]) (by simp [loE, Y_X12_about, cat_rf, cat_i, cat_l, List.replicate]) ?_
  unfold f_X12_about at h
  refine r_iload_n rfl rfl ?_
  refine r_table (ks := [(0, 52), (1, 57), (2, 62), (3, 69), (4, 76), (5, 83), (6, 90), (7, 97), (8, 104)]) (dt := 109) rfl (by decide) (by decide) ?_
  refine r_swc h (fun h => ?_) (fun h => ?_)
  · refine r_aload_n rfl rfl ?_
    refine r_getI rfl fl_12_138 rfl h (fun v21 h => ?_)
    exact r_iret rfl rfl ⟨Nat.le_of_ble_eq_true rfl, Nat.le_of_ble_eq_true rfl⟩ h
  · refine r_swc h (fun h => ?_) (fun h => ?_)
    · refine r_aload_n rfl rfl ?_
      refine r_getI rfl fl_12_141 rfl h (fun v20 h => ?_)
      exact r_iret rfl rfl ⟨Nat.le_of_ble_eq_true rfl, Nat.le_of_ble_eq_true rfl⟩ h
    · refine r_swc h (fun h => ?_) (fun h => ?_)
      · refine r_aload_n rfl rfl ?_
        refine r_getR rfl fl_12_7 rfl h (fun v18 h => ?_)
        refine r_iconst (v := 0) rfl (by decide) ?_
        refine r_iald rfl h (fun v19 h => ?_)
        exact r_iret rfl rfl ⟨Nat.le_of_ble_eq_true rfl, Nat.le_of_ble_eq_true rfl⟩ h
      · refine r_swc h (fun h => ?_) (fun h => ?_)
        · refine r_aload_n rfl rfl ?_
          refine r_getR rfl fl_12_7 rfl h (fun v16 h => ?_)
          refine r_iconst (v := 1) rfl (by decide) ?_
          refine r_iald rfl h (fun v17 h => ?_)
          exact r_iret rfl rfl ⟨Nat.le_of_ble_eq_true rfl, Nat.le_of_ble_eq_true rfl⟩ h
        · refine r_swc h (fun h => ?_) (fun h => ?_)
          · refine r_aload_n rfl rfl ?_
            refine r_getR rfl fl_12_7 rfl h (fun v14 h => ?_)
            refine r_iconst (v := 2) rfl (by decide) ?_
            refine r_iald rfl h (fun v15 h => ?_)
            exact r_iret rfl rfl ⟨Nat.le_of_ble_eq_true rfl, Nat.le_of_ble_eq_true rfl⟩ h
          · refine r_swc h (fun h => ?_) (fun h => ?_)
            · refine r_aload_n rfl rfl ?_
              refine r_getR rfl fl_12_7 rfl h (fun v12 h => ?_)
              refine r_iconst (v := 3) rfl (by decide) ?_
              refine r_iald rfl h (fun v13 h => ?_)
              exact r_iret rfl rfl ⟨Nat.le_of_ble_eq_true rfl, Nat.le_of_ble_eq_true rfl⟩ h
            · refine r_swc h (fun h => ?_) (fun h => ?_)
              · refine r_aload_n rfl rfl ?_
                refine r_getR rfl fl_12_7 rfl h (fun v10 h => ?_)
                refine r_iconst (v := 4) rfl (by decide) ?_
                refine r_iald rfl h (fun v11 h => ?_)
                exact r_iret rfl rfl ⟨Nat.le_of_ble_eq_true rfl, Nat.le_of_ble_eq_true rfl⟩ h
              · refine r_swc h (fun h => ?_) (fun h => ?_)
                · refine r_aload_n rfl rfl ?_
                  refine r_getR rfl fl_12_7 rfl h (fun v8 h => ?_)
                  refine r_iconst (v := 5) rfl (by decide) ?_
                  refine r_iald rfl h (fun v9 h => ?_)
                  exact r_iret rfl rfl ⟨Nat.le_of_ble_eq_true rfl, Nat.le_of_ble_eq_true rfl⟩ h
                · refine r_swc h (fun h => ?_) (fun h => ?_)
                  · refine r_aload_n rfl rfl ?_
                    refine r_getI rfl fl_12_162 rfl h (fun v7 h => ?_)
                    exact r_iret rfl rfl ⟨Nat.le_of_ble_eq_true rfl, Nat.le_of_ble_eq_true rfl⟩ h
                  · refine r_swd ?_
                    refine r_iload_n rfl rfl ?_
                    refine r_bipush (v := 10) rfl (by decide) ?_
                    refine r_bipush (v := 17) rfl (by decide) ?_
                    refine r_cs_i (vs := [.int i1, .int (10 : Int32), .int (17 : Int32)]) rfl ml_12_151 (rOk.of rfl) ⟨Nat.zero_le _, Nat.zero_le _⟩ rfl rfl rfl h s_X12_in (fun v1 M1 h => ?_)
                    refine r_if_eq 133 rfl (by decide) h (fun h => ?_) (fun h => ?_)
                    · refine r_aload_n rfl rfl ?_
                      refine r_iload_n rfl rfl ?_
                      refine r_bipush (v := 20) rfl (by decide) ?_
                      refine r_isub rfl ?_
                      refine r_cv_i (vs := [.int (i1 - (20 : Int32))]) rfl ml_12_155 rfl (rOk.of rfl) ⟨Nat.zero_le _, Nat.zero_le _⟩ rfl rfl rfl h s_X12_isPlace (fun v2 M2 h => ?_)
                      refine r_if_eq 159 rfl (by decide) h (fun h => ?_) (fun h => ?_)
                      · refine r_bipush (v := -2) rfl (by decide) ?_
                        exact r_iret rfl rfl ⟨Nat.le_of_ble_eq_true rfl, Nat.le_of_ble_eq_true rfl⟩ h
                      · refine r_aload_n rfl rfl ?_
                        refine r_getR rfl fl_12_7 rfl h (fun v3 h => ?_)
                        refine r_bipush (v := 20) rfl (by decide) ?_
                        refine r_iload_n rfl rfl ?_
                        refine r_iadd rfl ?_
                        refine r_bipush (v := 20) rfl (by decide) ?_
                        refine r_isub rfl ?_
                        refine r_iald rfl h (fun v4 h => ?_)
                        refine r_goto 161 rfl (by decide) ?_
                        exact r_iret rfl rfl ⟨Nat.le_of_ble_eq_true rfl, Nat.le_of_ble_eq_true rfl⟩ h
                    · refine r_aload_n rfl rfl ?_
                      refine r_getR rfl fl_12_7 rfl h (fun v5 h => ?_)
                      refine r_bipush (v := 10) rfl (by decide) ?_
                      refine r_iload_n rfl rfl ?_
                      refine r_iadd rfl ?_
                      refine r_bipush (v := 10) rfl (by decide) ?_
                      refine r_isub rfl ?_
                      refine r_iald rfl h (fun v6 h => ?_)
                      exact r_iret rfl rfl ⟨Nat.le_of_ble_eq_true rfl, Nat.le_of_ble_eq_true rfl⟩ h
set_option maxRecDepth 20000 in
theorem dk_X12_boardCode : ∀ pc i, L_X12_boardCode[pc]? = some (some i) → decode prog_14_method_80_code pc = .ok i := dk_of (by decide +kernel)
theorem sb_X12_boardCode_8 {d : Nat} {P : Int64 → Mem → Prop} {q8 : Option Nat → Int64 → Int32 → Mem → Option (Int64 × Mem)} (hq8 : ∀ (r0 : Option Nat) (l1 : Int64) (i3 : Int32) (M : Mem), FQ (q8 r0 l1 i3 M) P → wp Y_X12_boardCode (rmD d 0 0) (FM (QL P) 0 0) 0 0 8 [some (va_rf r0), some (.long l1), none, some (.int i3)] [] M) (r0 : Option Nat) (l1 : Int64) (i3 : Int32) (M : Mem) (h : FQ (b_X12_boardCode_8 q8 r0 l1 i3 M) P) : wp Y_X12_boardCode (rmD d 0 0) (FM (QL P) 0 0) 0 0 8 [some (va_rf r0), some (.long l1), none, some (.int i3)] [] M := by
  unfold b_X12_boardCode_8 at h
  refine r_iload_n rfl rfl ?_
  refine r_aload_n rfl rfl ?_
  refine r_getI rfl fl_12_144 rfl h (fun v1 h => ?_)
  refine r_ic_ge 36 rfl (by decide) h (fun h => ?_) (fun h => ?_)
  · refine r_lload_n rfl rfl ?_
    exact r_lret rfl rfl ⟨Nat.le_of_ble_eq_true rfl, Nat.le_of_ble_eq_true rfl⟩ h
  · refine r_ldc2 rfl kl_12_465 ?_
    refine r_lload_n rfl rfl ?_
    refine r_lmul rfl ?_
    refine r_aload_n rfl rfl ?_
    refine r_getR rfl fl_12_88 rfl h (fun v2 h => ?_)
    refine r_iload_n rfl rfl ?_
    refine r_iald rfl h (fun v3 h => ?_)
    refine r_i2l rfl ?_
    refine r_ladd rfl ?_
    refine r_lstore_n (lo' := [some (va_rf r0), some (.long (((9 : Int64) * l1) + v3.toInt64)), none, some (.int i3)]) rfl rfl (by simp [stOk, cat_rf]) rfl ?_
    refine r_iinc (v := 1) (lo' := [some (va_rf r0), some (.long (((9 : Int64) * l1) + v3.toInt64)), none, some (.int (i3 + (1 : Int32)))]) rfl rfl rfl (by decide) rfl rfl ?_
    refine r_goto 8 rfl (by decide) ?_
    exact hq8 _ _ _ _ h
theorem s_X12_boardCode_8 {d : Nat} {P : Int64 → Mem → Prop}   : ∀ (k : Nat) (r0 : Option Nat) (l1 : Int64) (i3 : Int32) (M : Mem), FQ (f_X12_boardCode_8  k r0 l1 i3 M) P → wp Y_X12_boardCode (rmD d 0 0) (FM (QL P) 0 0) 0 0 8 [some (va_rf r0), some (.long l1), none, some (.int i3)] [] M
  | 0, _, _, _, _, h => h.no
  | k + 1, r0, l1, i3, M, h => sb_X12_boardCode_8  (s_X12_boardCode_8  k) r0 l1 i3 M h
theorem s_X12_boardCode {d : Nat} {P : Int64 → Mem → Prop} {r0 : Option Nat} {M : Mem} (h : FQ (f_X12_boardCode r0 M) P) : Con Y_X12_boardCode d 0 0 [va_rf r0] M (QL P) := by
  refine Con.of [some (va_rf r0), none, none, none] (by decide +kernel) dk_X12_boardCode (by simp [Y_X12_boardCode, cat_rf, cat_i, cat_l]) (by simp [loE, Y_X12_boardCode, cat_rf, cat_i, cat_l, List.replicate]) ?_
  unfold f_X12_boardCode at h
  refine r_aload_n rfl rfl ?_
  refine r_getI rfl fl_12_355 rfl h (fun v1 h => ?_)
  refine r_i2l rfl ?_
  refine r_lstore_n (lo' := [some (va_rf r0), some (.long v1.toInt64), none, none]) rfl rfl (by simp [stOk, cat_rf]) rfl ?_
  refine r_iconst (v := 0) rfl (by decide) ?_
  refine r_istore_n (lo' := [some (va_rf r0), some (.long v1.toInt64), none, some (.int (0 : Int32))]) rfl rfl rfl rfl ?_
  exact s_X12_boardCode_8 FU _ _ _ _ h
set_option maxRecDepth 20000 in
theorem dk_X12_isMove : ∀ pc i, L_X12_isMove[pc]? = some (some i) → decode prog_14_method_5_code pc = .ok i := dk_of (by decide +kernel)
theorem s_X12_isMove {d : Nat} {P : Int32 → Mem → Prop} {i0 : Int32} {M : Mem} (h : FQ (f_X12_isMove i0 M) P) : Con Y_X12_isMove (d + 1) 0 0 [.int i0] M (QI P) := by
  refine Con.of [some (.int i0)] (by decide +kernel) dk_X12_isMove (by simp [Y_X12_isMove, cat_rf, cat_i, cat_l]) (by simp [loE, Y_X12_isMove, cat_rf, cat_i, cat_l, List.replicate]) ?_
  unfold f_X12_isMove at h
  refine r_iload_n rfl rfl ?_
  refine r_iconst (v := 0) rfl (by decide) ?_
  refine r_bipush (v := 7) rfl (by decide) ?_
  refine r_cs_i (vs := [.int i0, .int (0 : Int32), .int (7 : Int32)]) rfl ml_12_151 (rOk.of rfl) ⟨Nat.zero_le _, Nat.zero_le _⟩ rfl rfl rfl h s_X12_in (fun v1 M1 h => ?_)
  exact r_zret rfl rfl ⟨Nat.le_of_ble_eq_true rfl, Nat.le_of_ble_eq_true rfl⟩ h
set_option maxRecDepth 20000 in
theorem dk_X12_isIn : ∀ pc i, L_X12_isIn[pc]? = some (some i) → decode prog_14_method_64_code pc = .ok i := dk_of (by decide +kernel)
theorem s_X12_isIn {d : Nat} {P : Int32 → Mem → Prop} {r0 : Option Nat} {i1 : Int32} {M : Mem} (h : FQ (f_X12_isIn r0 i1 M) P) : Con Y_X12_isIn (d + 2) 0 0 [va_rf r0, .int i1] M (QI P) := by
  refine Con.of [some (va_rf r0), some (.int i1)] (by decide +kernel) dk_X12_isIn (by simp [Y_X12_isIn, cat_rf, cat_i, cat_l]) (by simp [loE, Y_X12_isIn, cat_rf, cat_i, cat_l, List.replicate]) ?_
  unfold f_X12_isIn at h
  refine r_iload_n rfl rfl ?_
  refine r_cs_i (vs := [.int i1]) rfl ml_12_159 (rOk.of rfl) ⟨Nat.zero_le _, Nat.zero_le _⟩ rfl rfl rfl h s_X12_isMove (fun v1 M1 h => ?_)
  refine r_if_eq 23 rfl (by decide) h (fun h => ?_) (fun h => ?_)
  · refine r_iconst (v := 0) rfl (by decide) ?_
    exact r_zret rfl rfl ⟨Nat.le_of_ble_eq_true rfl, Nat.le_of_ble_eq_true rfl⟩ h
  · refine r_aload_n rfl rfl ?_
    refine r_getI rfl fl_12_401 rfl h (fun v2 h => ?_)
    refine r_iload_n rfl rfl ?_
    refine r_ishr rfl ?_
    refine r_iconst (v := 1) rfl (by decide) ?_
    refine r_iand rfl ?_
    refine r_iconst (v := 1) rfl (by decide) ?_
    refine r_ic_ne 23 rfl (by decide) h (fun h => ?_) (fun h => ?_)
    · refine r_iconst (v := 1) rfl (by decide) ?_
      refine r_goto 24 rfl (by decide) ?_
      exact r_zret rfl rfl ⟨Nat.le_of_ble_eq_true rfl, Nat.le_of_ble_eq_true rfl⟩ h
    · refine r_iconst (v := 0) rfl (by decide) ?_
      exact r_zret rfl rfl ⟨Nat.le_of_ble_eq_true rfl, Nat.le_of_ble_eq_true rfl⟩ h
