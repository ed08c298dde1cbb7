/-! walked by program (wip/gen): X12_book X12_can X12_draw X12_offerAt X12_drawsPly X12_drawn X12_end X12_fault X12_put X12_feed -/
def L_X12_book : List (Option (Instr × Nat)) := [some (.aload_n 0, 1), some (.iload_n 1, 1), some (.invokevirtual 352, 3), none, none, some (.ifCond .ne 5, 3), none, none, some (.iconst 0, 1), some (.ireturn, 1), some (.aload_n 0, 1), some (.getfield 7, 3), none, none, some (.iconst 2, 1), some (.iload_n 1, 1), some (.iastore, 1), some (.iconst 1, 1), some (.ireturn, 1)]
def Y_X12_book : YM := (⟨RX12, "book", "(I)Z"⟩, prog_14_method_45_code, L_X12_book, 2, some .boolean)
def f_X12_book (r0 : Option Nat) (i1 : Int32) (M : Mem) : Option (Int32 × Mem) :=
cR M r0 (1, 12) (cA (f_X12_isText r0 i1 M) fun v1 M1 =>
(if v1 = 0 then
tv (0 : Int32) (some ((0 : Int32), M1))
else
gR M1 r0 12 3 fun v2 =>
wI M1 v2 2 (2 : Int32) i1 fun M2 =>
tv (1 : Int32) (some ((1 : Int32), M2))))
def L_X12_can : List (Option (Instr × Nat)) := [some (.iload_n 1, 1), some (.invokestatic 159, 3), none, none, some (.ifCond .eq 12, 3), none, none, some (.iload_n 2, 1), some (.iconst 0, 1), some (.iconst 2, 1), some (.invokestatic 151, 3), none, none, some (.ifCond .ne 5, 3), none, none, some (.iconst (-1), 1), some (.ireturn, 1), some (.aload_n 0, 1), some (.invokevirtual 410, 3), none, none, some (.aload_n 0, 1), some (.iload_n 1, 1), some (.invokevirtual 404, 3), none, none, some (.istore_n 3, 1), some (.iload_n 3, 1), some (.ifCond .ne 7, 3), none, none, some (.iconst (-1), 1), some (.goto 30, 3), none, none, some (.iload_n 2, 1), some (.ifCond .ne 10, 3), none, none, some (.aload_n 0, 1), some (.getfield 381, 3), none, none, some (.goto 19, 3), none, none, some (.iload_n 2, 1), some (.iconst 1, 1), some (.if_icmp .ne 10, 3), none, none, some (.aload_n 0, 1), some (.getfield 384, 3), none, none, some (.goto 7, 3), none, none, some (.aload_n 0, 1), some (.getfield 398, 3), none, none, some (.ireturn, 1)]
def Y_X12_can : YM := (⟨RX12, "can", "(II)I"⟩, prog_14_method_63_code, L_X12_can, 4, some .int)
def f_X12_can (r0 : Option Nat) (i1 : Int32) (i2 : Int32) (M : Mem) : Option (Int32 × Mem) :=
cA (f_X12_isMove i1 M) fun v1 M1 =>
(if v1 = 0 then
some ((-1 : Int32), M1)
else
cA (f_X12_in i2 (0 : Int32) (2 : Int32) M1) fun v2 M2 =>
(if v2 = 0 then
some ((-1 : Int32), M2)
else
cR M2 r0 (1, 12) (cA (f_X12_laysNow r0 M2) fun _ M3 =>
cR M3 r0 (1, 12) (cA (f_X12_canDo r0 i1 M3) fun v3 M4 =>
(if v3 = 0 then
some ((-1 : Int32), M4)
else
(if i2 = 0 then
gI M4 r0 12 46 fun v4 =>
some (v4, M4)
else
(if i2 = (1 : Int32) then
gI M4 r0 12 47 fun v5 =>
some (v5, M4)
else
gI M4 r0 12 48 fun v6 =>
some (v6, M4))))))))
def L_X12_draw : List (Option (Instr × Nat)) := [some (.aload_n 0, 1), some (.getfield 477, 3), none, none, some (.iload_n 1, 1), some (.irem, 1), some (.istore_n 2, 1), some (.aload_n 0, 1), some (.aload_n 0, 1), some (.getfield 477, 3), none, none, some (.sipush 157, 3), none, none, some (.imul, 1), some (.bipush 53, 2), none, some (.iadd, 1), some (.sipush 30113, 3), none, none, some (.irem, 1), some (.putfield 477, 3), none, none, some (.iload_n 2, 1), some (.ireturn, 1)]
def Y_X12_draw : YM := (⟨RX12, "draw", "(I)I"⟩, prog_14_method_86_code, L_X12_draw, 3, some .int)
def f_X12_draw (r0 : Option Nat) (i1 : Int32) (M : Mem) : Option (Int32 × Mem) :=
gI M r0 12 57 fun v1 =>
nzI i1 (
gI M r0 12 57 fun v2 =>
nzI (30113 : Int32) (
pI M r0 12 57 (((v2 * (157 : Int32)) + (53 : Int32)) - ((v2 * (157 : Int32)) + (53 : Int32)) / (30113 : Int32) * (30113 : Int32)) fun M1 =>
some ((v1 - v1 / i1 * i1), M1)))
def L_X12_offerAt : List (Option (Instr × Nat)) := [some (.iconst (-1), 1), some (.istore_n 2, 1), some (.aload_n 0, 1), some (.iconst 0, 1), some (.putfield 416, 3), none, none, some (.iconst 0, 1), some (.istore_n 3, 1), some (.iload_n 3, 1), some (.sipush 512, 3), none, none, some (.if_icmp .ge 77, 3), none, none, some (.aload_n 0, 1), some (.iload_n 3, 1), some (.bipush 64, 2), none, some (.idiv, 1), some (.iload_n 3, 1), some (.bipush 8, 2), none, some (.idiv, 1), some (.bipush 8, 2), none, some (.irem, 1), some (.iload_n 3, 1), some (.bipush 8, 2), none, some (.irem, 1), some (.invokevirtual 419, 3), none, none, some (.ifCond .eq 49, 3), none, none, some (.aload_n 0, 1), some (.getfield 416, 3), none, none, some (.iload_n 1, 1), some (.if_icmp .ne 29, 3), none, none, some (.bipush 100, 2), none, some (.iload_n 3, 1), some (.bipush 64, 2), none, some (.idiv, 1), some (.imul, 1), some (.bipush 10, 2), none, some (.iload_n 3, 1), some (.bipush 8, 2), none, some (.idiv, 1), some (.bipush 8, 2), none, some (.irem, 1), some (.imul, 1), some (.iadd, 1), some (.iload_n 3, 1), some (.bipush 8, 2), none, some (.irem, 1), some (.iadd, 1), some (.goto 4, 3), none, none, some (.iload_n 2, 1), some (.istore_n 2, 1), some (.aload_n 0, 1), some (.dup, 1), some (.getfield 416, 3), none, none, some (.iconst 1, 1), some (.iadd, 1), some (.putfield 416, 3), none, none, some (.iinc 3 1, 3), none, none, some (.goto (-78), 3), none, none, some (.iload_n 2, 1), some (.ireturn, 1)]
def Y_X12_offerAt : YM := (⟨RX12, "offerAt", "(I)I"⟩, prog_14_method_66_code, L_X12_offerAt, 4, some .int)
def b_X12_offerAt_9 (q9 : Option Nat → Int32 → Int32 → Int32 → Mem → Option (Int32 × Mem)) (r0 : Option Nat) (i1 : Int32) (i2 : Int32) (i3 : Int32) (M : Mem) : Option (Int32 × Mem) :=
(if (512 : Int32) ≤ i3 then
some (i2, M)
else
nzI (64 : Int32) (
nzI (8 : Int32) (
nzI (8 : Int32) (
nzI (8 : Int32) (
cR M r0 (1, 12) (cA (f_X12_isOffer r0 (i3 / (64 : Int32)) ((i3 / (8 : Int32)) - (i3 / (8 : Int32)) / (8 : Int32) * (8 : Int32)) (i3 - i3 / (8 : Int32) * (8 : Int32)) M) fun v1 M1 =>
(if v1 = 0 then
q9 r0 i1 i2 (i3 + (1 : Int32)) M1
else
gI M1 r0 12 53 fun v2 =>
(if v2 = i1 then
nzI (64 : Int32) (
nzI (8 : Int32) (
nzI (8 : Int32) (
nzI (8 : Int32) (
gI M1 r0 12 53 fun v3 =>
pI M1 r0 12 53 (v3 + (1 : Int32)) fun M2 =>
q9 r0 i1 ((((100 : Int32) * (i3 / (64 : Int32))) + ((10 : Int32) * ((i3 / (8 : Int32)) - (i3 / (8 : Int32)) / (8 : Int32) * (8 : Int32)))) + (i3 - i3 / (8 : Int32) * (8 : Int32))) (i3 + (1 : Int32)) M2))))
else
gI M1 r0 12 53 fun v4 =>
pI M1 r0 12 53 (v4 + (1 : Int32)) fun M3 =>
q9 r0 i1 i2 (i3 + (1 : Int32)) M3))))))))
def f_X12_offerAt_9 (n : Nat) : Option Nat → Int32 → Int32 → Int32 → Mem → Option (Int32 × Mem) := lpN (fun _ _ _ _ _ => none) (b_X12_offerAt_9 ) n
def f_X12_offerAt (r0 : Option Nat) (i1 : Int32) (M : Mem) : Option (Int32 × Mem) :=
pI M r0 12 53 (0 : Int32) fun M1 =>
f_X12_offerAt_9 FU r0 i1 (-1 : Int32) (0 : Int32) M1
def L_X12_drawsPly : List (Option (Instr × Nat)) := [some (.aload_n 0, 1), some (.iconst (-1), 1), some (.invokevirtual 425, 3), none, none, some (.istore_n 1, 1), some (.aload_n 0, 1), some (.aload_n 0, 1), some (.aload_n 0, 1), some (.getfield 416, 3), none, none, some (.invokevirtual 480, 3), none, none, some (.invokevirtual 425, 3), none, none, some (.istore_n 2, 1), some (.aload_n 0, 1), some (.iconst 3, 1), some (.invokevirtual 480, 3), none, none, some (.istore_n 3, 1), some (.aload_n 0, 1), some (.iconst 2, 1), some (.invokevirtual 480, 3), none, none, some (.istore 4, 2), none, some (.iload 4, 2), none, some (.iload_n 3, 1), some (.if_icmp .lt 10, 3), none, none, some (.iload 4, 2), none, some (.iconst 1, 1), some (.iadd, 1), some (.goto 5, 3), none, none, some (.iload 4, 2), none, some (.istore 4, 2), none, some (.iload_n 2, 1), some (.bipush 100, 2), none, some (.idiv, 1), some (.istore 5, 2), none, some (.iload_n 2, 1), some (.bipush 10, 2), none, some (.idiv, 1), some (.bipush 10, 2), none, some (.irem, 1), some (.istore 6, 2), none, some (.iload_n 2, 1), some (.bipush 10, 2), none, some (.irem, 1), some (.istore 7, 2), none, some (.aload_n 0, 1), some (.iload_n 3, 1), some (.ifCond .ne 8, 3), none, none, some (.iload 5, 2), none, some (.goto 15, 3), none, none, some (.iload_n 3, 1), some (.iconst 1, 1), some (.if_icmp .ne 8, 3), none, none, some (.iload 6, 2), none, some (.goto 5, 3), none, none, some (.iload 7, 2), none, some (.iload 4, 2), none, some (.ifCond .ne 8, 3), none, none, some (.iload 5, 2), none, some (.goto 16, 3), none, none, some (.iload 4, 2), none, some (.iconst 1, 1), some (.if_icmp .ne 8, 3), none, none, some (.iload 6, 2), none, some (.goto 5, 3), none, none, some (.iload 7, 2), none, some (.invokevirtual 436, 3), none, none, some (.return_, 1)]
def Y_X12_drawsPly : YM := (⟨RX12, "drawsPly", "()V"⟩, prog_14_method_87_code, L_X12_drawsPly, 8, none)
def f_X12_drawsPly_92  (i4 : Int32) (i5 : Int32) (i6 : Int32) (i7 : Int32) (sr0 : Option Nat) (si1 : Int32) (M : Mem) : Option (Unit × Mem) :=
(if i4 = 0 then
cR M sr0 (1, 12) (cA (f_X12_plays sr0 si1 i5 M) fun _ M1 =>
some ((), M1))
else
(if i4 = (1 : Int32) then
cR M sr0 (1, 12) (cA (f_X12_plays sr0 si1 i6 M) fun _ M2 =>
some ((), M2))
else
cR M sr0 (1, 12) (cA (f_X12_plays sr0 si1 i7 M) fun _ M3 =>
some ((), M3))))
def f_X12_drawsPly_47  (r0 : Option Nat) (i2 : Int32) (i3 : Int32) (si0 : Int32) (M : Mem) : Option (Unit × Mem) :=
nzI (100 : Int32) (
nzI (10 : Int32) (
nzI (10 : Int32) (
nzI (10 : Int32) (
(if i3 = 0 then
f_X12_drawsPly_92 si0 (i2 / (100 : Int32)) ((i2 / (10 : Int32)) - (i2 / (10 : Int32)) / (10 : Int32) * (10 : Int32)) (i2 - i2 / (10 : Int32) * (10 : Int32)) r0 (i2 / (100 : Int32)) M
else
(if i3 = (1 : Int32) then
f_X12_drawsPly_92 si0 (i2 / (100 : Int32)) ((i2 / (10 : Int32)) - (i2 / (10 : Int32)) / (10 : Int32) * (10 : Int32)) (i2 - i2 / (10 : Int32) * (10 : Int32)) r0 ((i2 / (10 : Int32)) - (i2 / (10 : Int32)) / (10 : Int32) * (10 : Int32)) M
else
f_X12_drawsPly_92 si0 (i2 / (100 : Int32)) ((i2 / (10 : Int32)) - (i2 / (10 : Int32)) / (10 : Int32) * (10 : Int32)) (i2 - i2 / (10 : Int32) * (10 : Int32)) r0 (i2 - i2 / (10 : Int32) * (10 : Int32)) M))))))
def f_X12_drawsPly (r0 : Option Nat) (M : Mem) : Option (Unit × Mem) :=
cR M r0 (1, 12) (cA (f_X12_offerAt r0 (-1 : Int32) M) fun v1 M1 =>
gI M1 r0 12 53 fun v2 =>
cR M1 r0 (1, 12) (cA (f_X12_draw r0 v2 M1) fun v3 M2 =>
cR M2 r0 (1, 12) (cA (f_X12_offerAt r0 v3 M2) fun v4 M3 =>
cR M3 r0 (1, 12) (cA (f_X12_draw r0 (3 : Int32) M3) fun v5 M4 =>
cR M4 r0 (1, 12) (cA (f_X12_draw r0 (2 : Int32) M4) fun v6 M5 =>
(if v6 < v5 then
f_X12_drawsPly_47 r0 v4 v5 v6 M5
else
f_X12_drawsPly_47 r0 v4 v5 (v6 + (1 : Int32)) M5))))))
def L_X12_drawn : List (Option (Instr × Nat)) := [some (.iload_n 1, 1), some (.iconst 0, 1), some (.sipush 9999, 3), none, none, some (.invokestatic 151, 3), none, none, some (.ifCond .eq 22, 3), none, none, some (.iload_n 2, 1), some (.iconst 1, 1), some (.bipush 20, 2), none, some (.invokestatic 151, 3), none, none, some (.ifCond .eq 12, 3), none, none, some (.iload_n 3, 1), some (.iconst 0, 1), some (.iconst 1, 1), some (.invokestatic 151, 3), none, none, some (.ifCond .ne 5, 3), none, none, some (.iconst (-1), 1), some (.ireturn, 1), some (.aload_n 0, 1), some (.iload_n 1, 1), some (.bipush 7, 2), none, some (.imul, 1), some (.bipush 9, 2), none, some (.iadd, 1), some (.putfield 477, 3), none, none, some (.iconst 0, 1), some (.istore 4, 2), none, some (.iconst 0, 1), some (.istore 5, 2), none, some (.iload 5, 2), none, some (.iload_n 2, 1), some (.if_icmp .ge 73, 3), none, none, some (.aload_n 0, 1), some (.invokevirtual 410, 3), none, none, some (.aload_n 0, 1), some (.invokevirtual 422, 3), none, none, some (.iconst 0, 1), some (.istore 6, 2), none, some (.iload 6, 2), none, some (.bipush 30, 2), none, some (.if_icmp .ge 24, 3), none, none, some (.aload_n 0, 1), some (.invokevirtual 455, 3), none, none, some (.ifCond .ne 17, 3), none, none, some (.aload_n 0, 1), some (.invokevirtual 483, 3), none, none, some (.aload_n 0, 1), some (.invokevirtual 422, 3), none, none, some (.iinc 6 1, 3), none, none, some (.goto (-25), 3), none, none, some (.iload 4, 2), none, some (.aload_n 0, 1), some (.invokevirtual 455, 3), none, none, some (.ifCond .eq 15, 3), none, none, some (.aload_n 0, 1), some (.getfield 355, 3), none, none, some (.iload_n 3, 1), some (.if_icmp .ne 7, 3), none, none, some (.iconst 1, 1), some (.goto 4, 3), none, none, some (.iconst 0, 1), some (.iadd, 1), some (.istore 4, 2), none, some (.iinc 5 1, 3), none, none, some (.goto (-73), 3), none, none, some (.iload 4, 2), none, some (.ireturn, 1)]
def Y_X12_drawn : YM := (⟨RX12, "drawn", "(III)I"⟩, prog_14_method_88_code, L_X12_drawn, 7, some .int)
def f_X12_drawn_94 (q49 : Option Nat → Int32 → Int32 → Int32 → Int32 → Mem → Option (Int32 × Mem)) (r0 : Option Nat) (i2 : Int32) (i3 : Int32) (i4 : Int32) (i5 : Int32) (M : Mem) : Option (Int32 × Mem) :=
cR M r0 (1, 12) (cA (f_X12_isOver r0 M) fun v1 M1 =>
(if v1 = 0 then
q49 r0 i2 i3 (i4 + (0 : Int32)) (i5 + (1 : Int32)) M1
else
gI M1 r0 12 45 fun v2 =>
(if v2 = i3 then
q49 r0 i2 i3 (i4 + (1 : Int32)) (i5 + (1 : Int32)) M1
else
q49 r0 i2 i3 (i4 + (0 : Int32)) (i5 + (1 : Int32)) M1)))
def b_X12_drawn_66 (q49 : Option Nat → Int32 → Int32 → Int32 → Int32 → Mem → Option (Int32 × Mem)) (q66 : Option Nat → Int32 → Int32 → Int32 → Int32 → Int32 → Mem → Option (Int32 × Mem)) (r0 : Option Nat) (i2 : Int32) (i3 : Int32) (i4 : Int32) (i5 : Int32) (i6 : Int32) (M : Mem) : Option (Int32 × Mem) :=
(if (30 : Int32) ≤ i6 then
f_X12_drawn_94 q49 r0 i2 i3 i4 i5 M
else
cR M r0 (1, 12) (cA (f_X12_isOver r0 M) fun v1 M1 =>
(if v1 = 0 then
cR M1 r0 (1, 12) (cA (f_X12_drawsPly r0 M1) fun _ M2 =>
cR M2 r0 (1, 12) (cA (f_X12_laysMoves r0 M2) fun _ M3 =>
q66 r0 i2 i3 i4 i5 (i6 + (1 : Int32)) M3))
else
f_X12_drawn_94 q49 r0 i2 i3 i4 i5 M1)))
def f_X12_drawn_66 (q49 : Option Nat → Int32 → Int32 → Int32 → Int32 → Mem → Option (Int32 × Mem)) (n : Nat) : Option Nat → Int32 → Int32 → Int32 → Int32 → Int32 → Mem → Option (Int32 × Mem) := lpN (fun _ _ _ _ _ _ _ => none) (b_X12_drawn_66 q49) n
def b_X12_drawn_49 (q49 : Option Nat → Int32 → Int32 → Int32 → Int32 → Mem → Option (Int32 × Mem)) (r0 : Option Nat) (i2 : Int32) (i3 : Int32) (i4 : Int32) (i5 : Int32) (M : Mem) : Option (Int32 × Mem) :=
(if i2 ≤ i5 then
some (i4, M)
else
cR M r0 (1, 12) (cA (f_X12_laysNow r0 M) fun _ M1 =>
cR M1 r0 (1, 12) (cA (f_X12_laysMoves r0 M1) fun _ M2 =>
f_X12_drawn_66 q49 FU r0 i2 i3 i4 i5 (0 : Int32) M2)))
def f_X12_drawn_49 (n : Nat) : Option Nat → Int32 → Int32 → Int32 → Int32 → Mem → Option (Int32 × Mem) := lpN (fun _ _ _ _ _ _ => none) (b_X12_drawn_49 ) n
def f_X12_drawn (r0 : Option Nat) (i1 : Int32) (i2 : Int32) (i3 : Int32) (M : Mem) : Option (Int32 × Mem) :=
cA (f_X12_in i1 (0 : Int32) (9999 : Int32) M) fun v1 M1 =>
(if v1 = 0 then
some ((-1 : Int32), M1)
else
cA (f_X12_in i2 (1 : Int32) (20 : Int32) M1) fun v2 M2 =>
(if v2 = 0 then
some ((-1 : Int32), M2)
else
cA (f_X12_in i3 (0 : Int32) (1 : Int32) M2) fun v3 M3 =>
(if v3 = 0 then
some ((-1 : Int32), M3)
else
pI M3 r0 12 57 ((i1 * (7 : Int32)) + (9 : Int32)) fun M4 =>
f_X12_drawn_49 FU r0 i2 i3 (0 : Int32) (0 : Int32) M4)))
def L_X12_end : List (Option (Instr × Nat)) := [some (.iload_n 1, 1), some (.iconst 0, 1), some (.aload_n 0, 1), some (.getfield 162, 3), none, none, some (.invokestatic 151, 3), none, none, some (.ifCond .ne 5, 3), none, none, some (.iconst (-1), 1), some (.ireturn, 1), some (.aload_n 0, 1), some (.iload_n 1, 1), some (.putfield 162, 3), none, none, some (.iload_n 1, 1), some (.ireturn, 1)]
def Y_X12_end : YM := (⟨RX12, "end", "(I)I"⟩, prog_14_method_11_code, L_X12_end, 2, some .int)
def f_X12_end (r0 : Option Nat) (i1 : Int32) (M : Mem) : Option (Int32 × Mem) :=
gI M r0 12 6 fun v1 =>
cA (f_X12_in i1 (0 : Int32) v1 M) fun v2 M1 =>
(if v2 = 0 then
some ((-1 : Int32), M1)
else
pI M1 r0 12 6 i1 fun M2 =>
some (i1, M2))
def L_X12_fault : List (Option (Instr × Nat)) := [some (.iload_n 1, 1), some (.ifCond .ne 10, 3), none, none, some (.aload_n 0, 1), some (.getfield 20, 3), none, none, some (.goto 16, 3), none, none, some (.iload_n 1, 1), some (.iconst 1, 1), some (.if_icmp .ne 10, 3), none, none, some (.aload_n 0, 1), some (.getfield 24, 3), none, none, some (.goto 4, 3), none, none, some (.iconst (-1), 1), some (.ireturn, 1)]
def Y_X12_fault : YM := (⟨RX12, "fault", "(I)I"⟩, prog_14_method_40_code, L_X12_fault, 2, some .int)
def f_X12_fault (r0 : Option Nat) (i1 : Int32) (M : Mem) : Option (Int32 × Mem) :=
(if i1 = 0 then
gI M r0 12 7 fun v1 =>
some (v1, M)
else
(if i1 = (1 : Int32) then
gI M r0 12 8 fun v2 =>
some (v2, M)
else
some ((-1 : Int32), M)))
def L_X12_put : List (Option (Instr × Nat)) := [some (.bipush 24, 2), none, some (.istore_n 2, 1), some (.iload_n 2, 1), some (.ifCond .lt 34, 3), none, none, some (.aload_n 0, 1), some (.getfield 16, 3), none, none, some (.aload_n 0, 1), some (.getfield 162, 3), none, none, some (.iload_n 1, 1), some (.iload_n 2, 1), some (.ishr, 1), some (.i2b, 1), some (.bastore, 1), some (.aload_n 0, 1), some (.dup, 1), some (.getfield 162, 3), none, none, some (.iconst 1, 1), some (.iadd, 1), some (.putfield 162, 3), none, none, some (.iload_n 2, 1), some (.bipush 8, 2), none, some (.isub, 1), some (.istore_n 2, 1), some (.goto (-32), 3), none, none, some (.return_, 1)]
def Y_X12_put : YM := (⟨RX12, "put", "(I)V"⟩, prog_14_method_9_code, L_X12_put, 3, none)
def b_X12_put_3 (q3 : Option Nat → Int32 → Int32 → Mem → Option (Unit × Mem)) (r0 : Option Nat) (i1 : Int32) (i2 : Int32) (M : Mem) : Option (Unit × Mem) :=
(if i2 < 0 then
some ((), M)
else
gR M r0 12 5 fun v1 =>
gI M r0 12 6 fun v2 =>
wI M v1 4 v2 (vp_nar .byte (i1 >>> (i2 &&& 31)).toInt8.toInt32) fun M1 =>
gI M1 r0 12 6 fun v3 =>
pI M1 r0 12 6 (v3 + (1 : Int32)) fun M2 =>
q3 r0 i1 (i2 - (8 : Int32)) M2)
def f_X12_put_3 (n : Nat) : Option Nat → Int32 → Int32 → Mem → Option (Unit × Mem) := lpN (fun _ _ _ _ => none) (b_X12_put_3 ) n
def f_X12_put (r0 : Option Nat) (i1 : Int32) (M : Mem) : Option (Unit × Mem) :=
f_X12_put_3 FU r0 i1 (24 : Int32) M
def L_X12_feed : List (Option (Instr × Nat)) := [some (.aload_n 0, 1), some (.getfield 162, 3), none, none, some (.bipush 20, 2), none, some (.iadd, 1), some (.sipush 300, 3), none, none, some (.if_icmp .le 5, 3), none, none, some (.iconst (-1), 1), some (.ireturn, 1), some (.aload_n 0, 1), some (.iload_n 1, 1), some (.invokevirtual 165, 3), none, none, some (.aload_n 0, 1), some (.iload_n 2, 1), some (.invokevirtual 165, 3), none, none, some (.aload_n 0, 1), some (.iload_n 3, 1), some (.invokevirtual 165, 3), none, none, some (.aload_n 0, 1), some (.iload 4, 2), none, some (.invokevirtual 165, 3), none, none, some (.aload_n 0, 1), some (.iload 5, 2), none, some (.invokevirtual 165, 3), none, none, some (.aload_n 0, 1), some (.getfield 162, 3), none, none, some (.ireturn, 1)]
def Y_X12_feed : YM := (⟨RX12, "feed", "(IIIII)I"⟩, prog_14_method_10_code, L_X12_feed, 6, some .int)
def f_X12_feed (r0 : Option Nat) (i1 : Int32) (i2 : Int32) (i3 : Int32) (i4 : Int32) (i5 : Int32) (M : Mem) : Option (Int32 × Mem) :=
gI M r0 12 6 fun v1 =>
(if (v1 + (20 : Int32)) ≤ (300 : Int32) then
cR M r0 (1, 12) (cA (f_X12_put r0 i1 M) fun _ M1 =>
cR M1 r0 (1, 12) (cA (f_X12_put r0 i2 M1) fun _ M2 =>
cR M2 r0 (1, 12) (cA (f_X12_put r0 i3 M2) fun _ M3 =>
cR M3 r0 (1, 12) (cA (f_X12_put r0 i4 M3) fun _ M4 =>
cR M4 r0 (1, 12) (cA (f_X12_put r0 i5 M4) fun _ M5 =>
gI M5 r0 12 6 fun v2 =>
some (v2, M5))))))
else
some ((-1 : Int32), M))
set_option maxRecDepth 30000 in
theorem ok_X12_isText : okY Y_X12_isText := ⟨(gw_in 1503 rfl rfl), (gw_in 14 (by decide +kernel) (by decide +kernel)), by decide +kernel, by decide +kernel⟩
theorem ml_12_352 : MLv RX12 352 Y_X12_isText 1 := ⟨(gw_in 1500 (by decide +kernel) (by decide +kernel)), (gw_in 1502 (by decide +kernel) (by decide +kernel)), (gw_sel (n := 70) 72 (by decide +kernel) (by decide +kernel)), ok_X12_isText, by decide +kernel⟩
theorem fl_12_477 : FLk RX12 477 12 57 false := ⟨_, rfl, by decide, (gw_in 1173 (by decide +kernel) (by decide +kernel)), rfl⟩
theorem fl_12_416 : FLk RX12 416 12 53 false := ⟨_, rfl, by decide, (gw_in 1169 (by decide +kernel) (by decide +kernel)), rfl⟩
set_option maxRecDepth 30000 in
theorem ok_X12_offerAt : okY Y_X12_offerAt := ⟨(gw_in 1579 rfl rfl), (gw_in 14 (by decide +kernel) (by decide +kernel)), by decide +kernel, by decide +kernel⟩
theorem ml_12_425 : MLv RX12 425 Y_X12_offerAt 1 := ⟨(gw_in 1576 (by decide +kernel) (by decide +kernel)), (gw_in 1578 (by decide +kernel) (by decide +kernel)), (gw_sel (n := 70) 86 (by decide +kernel) (by decide +kernel)), ok_X12_offerAt, by decide +kernel⟩
set_option maxRecDepth 30000 in
theorem ok_X12_draw : okY Y_X12_draw := ⟨(gw_in 1686 rfl rfl), (gw_in 14 (by decide +kernel) (by decide +kernel)), by decide +kernel, by decide +kernel⟩
theorem ml_12_480 : MLv RX12 480 Y_X12_draw 1 := ⟨(gw_in 1683 (by decide +kernel) (by decide +kernel)), (gw_in 1685 (by decide +kernel) (by decide +kernel)), (gw_sel (n := 70) 103 (by decide +kernel) (by decide +kernel)), ok_X12_draw, by decide +kernel⟩
set_option maxRecDepth 30000 in
theorem ok_X12_drawsPly : okY Y_X12_drawsPly := ⟨(gw_in 1682 rfl rfl), (gw_in 14 (by decide +kernel) (by decide +kernel)), by decide +kernel, by decide +kernel⟩
theorem ml_12_483 : MLv RX12 483 Y_X12_drawsPly 0 := ⟨(gw_in 1679 (by decide +kernel) (by decide +kernel)), (gw_in 1681 (by decide +kernel) (by decide +kernel)), (gw_sel (n := 70) 102 (by decide +kernel) (by decide +kernel)), ok_X12_drawsPly, by decide +kernel⟩
theorem fl_12_20 : FLk RX12 20 12 7 false := ⟨_, rfl, by decide, (gw_in 1123 (by decide +kernel) (by decide +kernel)), rfl⟩
theorem fl_12_24 : FLk RX12 24 12 8 false := ⟨_, rfl, by decide, (gw_in 1124 (by decide +kernel) (by decide +kernel)), rfl⟩
theorem fl_12_16 : FLk RX12 16 12 5 true := ⟨_, rfl, by decide, (gw_in 1121 (by decide +kernel) (by decide +kernel)), rfl⟩
set_option maxRecDepth 30000 in
theorem ok_X12_put : okY Y_X12_put := ⟨(gw_in 1357 rfl rfl), (gw_in 14 (by decide +kernel) (by decide +kernel)), by decide +kernel, by decide +kernel⟩
theorem ml_12_165 : MLv RX12 165 Y_X12_put 1 := ⟨(gw_in 1354 (by decide +kernel) (by decide +kernel)), (gw_in 1356 (by decide +kernel) (by decide +kernel)), (gw_sel (n := 70) 48 (by decide +kernel) (by decide +kernel)), ok_X12_put, by decide +kernel⟩
set_option maxRecDepth 20000 in
theorem dk_X12_book : ∀ pc i, L_X12_book[pc]? = some (some i) → decode prog_14_method_45_code pc = .ok i := dk_of (by decide +kernel)
theorem s_X12_book {d : Nat} {P : Int32 → Mem → Prop} {r0 : Option Nat} {i1 : Int32} {M : Mem} (h : FQ (f_X12_book r0 i1 M) P) : Con Y_X12_book (d + 2) 0 0 [va_rf r0, .int i1] M (QI P) := by
  refine Con.of [some (va_rf r0), some (.int i1)] (by decide +kernel) dk_X12_book (by simp [Y_X12_book, cat_rf, cat_i, cat_l]) (by simp [loE, Y_X12_book, cat_rf, cat_i, cat_l, List.replicate]) ?_
  unfold f_X12_book at h
  refine r_aload_n rfl rfl ?_
  refine r_iload_n rfl rfl ?_
  refine r_cv_i (vs := [.int i1]) rfl ml_12_352 rfl (rOk.of rfl) ⟨Nat.zero_le _, Nat.zero_le _⟩ rfl rfl rfl h s_X12_isText (fun v1 M1 h => ?_)
  refine r_if_ne 10 rfl (by decide) h (fun h => ?_) (fun h => ?_)
  · refine r_iconst (v := 0) rfl (by decide) ?_
    exact r_zret rfl rfl ⟨Nat.le_of_ble_eq_true rfl, Nat.le_of_ble_eq_true rfl⟩ h
  · refine r_aload_n rfl rfl ?_
    refine r_getR rfl fl_12_7 rfl h (fun v2 h => ?_)
    refine r_iconst (v := 2) rfl (by decide) ?_
    refine r_iload_n rfl rfl ?_
    refine r_iast rfl h (fun M2 h => ?_)
    refine r_iconst (v := 1) rfl (by decide) ?_
    exact r_zret rfl rfl ⟨Nat.le_of_ble_eq_true rfl, Nat.le_of_ble_eq_true rfl⟩ h
set_option maxRecDepth 20000 in
theorem dk_X12_can : ∀ pc i, L_X12_can[pc]? = some (some i) → decode prog_14_method_63_code pc = .ok i := dk_of (by decide +kernel)
theorem s_X12_can {d : Nat} {P : Int32 → Mem → Prop} {r0 : Option Nat} {i1 : Int32} {i2 : Int32} {M : Mem} (h : FQ (f_X12_can r0 i1 i2 M) P) : Con Y_X12_can (d + 6) 0 0 [va_rf r0, .int i1, .int i2] M (QI P) := by
  refine Con.of [some (va_rf r0), some (.int i1), some (.int i2), none] (by decide +kernel) dk_X12_can (by simp [Y_X12_can, cat_rf, cat_i, cat_l]) (by simp [loE, Y_X12_can, cat_rf, cat_i, cat_l, List.replicate]) ?_
  unfold f_X12_can at h
  refine r_iload_n rfl rfl ?_
  refine r_cs_i (vs := [.int i1]) rfl ml_12_159 (rOk.of rfl) ⟨Nat.zero_le _, Nat.zero_le _⟩ rfl rfl rfl h s_X12_isMove (fun v1 M1 h => ?_)
  refine r_if_eq 16 rfl (by decide) h (fun h => ?_) (fun h => ?_)
  · refine r_iconst (v := -1) rfl (by decide) ?_
    exact r_iret rfl rfl ⟨Nat.le_of_ble_eq_true rfl, Nat.le_of_ble_eq_true rfl⟩ h
  · refine r_iload_n rfl rfl ?_
    refine r_iconst (v := 0) rfl (by decide) ?_
    refine r_iconst (v := 2) rfl (by decide) ?_
    refine r_cs_i (vs := [.int i2, .int (0 : Int32), .int (2 : Int32)]) rfl ml_12_151 (rOk.of rfl) ⟨Nat.zero_le _, Nat.zero_le _⟩ rfl rfl rfl h s_X12_in (fun v2 M2 h => ?_)
    refine r_if_ne 18 rfl (by decide) h (fun h => ?_) (fun h => ?_)
    · refine r_iconst (v := -1) rfl (by decide) ?_
      exact r_iret rfl rfl ⟨Nat.le_of_ble_eq_true rfl, Nat.le_of_ble_eq_true rfl⟩ h
    · refine r_aload_n rfl rfl ?_
      refine r_cv_v (vs := []) rfl ml_12_410 rfl (rOk.of rfl) ⟨Nat.zero_le _, Nat.zero_le _⟩ rfl rfl rfl h s_X12_laysNow (fun _ M3 h => ?_)
      refine r_aload_n rfl rfl ?_
      refine r_iload_n rfl rfl ?_
      refine r_cv_i (vs := [.int i1]) rfl ml_12_404 rfl (rOk.of rfl) ⟨Nat.zero_le _, Nat.zero_le _⟩ rfl rfl rfl h s_X12_canDo (fun v3 M4 h => ?_)
      refine r_istore_n (lo' := [some (va_rf r0), some (.int i1), some (.int i2), some (.int v3)]) rfl rfl rfl rfl ?_
      refine r_iload_n rfl rfl ?_
      refine r_if_ne 36 rfl (by decide) h (fun h => ?_) (fun h => ?_)
      · refine r_iconst (v := -1) rfl (by decide) ?_
        refine r_goto 63 rfl (by decide) ?_
        exact r_iret rfl rfl ⟨Nat.le_of_ble_eq_true rfl, Nat.le_of_ble_eq_true rfl⟩ h
      · refine r_iload_n rfl rfl ?_
        refine r_if_ne 47 rfl (by decide) h (fun h => ?_) (fun h => ?_)
        · refine r_aload_n rfl rfl ?_
          refine r_getI rfl fl_12_381 rfl h (fun v4 h => ?_)
          refine r_goto 63 rfl (by decide) ?_
          exact r_iret rfl rfl ⟨Nat.le_of_ble_eq_true rfl, Nat.le_of_ble_eq_true rfl⟩ h
        · refine r_iload_n rfl rfl ?_
          refine r_iconst (v := 1) rfl (by decide) ?_
          refine r_ic_ne 59 rfl (by decide) h (fun h => ?_) (fun h => ?_)
          · refine r_aload_n rfl rfl ?_
            refine r_getI rfl fl_12_384 rfl h (fun v5 h => ?_)
            refine r_goto 63 rfl (by decide) ?_
            exact r_iret rfl rfl ⟨Nat.le_of_ble_eq_true rfl, Nat.le_of_ble_eq_true rfl⟩ h
          · refine r_aload_n rfl rfl ?_
            refine r_getI rfl fl_12_398 rfl h (fun v6 h => ?_)
            exact r_iret rfl rfl ⟨Nat.le_of_ble_eq_true rfl, Nat.le_of_ble_eq_true rfl⟩ h
set_option maxRecDepth 20000 in
theorem dk_X12_draw : ∀ pc i, L_X12_draw[pc]? = some (some i) → decode prog_14_method_86_code pc = .ok i := dk_of (by decide +kernel)
theorem s_X12_draw {d : Nat} {P : Int32 → Mem → Prop} {r0 : Option Nat} {i1 : Int32} {M : Mem} (h : FQ (f_X12_draw r0 i1 M) P) : Con Y_X12_draw d 0 0 [va_rf r0, .int i1] M (QI P) := by
  refine Con.of [some (va_rf r0), some (.int i1), none] (by decide +kernel) dk_X12_draw (by simp [Y_X12_draw, cat_rf, cat_i, cat_l]) (by simp [loE, Y_X12_draw, cat_rf, cat_i, cat_l, List.replicate]) ?_
  unfold f_X12_draw at h
  refine r_aload_n rfl rfl ?_
  refine r_getI rfl fl_12_477 rfl h (fun v1 h => ?_)
  refine r_iload_n rfl rfl ?_
  refine r_irem rfl h (fun h => ?_)
  refine r_istore_n (lo' := [some (va_rf r0), some (.int i1), some (.int (v1 - v1 / i1 * i1))]) rfl rfl rfl rfl ?_
  refine r_aload_n rfl rfl ?_
  refine r_aload_n rfl rfl ?_
  refine r_getI rfl fl_12_477 rfl h (fun v2 h => ?_)
  refine r_sipush (v := 157) rfl (by decide) ?_
  refine r_imul rfl ?_
  refine r_bipush (v := 53) rfl (by decide) ?_
  refine r_iadd rfl ?_
  refine r_sipush (v := 30113) rfl (by decide) ?_
  refine r_irem rfl h (fun h => ?_)
  refine r_putI rfl fl_12_477 (fun z => by cases z) rfl h (fun M1 h => ?_)
  refine r_iload_n rfl rfl ?_
  exact r_iret rfl rfl ⟨Nat.le_of_ble_eq_true rfl, Nat.le_of_ble_eq_true rfl⟩ h
set_option maxRecDepth 20000 in
theorem dk_X12_offerAt : ∀ pc i, L_X12_offerAt[pc]? = some (some i) → decode prog_14_method_66_code pc = .ok i := dk_of (by decide +kernel)
theorem sb_X12_offerAt_9 {d : Nat} {P : Int32 → Mem → Prop} {q9 : Option Nat → Int32 → Int32 → Int32 → Mem → Option (Int32 × Mem)} (hq9 : ∀ (r0 : Option Nat) (i1 : Int32) (i2 : Int32) (i3 : Int32) (M : Mem), FQ (q9 r0 i1 i2 i3 M) P → wp Y_X12_offerAt (rmD (d + 4) 0 0) (FM (QI P) 0 0) 0 0 9 [some (va_rf r0), some (.int i1), some (.int i2), some (.int i3)] [] M) (r0 : Option Nat) (i1 : Int32) (i2 : Int32) (i3 : Int32) (M : Mem) (h : FQ (b_X12_offerAt_9 q9 r0 i1 i2 i3 M) P) : wp Y_X12_offerAt (rmD (d + 4) 0 0) (FM (QI P) 0 0) 0 0 9 [some (va_rf r0), some (.int i1), some (.int i2), some (.int i3)] [] M := by
  unfold b_X12_offerAt_9 at h
  refine r_iload_n rfl rfl ?_
  refine r_sipush (v := 512) rfl (by decide) ?_
  refine r_ic_ge 90 rfl (by decide) h (fun h => ?_) (fun h => ?_)
  · refine r_iload_n rfl rfl ?_
    exact r_iret rfl rfl ⟨Nat.le_of_ble_eq_true rfl, Nat.le_of_ble_eq_true rfl⟩ h
  · refine r_aload_n rfl rfl ?_
    refine r_iload_n rfl rfl ?_
    refine r_bipush (v := 64) rfl (by decide) ?_
    refine r_idiv rfl h (fun h => ?_)
    refine r_iload_n rfl rfl ?_
    refine r_bipush (v := 8) rfl (by decide) ?_
    refine r_idiv rfl h (fun h => ?_)
    refine r_bipush (v := 8) rfl (by decide) ?_
    refine r_irem rfl h (fun h => ?_)
    refine r_iload_n rfl rfl ?_
    refine r_bipush (v := 8) rfl (by decide) ?_
    refine r_irem rfl h (fun h => ?_)
    refine r_cv_i (vs := [.int (i3 / (64 : Int32)), .int ((i3 / (8 : Int32)) - (i3 / (8 : Int32)) / (8 : Int32) * (8 : Int32)), .int (i3 - i3 / (8 : Int32) * (8 : Int32))]) rfl ml_12_419 rfl (rOk.of rfl) ⟨Nat.zero_le _, Nat.zero_le _⟩ rfl rfl rfl h s_X12_isOffer (fun v1 M1 h => ?_)
    refine r_if_eq 84 rfl (by decide) h (fun h => ?_) (fun h => ?_)
    · refine r_iinc (v := 1) (lo' := [some (va_rf r0), some (.int i1), some (.int i2), some (.int (i3 + (1 : Int32)))]) rfl rfl rfl (by decide) rfl rfl ?_
      refine r_goto 9 rfl (by decide) ?_
      exact hq9 _ _ _ _ _ h
    · refine r_aload_n rfl rfl ?_
      refine r_getI rfl fl_12_416 rfl h (fun v2 h => ?_)
      refine r_iload_n rfl rfl ?_
      refine r_ic_ne 72 rfl (by decide) h (fun h => ?_) (fun h => ?_)
      · refine r_bipush (v := 100) rfl (by decide) ?_
        refine r_iload_n rfl rfl ?_
        refine r_bipush (v := 64) rfl (by decide) ?_
        refine r_idiv rfl h (fun h => ?_)
        refine r_imul rfl ?_
        refine r_bipush (v := 10) rfl (by decide) ?_
        refine r_iload_n rfl rfl ?_
        refine r_bipush (v := 8) rfl (by decide) ?_
        refine r_idiv rfl h (fun h => ?_)
        refine r_bipush (v := 8) rfl (by decide) ?_
        refine r_irem rfl h (fun h => ?_)
        refine r_imul rfl ?_
        refine r_iadd rfl ?_
        refine r_iload_n rfl rfl ?_
        refine r_bipush (v := 8) rfl (by decide) ?_
        refine r_irem rfl h (fun h => ?_)
        refine r_iadd rfl ?_
        refine r_goto 73 rfl (by decide) ?_
        refine r_istore_n (lo' := [some (va_rf r0), some (.int i1), some (.int ((((100 : Int32) * (i3 / (64 : Int32))) + ((10 : Int32) * ((i3 / (8 : Int32)) - (i3 / (8 : Int32)) / (8 : Int32) * (8 : Int32)))) + (i3 - i3 / (8 : Int32) * (8 : Int32)))), some (.int i3)]) rfl rfl rfl rfl ?_
        refine r_aload_n rfl rfl ?_
        refine r_dup rfl (cat_rf _) ?_
        refine r_getI rfl fl_12_416 rfl h (fun v3 h => ?_)
        refine r_iconst (v := 1) rfl (by decide) ?_
        refine r_iadd rfl ?_
        refine r_putI rfl fl_12_416 (fun z => by cases z) rfl h (fun M2 h => ?_)
        refine r_iinc (v := 1) (lo' := [some (va_rf r0), some (.int i1), some (.int ((((100 : Int32) * (i3 / (64 : Int32))) + ((10 : Int32) * ((i3 / (8 : Int32)) - (i3 / (8 : Int32)) / (8 : Int32) * (8 : Int32)))) + (i3 - i3 / (8 : Int32) * (8 : Int32)))), some (.int (i3 + (1 : Int32)))]) rfl rfl rfl (by decide) rfl rfl ?_
        refine r_goto 9 rfl (by decide) ?_
        exact hq9 _ _ _ _ _ h
      · refine r_iload_n rfl rfl ?_
        refine r_istore_n (lo' := [some (va_rf r0), some (.int i1), some (.int i2), some (.int i3)]) rfl rfl rfl rfl ?_
        refine r_aload_n rfl rfl ?_
        refine r_dup rfl (cat_rf _) ?_
        refine r_getI rfl fl_12_416 rfl h (fun v4 h => ?_)
        refine r_iconst (v := 1) rfl (by decide) ?_
        refine r_iadd rfl ?_
        refine r_putI rfl fl_12_416 (fun z => by cases z) rfl h (fun M3 h => ?_)
        refine r_iinc (v := 1) (lo' := [some (va_rf r0), some (.int i1), some (.int i2), some (.int (i3 + (1 : Int32)))]) rfl rfl rfl (by decide) rfl rfl ?_
        refine r_goto 9 rfl (by decide) ?_
        exact hq9 _ _ _ _ _ h
theorem s_X12_offerAt_9 {d : Nat} {P : Int32 → Mem → Prop}   : ∀ (k : Nat) (r0 : Option Nat) (i1 : Int32) (i2 : Int32) (i3 : Int32) (M : Mem), FQ (f_X12_offerAt_9  k r0 i1 i2 i3 M) P → wp Y_X12_offerAt (rmD (d + 4) 0 0) (FM (QI P) 0 0) 0 0 9 [some (va_rf r0), some (.int i1), some (.int i2), some (.int i3)] [] M
  | 0, _, _, _, _, _, h => h.no
  | k + 1, r0, i1, i2, i3, M, h => sb_X12_offerAt_9  (s_X12_offerAt_9  k) r0 i1 i2 i3 M h
theorem s_X12_offerAt {d : Nat} {P : Int32 → Mem → Prop} {r0 : Option Nat} {i1 : Int32} {M : Mem} (h : FQ (f_X12_offerAt r0 i1 M) P) : Con Y_X12_offerAt (d + 4) 0 0 [va_rf r0, .int i1] M (QI P) := by
  refine Con.of [some (va_rf r0), some (.int i1), none, none] (by decide +kernel) dk_X12_offerAt (by simp [Y_X12_offerAt, cat_rf, cat_i, cat_l]) (by simp [loE, Y_X12_offerAt, cat_rf, cat_i, cat_l, List.replicate]) ?_
  unfold f_X12_offerAt at h
  refine r_iconst (v := -1) rfl (by decide) ?_
  refine r_istore_n (lo' := [some (va_rf r0), some (.int i1), some (.int (-1 : Int32)), none]) rfl rfl rfl rfl ?_
  refine r_aload_n rfl rfl ?_
  refine r_iconst (v := 0) rfl (by decide) ?_
  refine r_putI rfl fl_12_416 (fun z => by cases z) rfl h (fun M1 h => ?_)
  refine r_iconst (v := 0) rfl (by decide) ?_
  refine r_istore_n (lo' := [some (va_rf r0), some (.int i1), some (.int (-1 : Int32)), some (.int (0 : Int32))]) rfl rfl rfl rfl ?_
  exact s_X12_offerAt_9 FU _ _ _ _ _ h
set_option maxRecDepth 20000 in
theorem dk_X12_drawsPly : ∀ pc i, L_X12_drawsPly[pc]? = some (some i) → decode prog_14_method_87_code pc = .ok i := dk_of (by decide +kernel)
theorem s_X12_drawsPly_92 {d : Nat} {P : Unit → Mem → Prop}   (i4 : Int32) (i5 : Int32) (i6 : Int32) (i7 : Int32) (sr0 : Option Nat) (si1 : Int32) (M : Mem) (h : FQ (f_X12_drawsPly_92  i4 i5 i6 i7 sr0 si1 M) P) : wp Y_X12_drawsPly (rmD (d + 5) 0 0) (FM (QV P) 0 0) 0 0 92 [none, none, none, none, some (.int i4), some (.int i5), some (.int i6), some (.int i7)] [.int si1, va_rf sr0] M := by
  unfold f_X12_drawsPly_92 at h
  refine r_iload rfl rfl ?_
  refine r_if_ne 102 rfl (by decide) h (fun h => ?_) (fun h => ?_)
  · refine r_iload rfl rfl ?_
    refine r_goto 115 rfl (by decide) ?_
    refine r_cv_v (vs := [.int si1, .int i5]) rfl ml_12_436 rfl (rOk.of rfl) ⟨Nat.zero_le _, Nat.zero_le _⟩ rfl rfl rfl h s_X12_plays (fun _ M1 h => ?_)
    exact r_vret rfl rfl ⟨Nat.le_of_ble_eq_true rfl, Nat.le_of_ble_eq_true rfl⟩ h
  · refine r_iload rfl rfl ?_
    refine r_iconst (v := 1) rfl (by decide) ?_
    refine r_ic_ne 113 rfl (by decide) h (fun h => ?_) (fun h => ?_)
    · refine r_iload rfl rfl ?_
      refine r_goto 115 rfl (by decide) ?_
      refine r_cv_v (vs := [.int si1, .int i6]) rfl ml_12_436 rfl (rOk.of rfl) ⟨Nat.zero_le _, Nat.zero_le _⟩ rfl rfl rfl h s_X12_plays (fun _ M2 h => ?_)
      exact r_vret rfl rfl ⟨Nat.le_of_ble_eq_true rfl, Nat.le_of_ble_eq_true rfl⟩ h
    · refine r_iload rfl rfl ?_
      refine r_cv_v (vs := [.int si1, .int i7]) rfl ml_12_436 rfl (rOk.of rfl) ⟨Nat.zero_le _, Nat.zero_le _⟩ rfl rfl rfl h s_X12_plays (fun _ M3 h => ?_)
      exact r_vret rfl rfl ⟨Nat.le_of_ble_eq_true rfl, Nat.le_of_ble_eq_true rfl⟩ h
theorem s_X12_drawsPly_47 {d : Nat} {P : Unit → Mem → Prop}   (r0 : Option Nat) (i2 : Int32) (i3 : Int32) (si0 : Int32) (M : Mem) (h : FQ (f_X12_drawsPly_47  r0 i2 i3 si0 M) P) : wp Y_X12_drawsPly (rmD (d + 5) 0 0) (FM (QV P) 0 0) 0 0 47 [some (va_rf r0), none, some (.int i2), some (.int i3), none, none, none, none] [.int si0] M := by
  unfold f_X12_drawsPly_47 at h
  refine r_istore (lo' := [some (va_rf r0), none, some (.int i2), some (.int i3), some (.int si0), none, none, none]) rfl rfl rfl rfl ?_
  refine r_iload_n rfl rfl ?_
  refine r_bipush (v := 100) rfl (by decide) ?_
  refine r_idiv rfl h (fun h => ?_)
  refine r_istore (lo' := [some (va_rf r0), none, some (.int i2), some (.int i3), some (.int si0), some (.int (i2 / (100 : Int32))), none, none]) rfl rfl rfl rfl ?_
  refine r_iload_n rfl rfl ?_
  refine r_bipush (v := 10) rfl (by decide) ?_
  refine r_idiv rfl h (fun h => ?_)
  refine r_bipush (v := 10) rfl (by decide) ?_
  refine r_irem rfl h (fun h => ?_)
  refine r_istore (lo' := [some (va_rf r0), none, some (.int i2), some (.int i3), some (.int si0), some (.int (i2 / (100 : Int32))), some (.int ((i2 / (10 : Int32)) - (i2 / (10 : Int32)) / (10 : Int32) * (10 : Int32))), none]) rfl rfl rfl rfl ?_
  refine r_iload_n rfl rfl ?_
  refine r_bipush (v := 10) rfl (by decide) ?_
  refine r_irem rfl h (fun h => ?_)
  refine r_istore (lo' := [some (va_rf r0), none, some (.int i2), some (.int i3), some (.int si0), some (.int (i2 / (100 : Int32))), some (.int ((i2 / (10 : Int32)) - (i2 / (10 : Int32)) / (10 : Int32) * (10 : Int32))), some (.int (i2 - i2 / (10 : Int32) * (10 : Int32)))]) rfl rfl rfl rfl ?_
  refine r_aload_n rfl rfl ?_
  refine r_iload_n rfl rfl ?_
  refine r_if_ne 80 rfl (by decide) h (fun h => ?_) (fun h => ?_)
  · refine r_iload rfl rfl ?_
    refine r_goto 92 rfl (by decide) ?_
    refine r_msk [false, true, false, false, true, true, true, true] rfl ?_
    exact s_X12_drawsPly_92 _ _ _ _ _ _ _ h
  · refine r_iload_n rfl rfl ?_
    refine r_iconst (v := 1) rfl (by decide) ?_
    refine r_ic_ne 90 rfl (by decide) h (fun h => ?_) (fun h => ?_)
    · refine r_iload rfl rfl ?_
      refine r_goto 92 rfl (by decide) ?_
      refine r_msk [false, true, false, false, true, true, true, true] rfl ?_
      exact s_X12_drawsPly_92 _ _ _ _ _ _ _ h
    · refine r_iload rfl rfl ?_
      refine r_msk [false, true, false, false, true, true, true, true] rfl ?_
      exact s_X12_drawsPly_92 _ _ _ _ _ _ _ h
theorem s_X12_drawsPly {d : Nat} {P : Unit → Mem → Prop} {r0 : Option Nat} {M : Mem} (h : FQ (f_X12_drawsPly r0 M) P) : Con Y_X12_drawsPly (d + 5) 0 0 [va_rf r0] M (QV P) := by
  refine Con.of [some (va_rf r0), none, none, none, none, none, none, none] (by decide +kernel) dk_X12_drawsPly (by simp [Y_X12_drawsPly, cat_rf, cat_i, cat_l]) (by simp [loE, Y_X12_drawsPly, cat_rf, cat_i, cat_l, List.replicate]) ?_
  unfold f_X12_drawsPly at h
  refine r_aload_n rfl rfl ?_
  refine r_iconst (v := -1) rfl (by decide) ?_
  refine r_cv_i (vs := [.int (-1 : Int32)]) rfl ml_12_425 rfl (rOk.of rfl) ⟨Nat.zero_le _, Nat.zero_le _⟩ rfl rfl rfl h s_X12_offerAt (fun v1 M1 h => ?_)
  refine r_istore_n (lo' := [some (va_rf r0), some (.int v1), none, none, none, none, none, none]) rfl rfl (by simp [stOk, cat_rf]) rfl ?_
  refine r_aload_n rfl rfl ?_
  refine r_aload_n rfl rfl ?_
  refine r_aload_n rfl rfl ?_
  refine r_getI rfl fl_12_416 rfl h (fun v2 h => ?_)
  refine r_cv_i (vs := [.int v2]) rfl ml_12_480 rfl (rOk.of rfl) ⟨Nat.zero_le _, Nat.zero_le _⟩ rfl rfl rfl h s_X12_draw (fun v3 M2 h => ?_)
  refine r_cv_i (vs := [.int v3]) rfl ml_12_425 rfl (rOk.of rfl) ⟨Nat.zero_le _, Nat.zero_le _⟩ rfl rfl rfl h s_X12_offerAt (fun v4 M3 h => ?_)
  refine r_istore_n (lo' := [some (va_rf r0), some (.int v1), some (.int v4), none, none, none, none, none]) rfl rfl rfl rfl ?_
  refine r_aload_n rfl rfl ?_
  refine r_iconst (v := 3) rfl (by decide) ?_
  refine r_cv_i (vs := [.int (3 : Int32)]) rfl ml_12_480 rfl (rOk.of rfl) ⟨Nat.zero_le _, Nat.zero_le _⟩ rfl rfl rfl h s_X12_draw (fun v5 M4 h => ?_)
  refine r_istore_n (lo' := [some (va_rf r0), some (.int v1), some (.int v4), some (.int v5), none, none, none, none]) rfl rfl rfl rfl ?_
  refine r_aload_n rfl rfl ?_
  refine r_iconst (v := 2) rfl (by decide) ?_
  refine r_cv_i (vs := [.int (2 : Int32)]) rfl ml_12_480 rfl (rOk.of rfl) ⟨Nat.zero_le _, Nat.zero_le _⟩ rfl rfl rfl h s_X12_draw (fun v6 M5 h => ?_)
  refine r_istore (lo' := [some (va_rf r0), some (.int v1), some (.int v4), some (.int v5), some (.int v6), none, none, none]) rfl rfl rfl rfl ?_
  refine r_iload rfl rfl ?_
  refine r_iload_n rfl rfl ?_
  refine r_ic_lt 45 rfl (by decide) h (fun h => ?_) (fun h => ?_)
  · refine r_iload rfl rfl ?_
    refine r_msk [true, false, true, true, false, true, true, true] rfl ?_
    exact s_X12_drawsPly_47 _ _ _ _ _ h
  · refine r_iload rfl rfl ?_
    refine r_iconst (v := 1) rfl (by decide) ?_
    refine r_iadd rfl ?_
    refine r_goto 47 rfl (by decide) ?_
    refine r_msk [true, false, true, true, false, true, true, true] rfl ?_
    exact s_X12_drawsPly_47 _ _ _ _ _ h
set_option maxRecDepth 20000 in
theorem dk_X12_drawn : ∀ pc i, L_X12_drawn[pc]? = some (some i) → decode prog_14_method_88_code pc = .ok i := dk_of (by decide +kernel)
theorem s_X12_drawn_94 {d : Nat} {P : Int32 → Mem → Prop} {q49 : Option Nat → Int32 → Int32 → Int32 → Int32 → Mem → Option (Int32 × Mem)} (hq49 : ∀ (r0 : Option Nat) (i2 : Int32) (i3 : Int32) (i4 : Int32) (i5 : Int32) (M : Mem), FQ (q49 r0 i2 i3 i4 i5 M) P → wp Y_X12_drawn (rmD (d + 7) 0 0) (FM (QI P) 0 0) 0 0 49 [some (va_rf r0), none, some (.int i2), some (.int i3), some (.int i4), some (.int i5), none] [] M) (r0 : Option Nat) (i2 : Int32) (i3 : Int32) (i4 : Int32) (i5 : Int32) (M : Mem) (h : FQ (f_X12_drawn_94 q49 r0 i2 i3 i4 i5 M) P) : wp Y_X12_drawn (rmD (d + 7) 0 0) (FM (QI P) 0 0) 0 0 94 [some (va_rf r0), none, some (.int i2), some (.int i3), some (.int i4), some (.int i5), none] [] M := by
  unfold f_X12_drawn_94 at h
  refine r_iload rfl rfl ?_
  refine r_aload_n rfl rfl ?_
  refine r_cv_i (vs := []) rfl ml_12_455 rfl (rOk.of rfl) ⟨Nat.zero_le _, Nat.zero_le _⟩ rfl rfl rfl h s_X12_isOver (fun v1 M1 h => ?_)
  refine r_if_eq 115 rfl (by decide) h (fun h => ?_) (fun h => ?_)
  · refine r_iconst (v := 0) rfl (by decide) ?_
    refine r_iadd rfl ?_
    refine r_istore (lo' := [some (va_rf r0), none, some (.int i2), some (.int i3), some (.int (i4 + (0 : Int32))), some (.int i5), none]) rfl rfl rfl rfl ?_
    refine r_iinc (v := 1) (lo' := [some (va_rf r0), none, some (.int i2), some (.int i3), some (.int (i4 + (0 : Int32))), some (.int (i5 + (1 : Int32))), none]) rfl rfl rfl (by decide) rfl rfl ?_
    refine r_goto 49 rfl (by decide) ?_
    exact hq49 _ _ _ _ _ _ h
  · refine r_aload_n rfl rfl ?_
    refine r_getI rfl fl_12_355 rfl h (fun v2 h => ?_)
    refine r_iload_n rfl rfl ?_
    refine r_ic_ne 115 rfl (by decide) h (fun h => ?_) (fun h => ?_)
    · refine r_iconst (v := 1) rfl (by decide) ?_
      refine r_goto 116 rfl (by decide) ?_
      refine r_iadd rfl ?_
      refine r_istore (lo' := [some (va_rf r0), none, some (.int i2), some (.int i3), some (.int (i4 + (1 : Int32))), some (.int i5), none]) rfl rfl rfl rfl ?_
      refine r_iinc (v := 1) (lo' := [some (va_rf r0), none, some (.int i2), some (.int i3), some (.int (i4 + (1 : Int32))), some (.int (i5 + (1 : Int32))), none]) rfl rfl rfl (by decide) rfl rfl ?_
      refine r_goto 49 rfl (by decide) ?_
      exact hq49 _ _ _ _ _ _ h
    · refine r_iconst (v := 0) rfl (by decide) ?_
      refine r_iadd rfl ?_
      refine r_istore (lo' := [some (va_rf r0), none, some (.int i2), some (.int i3), some (.int (i4 + (0 : Int32))), some (.int i5), none]) rfl rfl rfl rfl ?_
      refine r_iinc (v := 1) (lo' := [some (va_rf r0), none, some (.int i2), some (.int i3), some (.int (i4 + (0 : Int32))), some (.int (i5 + (1 : Int32))), none]) rfl rfl rfl (by decide) rfl rfl ?_
      refine r_goto 49 rfl (by decide) ?_
      exact hq49 _ _ _ _ _ _ h
theorem sb_X12_drawn_66 {d : Nat} {P : Int32 → Mem → Prop} {q49 : Option Nat → Int32 → Int32 → Int32 → Int32 → Mem → Option (Int32 × Mem)} {q66 : Option Nat → Int32 → Int32 → Int32 → Int32 → Int32 → Mem → Option (Int32 × Mem)} (hq49 : ∀ (r0 : Option Nat) (i2 : Int32) (i3 : Int32) (i4 : Int32) (i5 : Int32) (M : Mem), FQ (q49 r0 i2 i3 i4 i5 M) P → wp Y_X12_drawn (rmD (d + 7) 0 0) (FM (QI P) 0 0) 0 0 49 [some (va_rf r0), none, some (.int i2), some (.int i3), some (.int i4), some (.int i5), none] [] M) (hq66 : ∀ (r0 : Option Nat) (i2 : Int32) (i3 : Int32) (i4 : Int32) (i5 : Int32) (i6 : Int32) (M : Mem), FQ (q66 r0 i2 i3 i4 i5 i6 M) P → wp Y_X12_drawn (rmD (d + 7) 0 0) (FM (QI P) 0 0) 0 0 66 [some (va_rf r0), none, some (.int i2), some (.int i3), some (.int i4), some (.int i5), some (.int i6)] [] M) (r0 : Option Nat) (i2 : Int32) (i3 : Int32) (i4 : Int32) (i5 : Int32) (i6 : Int32) (M : Mem) (h : FQ (b_X12_drawn_66 q49 q66 r0 i2 i3 i4 i5 i6 M) P) : wp Y_X12_drawn (rmD (d + 7) 0 0) (FM (QI P) 0 0) 0 0 66 [some (va_rf r0), none, some (.int i2), some (.int i3), some (.int i4), some (.int i5), some (.int i6)] [] M := by
  unfold b_X12_drawn_66 at h
  refine r_iload rfl rfl ?_
  refine r_bipush (v := 30) rfl (by decide) ?_
  refine r_ic_ge 94 rfl (by decide) h (fun h => ?_) (fun h => ?_)
  · refine r_msk [true, true, true, true, true, true, false] rfl ?_
    exact s_X12_drawn_94 hq49 _ _ _ _ _ _ h
  · refine r_aload_n rfl rfl ?_
    refine r_cv_i (vs := []) rfl ml_12_455 rfl (rOk.of rfl) ⟨Nat.zero_le _, Nat.zero_le _⟩ rfl rfl rfl h s_X12_isOver (fun v1 M1 h => ?_)
    refine r_if_ne 94 rfl (by decide) h (fun h => ?_) (fun h => ?_)
    · refine r_aload_n rfl rfl ?_
      refine r_cv_v (vs := []) rfl ml_12_483 rfl (rOk.of rfl) ⟨Nat.zero_le _, Nat.zero_le _⟩ rfl rfl rfl h s_X12_drawsPly (fun _ M2 h => ?_)
      refine r_aload_n rfl rfl ?_
      refine r_cv_v (vs := []) rfl ml_12_422 rfl (rOk.of rfl) ⟨Nat.zero_le _, Nat.zero_le _⟩ rfl rfl rfl h s_X12_laysMoves (fun _ M3 h => ?_)
      refine r_iinc (v := 1) (lo' := [some (va_rf r0), none, some (.int i2), some (.int i3), some (.int i4), some (.int i5), some (.int (i6 + (1 : Int32)))]) rfl rfl rfl (by decide) rfl rfl ?_
      refine r_goto 66 rfl (by decide) ?_
      exact hq66 _ _ _ _ _ _ _ h
    · refine r_msk [true, true, true, true, true, true, false] rfl ?_
      exact s_X12_drawn_94 hq49 _ _ _ _ _ _ h
theorem s_X12_drawn_66 {d : Nat} {P : Int32 → Mem → Prop} {q49 : Option Nat → Int32 → Int32 → Int32 → Int32 → Mem → Option (Int32 × Mem)} (hq49 : ∀ (r0 : Option Nat) (i2 : Int32) (i3 : Int32) (i4 : Int32) (i5 : Int32) (M : Mem), FQ (q49 r0 i2 i3 i4 i5 M) P → wp Y_X12_drawn (rmD (d + 7) 0 0) (FM (QI P) 0 0) 0 0 49 [some (va_rf r0), none, some (.int i2), some (.int i3), some (.int i4), some (.int i5), none] [] M) : ∀ (k : Nat) (r0 : Option Nat) (i2 : Int32) (i3 : Int32) (i4 : Int32) (i5 : Int32) (i6 : Int32) (M : Mem), FQ (f_X12_drawn_66 q49 k r0 i2 i3 i4 i5 i6 M) P → wp Y_X12_drawn (rmD (d + 7) 0 0) (FM (QI P) 0 0) 0 0 66 [some (va_rf r0), none, some (.int i2), some (.int i3), some (.int i4), some (.int i5), some (.int i6)] [] M
  | 0, _, _, _, _, _, _, _, h => h.no
  | k + 1, r0, i2, i3, i4, i5, i6, M, h => sb_X12_drawn_66 hq49 (s_X12_drawn_66 hq49 k) r0 i2 i3 i4 i5 i6 M h
theorem sb_X12_drawn_49 {d : Nat} {P : Int32 → Mem → Prop} {q49 : Option Nat → Int32 → Int32 → Int32 → Int32 → Mem → Option (Int32 × Mem)} (hq49 : ∀ (r0 : Option Nat) (i2 : Int32) (i3 : Int32) (i4 : Int32) (i5 : Int32) (M : Mem), FQ (q49 r0 i2 i3 i4 i5 M) P → wp Y_X12_drawn (rmD (d + 7) 0 0) (FM (QI P) 0 0) 0 0 49 [some (va_rf r0), none, some (.int i2), some (.int i3), some (.int i4), some (.int i5), none] [] M) (r0 : Option Nat) (i2 : Int32) (i3 : Int32) (i4 : Int32) (i5 : Int32) (M : Mem) (h : FQ (b_X12_drawn_49 q49 r0 i2 i3 i4 i5 M) P) : wp Y_X12_drawn (rmD (d + 7) 0 0) (FM (QI P) 0 0) 0 0 49 [some (va_rf r0), none, some (.int i2), some (.int i3), some (.int i4), some (.int i5), none] [] M := by
  unfold b_X12_drawn_49 at h
  refine r_iload rfl rfl ?_
  refine r_iload_n rfl rfl ?_
  refine r_ic_ge 125 rfl (by decide) h (fun h => ?_) (fun h => ?_)
  · refine r_iload rfl rfl ?_
    exact r_iret rfl rfl ⟨Nat.le_of_ble_eq_true rfl, Nat.le_of_ble_eq_true rfl⟩ h
  · refine r_aload_n rfl rfl ?_
    refine r_cv_v (vs := []) rfl ml_12_410 rfl (rOk.of rfl) ⟨Nat.zero_le _, Nat.zero_le _⟩ rfl rfl rfl h s_X12_laysNow (fun _ M1 h => ?_)
    refine r_aload_n rfl rfl ?_
    refine r_cv_v (vs := []) rfl ml_12_422 rfl (rOk.of rfl) ⟨Nat.zero_le _, Nat.zero_le _⟩ rfl rfl rfl h s_X12_laysMoves (fun _ M2 h => ?_)
    refine r_iconst (v := 0) rfl (by decide) ?_
    refine r_istore (lo' := [some (va_rf r0), none, some (.int i2), some (.int i3), some (.int i4), some (.int i5), some (.int (0 : Int32))]) rfl rfl rfl rfl ?_
    exact s_X12_drawn_66 hq49 FU _ _ _ _ _ _ _ h
theorem s_X12_drawn_49 {d : Nat} {P : Int32 → Mem → Prop}   : ∀ (k : Nat) (r0 : Option Nat) (i2 : Int32) (i3 : Int32) (i4 : Int32) (i5 : Int32) (M : Mem), FQ (f_X12_drawn_49  k r0 i2 i3 i4 i5 M) P → wp Y_X12_drawn (rmD (d + 7) 0 0) (FM (QI P) 0 0) 0 0 49 [some (va_rf r0), none, some (.int i2), some (.int i3), some (.int i4), some (.int i5), none] [] M
  | 0, _, _, _, _, _, _, h => h.no
  | k + 1, r0, i2, i3, i4, i5, M, h => sb_X12_drawn_49  (s_X12_drawn_49  k) r0 i2 i3 i4 i5 M h
theorem s_X12_drawn {d : Nat} {P : Int32 → Mem → Prop} {r0 : Option Nat} {i1 : Int32} {i2 : Int32} {i3 : Int32} {M : Mem} (h : FQ (f_X12_drawn r0 i1 i2 i3 M) P) : Con Y_X12_drawn (d + 7) 0 0 [va_rf r0, .int i1, .int i2, .int i3] M (QI P) := by
  refine Con.of [some (va_rf r0), some (.int i1), some (.int i2), some (.int i3), none, none, none] (by decide +kernel) dk_X12_drawn (by simp [Y_X12_drawn, cat_rf, cat_i, cat_l]) (by simp [loE, Y_X12_drawn, cat_rf, cat_i, cat_l, List.replicate]) ?_
  unfold f_X12_drawn at h
  refine r_iload_n rfl rfl ?_
  refine r_iconst (v := 0) rfl (by decide) ?_
  refine r_sipush (v := 9999) rfl (by decide) ?_
  refine r_cs_i (vs := [.int i1, .int (0 : Int32), .int (9999 : Int32)]) rfl ml_12_151 (rOk.of rfl) ⟨Nat.zero_le _, Nat.zero_le _⟩ rfl rfl rfl h s_X12_in (fun v1 M1 h => ?_)
  refine r_if_eq 30 rfl (by decide) h (fun h => ?_) (fun h => ?_)
  · refine r_iconst (v := -1) rfl (by decide) ?_
    exact r_iret rfl rfl ⟨Nat.le_of_ble_eq_true rfl, Nat.le_of_ble_eq_true rfl⟩ h
  · refine r_iload_n rfl rfl ?_
    refine r_iconst (v := 1) rfl (by decide) ?_
    refine r_bipush (v := 20) rfl (by decide) ?_
    refine r_cs_i (vs := [.int i2, .int (1 : Int32), .int (20 : Int32)]) rfl ml_12_151 (rOk.of rfl) ⟨Nat.zero_le _, Nat.zero_le _⟩ rfl rfl rfl h s_X12_in (fun v2 M2 h => ?_)
    refine r_if_eq 30 rfl (by decide) h (fun h => ?_) (fun h => ?_)
    · refine r_iconst (v := -1) rfl (by decide) ?_
      exact r_iret rfl rfl ⟨Nat.le_of_ble_eq_true rfl, Nat.le_of_ble_eq_true rfl⟩ h
    · refine r_iload_n rfl rfl ?_
      refine r_iconst (v := 0) rfl (by decide) ?_
      refine r_iconst (v := 1) rfl (by decide) ?_
      refine r_cs_i (vs := [.int i3, .int (0 : Int32), .int (1 : Int32)]) rfl ml_12_151 (rOk.of rfl) ⟨Nat.zero_le _, Nat.zero_le _⟩ rfl rfl rfl h s_X12_in (fun v3 M3 h => ?_)
      refine r_if_ne 32 rfl (by decide) h (fun h => ?_) (fun h => ?_)
      · refine r_iconst (v := -1) rfl (by decide) ?_
        exact r_iret rfl rfl ⟨Nat.le_of_ble_eq_true rfl, Nat.le_of_ble_eq_true rfl⟩ h
      · refine r_aload_n rfl rfl ?_
        refine r_iload_n rfl rfl ?_
        refine r_bipush (v := 7) rfl (by decide) ?_
        refine r_imul rfl ?_
        refine r_bipush (v := 9) rfl (by decide) ?_
        refine r_iadd rfl ?_
        refine r_putI rfl fl_12_477 (fun z => by cases z) rfl h (fun M4 h => ?_)
        refine r_iconst (v := 0) rfl (by decide) ?_
        refine r_istore (lo' := [some (va_rf r0), some (.int i1), some (.int i2), some (.int i3), some (.int (0 : Int32)), none, none]) rfl rfl rfl rfl ?_
        refine r_iconst (v := 0) rfl (by decide) ?_
        refine r_istore (lo' := [some (va_rf r0), some (.int i1), some (.int i2), some (.int i3), some (.int (0 : Int32)), some (.int (0 : Int32)), none]) rfl rfl rfl rfl ?_
        refine r_msk [true, false, true, true, true, true, true] rfl ?_
        exact s_X12_drawn_49 FU _ _ _ _ _ _ h
set_option maxRecDepth 20000 in
theorem dk_X12_end : ∀ pc i, L_X12_end[pc]? = some (some i) → decode prog_14_method_11_code pc = .ok i := dk_of (by decide +kernel)
theorem s_X12_end {d : Nat} {P : Int32 → Mem → Prop} {r0 : Option Nat} {i1 : Int32} {M : Mem} (h : FQ (f_X12_end r0 i1 M) P) : Con Y_X12_end (d + 1) 0 0 [va_rf r0, .int i1] M (QI P) := by
  refine Con.of [some (va_rf r0), some (.int i1)] (by decide +kernel) dk_X12_end (by simp [Y_X12_end, cat_rf, cat_i, cat_l]) (by simp [loE, Y_X12_end, cat_rf, cat_i, cat_l, List.replicate]) ?_
  unfold f_X12_end at h
  refine r_iload_n rfl rfl ?_
  refine r_iconst (v := 0) rfl (by decide) ?_
  refine r_aload_n rfl rfl ?_
  refine r_getI rfl fl_12_162 rfl h (fun v1 h => ?_)
  refine r_cs_i (vs := [.int i1, .int (0 : Int32), .int v1]) rfl ml_12_151 (rOk.of rfl) ⟨Nat.zero_le _, Nat.zero_le _⟩ rfl rfl rfl h s_X12_in (fun v2 M1 h => ?_)
  refine r_if_ne 14 rfl (by decide) h (fun h => ?_) (fun h => ?_)
  · refine r_iconst (v := -1) rfl (by decide) ?_
    exact r_iret rfl rfl ⟨Nat.le_of_ble_eq_true rfl, Nat.le_of_ble_eq_true rfl⟩ h
  · refine r_aload_n rfl rfl ?_
    refine r_iload_n rfl rfl ?_
    refine r_putI rfl fl_12_162 (fun z => by cases z) rfl h (fun M2 h => ?_)
    refine r_iload_n rfl rfl ?_
    exact r_iret rfl rfl ⟨Nat.le_of_ble_eq_true rfl, Nat.le_of_ble_eq_true rfl⟩ h
set_option maxRecDepth 20000 in
theorem dk_X12_fault : ∀ pc i, L_X12_fault[pc]? = some (some i) → decode prog_14_method_40_code pc = .ok i := dk_of (by decide +kernel)
theorem s_X12_fault {d : Nat} {P : Int32 → Mem → Prop} {r0 : Option Nat} {i1 : Int32} {M : Mem} (h : FQ (f_X12_fault r0 i1 M) P) : Con Y_X12_fault d 0 0 [va_rf r0, .int i1] M (QI P) := by
  refine Con.of [some (va_rf r0), some (.int i1)] (by decide +kernel) dk_X12_fault (by simp [Y_X12_fault, cat_rf, cat_i, cat_l]) (by simp [loE, Y_X12_fault, cat_rf, cat_i, cat_l, List.replicate]) ?_
  unfold f_X12_fault at h
  refine r_iload_n rfl rfl ?_
  refine r_if_ne 11 rfl (by decide) h (fun h => ?_) (fun h => ?_)
  · refine r_aload_n rfl rfl ?_
    refine r_getI rfl fl_12_20 rfl h (fun v1 h => ?_)
    refine r_goto 24 rfl (by decide) ?_
    exact r_iret rfl rfl ⟨Nat.le_of_ble_eq_true rfl, Nat.le_of_ble_eq_true rfl⟩ h
  · refine r_iload_n rfl rfl ?_
    refine r_iconst (v := 1) rfl (by decide) ?_
    refine r_ic_ne 23 rfl (by decide) h (fun h => ?_) (fun h => ?_)
    · refine r_aload_n rfl rfl ?_
      refine r_getI rfl fl_12_24 rfl h (fun v2 h => ?_)
      refine r_goto 24 rfl (by decide) ?_
      exact r_iret rfl rfl ⟨Nat.le_of_ble_eq_true rfl, Nat.le_of_ble_eq_true rfl⟩ h
    · refine r_iconst (v := -1) rfl (by decide) ?_
      exact r_iret rfl rfl ⟨Nat.le_of_ble_eq_true rfl, Nat.le_of_ble_eq_true rfl⟩ h
set_option maxRecDepth 20000 in
theorem dk_X12_put : ∀ pc i, L_X12_put[pc]? = some (some i) → decode prog_14_method_9_code pc = .ok i := dk_of (by decide +kernel)
theorem sb_X12_put_3 {d : Nat} {P : Unit → Mem → Prop} {q3 : Option Nat → Int32 → Int32 → Mem → Option (Unit × Mem)} (hq3 : ∀ (r0 : Option Nat) (i1 : Int32) (i2 : Int32) (M : Mem), FQ (q3 r0 i1 i2 M) P → wp Y_X12_put (rmD d 0 0) (FM (QV P) 0 0) 0 0 3 [some (va_rf r0), some (.int i1), some (.int i2)] [] M) (r0 : Option Nat) (i1 : Int32) (i2 : Int32) (M : Mem) (h : FQ (b_X12_put_3 q3 r0 i1 i2 M) P) : wp Y_X12_put (rmD d 0 0) (FM (QV P) 0 0) 0 0 3 [some (va_rf r0), some (.int i1), some (.int i2)] [] M := by
  unfold b_X12_put_3 at h
  refine r_iload_n rfl rfl ?_
  refine r_if_lt 38 rfl (by decide) h (fun h => ?_) (fun h => ?_)
  · exact r_vret rfl rfl ⟨Nat.le_of_ble_eq_true rfl, Nat.le_of_ble_eq_true rfl⟩ h
  · refine r_aload_n rfl rfl ?_
    refine r_getR rfl fl_12_16 rfl h (fun v1 h => ?_)
    refine r_aload_n rfl rfl ?_
    refine r_getI rfl fl_12_162 rfl h (fun v2 h => ?_)
    refine r_iload_n rfl rfl ?_
    refine r_iload_n rfl rfl ?_
    refine r_ishr rfl ?_
    refine r_i2b rfl ?_
    refine r_bast rfl h (fun M1 h => ?_)
    refine r_aload_n rfl rfl ?_
    refine r_dup rfl (cat_rf _) ?_
    refine r_getI rfl fl_12_162 rfl h (fun v3 h => ?_)
    refine r_iconst (v := 1) rfl (by decide) ?_
    refine r_iadd rfl ?_
    refine r_putI rfl fl_12_162 (fun z => by cases z) rfl h (fun M2 h => ?_)
    refine r_iload_n rfl rfl ?_
    refine r_bipush (v := 8) rfl (by decide) ?_
    refine r_isub rfl ?_
    refine r_istore_n (lo' := [some (va_rf r0), some (.int i1), some (.int (i2 - (8 : Int32)))]) rfl rfl rfl rfl ?_
    refine r_goto 3 rfl (by decide) ?_
    exact hq3 _ _ _ _ h
theorem s_X12_put_3 {d : Nat} {P : Unit → Mem → Prop}   : ∀ (k : Nat) (r0 : Option Nat) (i1 : Int32) (i2 : Int32) (M : Mem), FQ (f_X12_put_3  k r0 i1 i2 M) P → wp Y_X12_put (rmD d 0 0) (FM (QV P) 0 0) 0 0 3 [some (va_rf r0), some (.int i1), some (.int i2)] [] M
  | 0, _, _, _, _, h => h.no
  | k + 1, r0, i1, i2, M, h => sb_X12_put_3  (s_X12_put_3  k) r0 i1 i2 M h
theorem s_X12_put {d : Nat} {P : Unit → Mem → Prop} {r0 : Option Nat} {i1 : Int32} {M : Mem} (h : FQ (f_X12_put r0 i1 M) P) : Con Y_X12_put d 0 0 [va_rf r0, .int i1] M (QV P) := by
  refine Con.of [some (va_rf r0), some (.int i1), none] (by decide +kernel) dk_X12_put (by simp [Y_X12_put, cat_rf, cat_i, cat_l]) (by simp [loE, Y_X12_put, cat_rf, cat_i, cat_l, List.replicate]) ?_
  unfold f_X12_put at h
  refine r_bipush (v := 24) rfl (by decide) ?_
  refine r_istore_n (lo' := [some (va_rf r0), some (.int i1), some (.int (24 : Int32))]) rfl rfl rfl rfl ?_
  exact s_X12_put_3 FU _ _ _ _ h
set_option maxRecDepth 20000 in
theorem dk_X12_feed : ∀ pc i, L_X12_feed[pc]? = some (some i) → decode prog_14_method_10_code pc = .ok i := dk_of (by decide +kernel)
theorem s_X12_feed {d : Nat} {P : Int32 → Mem → Prop} {r0 : Option Nat} {i1 : Int32} {i2 : Int32} {i3 : Int32} {i4 : Int32} {i5 : Int32} {M : Mem} (h : FQ (f_X12_feed r0 i1 i2 i3 i4 i5 M) P) : Con Y_X12_feed (d + 1) 0 0 [va_rf r0, .int i1, .int i2, .int i3, .int i4, .int i5] M (QI P) := by
  refine Con.of [some (va_rf r0), some (.int i1), some (.int i2), some (.int i3), some (.int i4), some (.int i5)] (by decide +kernel) dk_X12_feed (by simp [Y_X12_feed, cat_rf, cat_i, cat_l]) (by simp [loE, Y_X12_feed, cat_rf, cat_i, cat_l, List.replicate]) ?_
  unfold f_X12_feed at h
  refine r_aload_n rfl rfl ?_
  refine r_getI rfl fl_12_162 rfl h (fun v1 h => ?_)
  refine r_bipush (v := 20) rfl (by decide) ?_
  refine r_iadd rfl ?_
  refine r_sipush (v := 300) rfl (by decide) ?_
  refine r_ic_le 15 rfl (by decide) h (fun h => ?_) (fun h => ?_)
  · refine r_aload_n rfl rfl ?_
    refine r_iload_n rfl rfl ?_
    refine r_cv_v (vs := [.int i1]) rfl ml_12_165 rfl (rOk.of rfl) ⟨Nat.zero_le _, Nat.zero_le _⟩ rfl rfl rfl h s_X12_put (fun _ M1 h => ?_)
    refine r_aload_n rfl rfl ?_
    refine r_iload_n rfl rfl ?_
    refine r_cv_v (vs := [.int i2]) rfl ml_12_165 rfl (rOk.of rfl) ⟨Nat.zero_le _, Nat.zero_le _⟩ rfl rfl rfl h s_X12_put (fun _ M2 h => ?_)
    refine r_aload_n rfl rfl ?_
    refine r_iload_n rfl rfl ?_
    refine r_cv_v (vs := [.int i3]) rfl ml_12_165 rfl (rOk.of rfl) ⟨Nat.zero_le _, Nat.zero_le _⟩ rfl rfl rfl h s_X12_put (fun _ M3 h => ?_)
    refine r_aload_n rfl rfl ?_
    refine r_iload rfl rfl ?_
    refine r_cv_v (vs := [.int i4]) rfl ml_12_165 rfl (rOk.of rfl) ⟨Nat.zero_le _, Nat.zero_le _⟩ rfl rfl rfl h s_X12_put (fun _ M4 h => ?_)
    refine r_aload_n rfl rfl ?_
    refine r_iload rfl rfl ?_
    refine r_cv_v (vs := [.int i5]) rfl ml_12_165 rfl (rOk.of rfl) ⟨Nat.zero_le _, Nat.zero_le _⟩ rfl rfl rfl h s_X12_put (fun _ M5 h => ?_)
    refine r_aload_n rfl rfl ?_
    refine r_getI rfl fl_12_162 rfl h (fun v2 h => ?_)
    exact r_iret rfl rfl ⟨Nat.le_of_ble_eq_true rfl, Nat.le_of_ble_eq_true rfl⟩ h
  · refine r_iconst (v := -1) rfl (by decide) ?_
    exact r_iret rfl rfl ⟨Nat.le_of_ble_eq_true rfl, Nat.le_of_ble_eq_true rfl⟩ h
