/-! walked by program (wip/gen): X12_runs X12_states X12_isWord X12_opensFrame X12_errs X12_isLetter X12_wordOf -/
def L_X12_runs : List (Option (Instr × Nat)) := [some (.aload_n 0, 1), some (.invokevirtual 507, 3), none, none, some (.ifCond .ne 6, 3), none, none, some (.bipush (-2), 2), none, some (.ireturn, 1), some (.iconst 0, 1), some (.istore_n 1, 1), some (.iload_n 1, 1), some (.aload_n 0, 1), some (.getfield 500, 3), none, none, some (.if_icmp .ge 16, 3), none, none, some (.aload_n 0, 1), some (.getfield 134, 3), none, none, some (.iload_n 1, 1), some (.iconst 0, 1), some (.bastore, 1), some (.iinc 1 1, 3), none, none, some (.goto (-18), 3), none, none, some (.aload_n 0, 1), some (.getfield 500, 3), none, none, some (.istore_n 1, 1), some (.iconst 1, 1), some (.istore_n 2, 1), some (.iload_n 2, 1), some (.ifCond .eq 54, 3), none, none, some (.iconst 0, 1), some (.istore_n 2, 1), some (.aload_n 0, 1), some (.getfield 500, 3), none, none, some (.iconst 1, 1), some (.isub, 1), some (.istore_n 3, 1), some (.iload_n 3, 1), some (.ifCond .lt 38, 3), none, none, some (.aload_n 0, 1), some (.getfield 134, 3), none, none, some (.iload_n 3, 1), some (.baload, 1), some (.ifCond .ne 23, 3), none, none, some (.aload_n 0, 1), some (.iload_n 3, 1), some (.invokevirtual 554, 3), none, none, some (.ifCond .ne 15, 3), none, none, some (.aload_n 0, 1), some (.getfield 134, 3), none, none, some (.iload_n 3, 1), some (.iconst 1, 1), some (.bastore, 1), some (.iinc 1 (-1), 3), none, none, some (.iconst 1, 1), some (.istore_n 2, 1), some (.iinc 3 (-1), 3), none, none, some (.goto (-36), 3), none, none, some (.goto (-52), 3), none, none, some (.iload_n 1, 1), some (.ifCond .le 7, 3), none, none, some (.iconst 1, 1), some (.goto 4, 3), none, none, some (.iconst 0, 1), some (.ireturn, 1)]
def Y_X12_runs : YM := (⟨RX12, "runs", "()I"⟩, prog_14_method_110_code, L_X12_runs, 4, some .int)
def b_X12_runs_53 (q40 : Option Nat → Int32 → Int32 → Mem → Option (Int32 × Mem)) (q53 : Option Nat → Int32 → Int32 → Int32 → Mem → Option (Int32 × Mem)) (r0 : Option Nat) (i1 : Int32) (i2 : Int32) (i3 : Int32) (M : Mem) : Option (Int32 × Mem) :=
(if i3 < 0 then
q40 r0 i1 i2 M
else
gR M r0 12 69 fun v1 =>
aI M v1 5 i3 fun v2 =>
(if v2 = 0 then
cR M r0 (1, 12) (cA (f_X12_goesOnFrom r0 i3 M) fun v3 M1 =>
(if v3 = 0 then
gR M1 r0 12 69 fun v4 =>
wI M1 v4 5 i3 (vp_nar .boolean (1 : Int32)) fun M2 =>
q53 r0 (i1 + (-1 : Int32)) (1 : Int32) (i3 + (-1 : Int32)) M2
else
q53 r0 i1 i2 (i3 + (-1 : Int32)) M1))
else
q53 r0 i1 i2 (i3 + (-1 : Int32)) M))
def f_X12_runs_53 (q40 : Option Nat → Int32 → Int32 → Mem → Option (Int32 × Mem)) (n : Nat) : Option Nat → Int32 → Int32 → Int32 → Mem → Option (Int32 × Mem) := lpN (fun _ _ _ _ _ => none) (b_X12_runs_53 q40) n
def b_X12_runs_40 (q40 : Option Nat → Int32 → Int32 → Mem → Option (Int32 × Mem)) (r0 : Option Nat) (i1 : Int32) (i2 : Int32) (M : Mem) : Option (Int32 × Mem) :=
(if i2 = 0 then
(if i1 ≤ 0 then
some ((0 : Int32), M)
else
some ((1 : Int32), M))
else
gI M r0 12 58 fun v1 =>
f_X12_runs_53 q40 FU r0 i1 (0 : Int32) (v1 - (1 : Int32)) M)
def f_X12_runs_40 (n : Nat) : Option Nat → Int32 → Int32 → Mem → Option (Int32 × Mem) := lpN (fun _ _ _ _ => none) (b_X12_runs_40 ) n
def b_X12_runs_12 (q12 : Option Nat → Int32 → Mem → Option (Int32 × Mem)) (r0 : Option Nat) (i1 : Int32) (M : Mem) : Option (Int32 × Mem) :=
gI M r0 12 58 fun v1 =>
(if v1 ≤ i1 then
gI M r0 12 58 fun v2 =>
f_X12_runs_40 FU r0 v2 (1 : Int32) M
else
gR M r0 12 69 fun v3 =>
wI M v3 5 i1 (vp_nar .boolean (0 : Int32)) fun M1 =>
q12 r0 (i1 + (1 : Int32)) M1)
def f_X12_runs_12 (n : Nat) : Option Nat → Int32 → Mem → Option (Int32 × Mem) := lpN (fun _ _ _ => none) (b_X12_runs_12 ) n
def f_X12_runs (r0 : Option Nat) (M : Mem) : Option (Int32 × Mem) :=
cR M r0 (1, 12) (cA (f_X12_laysStates r0 M) fun v1 M1 =>
(if v1 = 0 then
some ((-2 : Int32), M1)
else
f_X12_runs_12 FU r0 (0 : Int32) M1))
def L_X12_states : List (Option (Instr × Nat)) := [some (.aload_n 0, 1), some (.invokevirtual 507, 3), none, none, some (.ifCond .eq 10, 3), none, none, some (.aload_n 0, 1), some (.getfield 500, 3), none, none, some (.goto 5, 3), none, none, some (.bipush (-2), 2), none, some (.ireturn, 1)]
def Y_X12_states : YM := (⟨RX12, "states", "()I"⟩, prog_14_method_93_code, L_X12_states, 1, some .int)
def f_X12_states (r0 : Option Nat) (M : Mem) : Option (Int32 × Mem) :=
cR M r0 (1, 12) (cA (f_X12_laysStates r0 M) fun v1 M1 =>
(if v1 = 0 then
some ((-2 : Int32), M1)
else
gI M1 r0 12 58 fun v2 =>
some (v2, M1)))
def L_X12_isWord : List (Option (Instr × Nat)) := [some (.aload_n 0, 1), some (.getfield 218, 3), none, none, some (.iconst 1, 1), some (.if_icmp .ne 15, 3), none, none, some (.aload_n 0, 1), some (.getfield 230, 3), none, none, some (.iload_n 1, 1), some (.if_icmp .ne 7, 3), none, none, some (.iconst 1, 1), some (.goto 4, 3), none, none, some (.iconst 0, 1), some (.ireturn, 1)]
def Y_X12_isWord : YM := (⟨RX12, "isWord", "(I)Z"⟩, prog_14_method_16_code, L_X12_isWord, 2, some .boolean)
def f_X12_isWord (r0 : Option Nat) (i1 : Int32) (M : Mem) : Option (Int32 × Mem) :=
gI M r0 12 21 fun v1 =>
(if v1 = (1 : Int32) then
gI M r0 12 22 fun v2 =>
(if v2 = i1 then
tv (1 : Int32) (some ((1 : Int32), M))
else
tv (0 : Int32) (some ((0 : Int32), M)))
else
tv (0 : Int32) (some ((0 : Int32), M)))
def L_X12_opensFrame : List (Option (Instr × Nat)) := [some (.aload_n 0, 1), some (.getfield 54, 3), none, none, some (.aload_n 0, 1), some (.getfield 243, 3), none, none, some (.iload_n 1, 1), some (.iastore, 1), some (.aload_n 0, 1), some (.dup, 1), some (.getfield 243, 3), none, none, some (.iconst 1, 1), some (.iadd, 1), some (.putfield 243, 3), none, none, some (.return_, 1)]
def Y_X12_opensFrame : YM := (⟨RX12, "opensFrame", "(I)V"⟩, prog_14_method_19_code, L_X12_opensFrame, 2, none)
def f_X12_opensFrame (r0 : Option Nat) (i1 : Int32) (M : Mem) : Option (Unit × Mem) :=
gR M r0 12 27 fun v1 =>
gI M r0 12 26 fun v2 =>
wI M v1 2 v2 i1 fun M1 =>
gI M1 r0 12 26 fun v3 =>
pI M1 r0 12 26 (v3 + (1 : Int32)) fun M2 =>
some ((), M2)
def L_X12_errs : List (Option (Instr × Nat)) := [some (.aload_n 0, 1), some (.getfield 234, 3), none, none, some (.ifCond .ne 16, 3), none, none, some (.aload_n 0, 1), some (.iload_n 1, 1), some (.putfield 234, 3), none, none, some (.aload_n 0, 1), some (.aload_n 0, 1), some (.getfield 215, 3), none, none, some (.putfield 237, 3), none, none, some (.return_, 1)]
def Y_X12_errs : YM := (⟨RX12, "errs", "(I)V"⟩, prog_14_method_17_code, L_X12_errs, 2, none)
def f_X12_errs (r0 : Option Nat) (i1 : Int32) (M : Mem) : Option (Unit × Mem) :=
gI M r0 12 23 fun v1 =>
(if v1 = 0 then
pI M r0 12 23 i1 fun M1 =>
gI M1 r0 12 20 fun v2 =>
pI M1 r0 12 24 v2 fun M2 =>
some ((), M2)
else
some ((), M))
def L_X12_isLetter : List (Option (Instr × Nat)) := [some (.iload_n 0, 1), some (.bipush 97, 2), none, some (.bipush 122, 2), none, some (.invokestatic 151, 3), none, none, some (.ifCond .ne 14, 3), none, none, some (.iload_n 0, 1), some (.bipush 65, 2), none, some (.bipush 90, 2), none, some (.invokestatic 151, 3), none, none, some (.ifCond .eq 7, 3), none, none, some (.iconst 1, 1), some (.goto 4, 3), none, none, some (.iconst 0, 1), some (.ireturn, 1)]
def Y_X12_isLetter : YM := (⟨RX12, "isLetter", "(I)Z"⟩, prog_14_method_12_code, L_X12_isLetter, 1, some .boolean)
def f_X12_isLetter (i0 : Int32) (M : Mem) : Option (Int32 × Mem) :=
cA (f_X12_in i0 (97 : Int32) (122 : Int32) M) fun v1 M1 =>
(if v1 = 0 then
cA (f_X12_in i0 (65 : Int32) (90 : Int32) M1) fun v2 M2 =>
(if v2 = 0 then
tv (0 : Int32) (some ((0 : Int32), M2))
else
tv (1 : Int32) (some ((1 : Int32), M2)))
else
tv (1 : Int32) (some ((1 : Int32), M1)))
def L_X12_wordOf : List (Option (Instr × Nat)) := [some (.lload_n 0, 1), some (.ldc2_w 169, 3), none, none, some (.lcmp, 1), some (.ifCond .ne 5, 3), none, none, some (.iconst 0, 1), some (.ireturn, 1), some (.lload_n 0, 1), some (.ldc2_w 171, 3), none, none, some (.lcmp, 1), some (.ifCond .ne 5, 3), none, none, some (.iconst 1, 1), some (.ireturn, 1), some (.lload_n 0, 1), some (.ldc2_w 173, 3), none, none, some (.lcmp, 1), some (.ifCond .ne 5, 3), none, none, some (.iconst 2, 1), some (.ireturn, 1), some (.lload_n 0, 1), some (.ldc2_w 175, 3), none, none, some (.lcmp, 1), some (.ifCond .ne 5, 3), none, none, some (.iconst 3, 1), some (.ireturn, 1), some (.lload_n 0, 1), some (.ldc2_w 177, 3), none, none, some (.lcmp, 1), some (.ifCond .ne 5, 3), none, none, some (.iconst 4, 1), some (.ireturn, 1), some (.lload_n 0, 1), some (.ldc2_w 179, 3), none, none, some (.lcmp, 1), some (.ifCond .ne 5, 3), none, none, some (.iconst 5, 1), some (.ireturn, 1), some (.lload_n 0, 1), some (.ldc2_w 181, 3), none, none, some (.lcmp, 1), some (.ifCond .ne 6, 3), none, none, some (.bipush 6, 2), none, some (.ireturn, 1), some (.lload_n 0, 1), some (.ldc2_w 183, 3), none, none, some (.lcmp, 1), some (.ifCond .ne 6, 3), none, none, some (.bipush 7, 2), none, some (.ireturn, 1), some (.lload_n 0, 1), some (.ldc2_w 185, 3), none, none, some (.lcmp, 1), some (.ifCond .ne 6, 3), none, none, some (.bipush 8, 2), none, some (.ireturn, 1), some (.lload_n 0, 1), some (.ldc2_w 187, 3), none, none, some (.lcmp, 1), some (.ifCond .ne 6, 3), none, none, some (.bipush 9, 2), none, some (.ireturn, 1), some (.lload_n 0, 1), some (.ldc2_w 189, 3), none, none, some (.lcmp, 1), some (.ifCond .ne 6, 3), none, none, some (.bipush 10, 2), none, some (.ireturn, 1), some (.lload_n 0, 1), some (.ldc2_w 191, 3), none, none, some (.lcmp, 1), some (.ifCond .ne 6, 3), none, none, some (.bipush 11, 2), none, some (.ireturn, 1), some (.lload_n 0, 1), some (.ldc2_w 193, 3), none, none, some (.lcmp, 1), some (.ifCond .ne 6, 3), none, none, some (.bipush 12, 2), none, some (.ireturn, 1), some (.lload_n 0, 1), some (.ldc2_w 195, 3), none, none, some (.lcmp, 1), some (.ifCond .ne 6, 3), none, none, some (.bipush 13, 2), none, some (.ireturn, 1), some (.lload_n 0, 1), some (.ldc2_w 197, 3), none, none, some (.lcmp, 1), some (.ifCond .ne 6, 3), none, none, some (.bipush 14, 2), none, some (.ireturn, 1), some (.lload_n 0, 1), some (.ldc2_w 199, 3), none, none, some (.lcmp, 1), some (.ifCond .ne 6, 3), none, none, some (.bipush 15, 2), none, some (.ireturn, 1), some (.lload_n 0, 1), some (.ldc2_w 201, 3), none, none, some (.lcmp, 1), some (.ifCond .ne 6, 3), none, none, some (.bipush 16, 2), none, some (.ireturn, 1), some (.lload_n 0, 1), some (.ldc2_w 203, 3), none, none, some (.lcmp, 1), some (.ifCond .ne 6, 3), none, none, some (.bipush 17, 2), none, some (.ireturn, 1), some (.lload_n 0, 1), some (.ldc2_w 205, 3), none, none, some (.lcmp, 1), some (.ifCond .ne 6, 3), none, none, some (.bipush 18, 2), none, some (.ireturn, 1), some (.lload_n 0, 1), some (.ldc2_w 207, 3), none, none, some (.lcmp, 1), some (.ifCond .ne 6, 3), none, none, some (.bipush 19, 2), none, some (.ireturn, 1), some (.iconst (-1), 1), some (.ireturn, 1)]
def Y_X12_wordOf : YM := (⟨RX12, "wordOf", "(J)I"⟩, prog_14_method_13_code, L_X12_wordOf, 2, some .int)
def f_X12_wordOf (l0 : Int64) (M : Mem) : Option (Int32 × Mem) :=
(if (lg_cmp l0 (11992485 : Int64)) = 0 then
some ((0 : Int32), M)
else
(if (lg_cmp l0 (816978149 : Int64)) = 0 then
some ((1 : Int32), M)
else
(if (lg_cmp l0 (798648690 : Int64)) = 0 then
some ((2 : Int32), M)
else
(if (lg_cmp l0 (54318030053 : Int64)) = 0 then
some ((3 : Int32), M)
else
(if (lg_cmp l0 (38264569061 : Int64)) = 0 then
some ((4 : Int32), M)
else
(if (lg_cmp l0 (781674866 : Int64)) = 0 then
some ((5 : Int32), M)
else
(if (lg_cmp l0 (13584752 : Int64)) = 0 then
some ((6 : Int32), M)
else
(if (lg_cmp l0 (11688048 : Int64)) = 0 then
some ((7 : Int32), M)
else
(if (lg_cmp l0 (12803304 : Int64)) = 0 then
some ((8 : Int32), M)
else
(if (lg_cmp l0 (38260894181 : Int64)) = 0 then
some ((9 : Int32), M)
else
(if (lg_cmp l0 (933403429 : Int64)) = 0 then
some ((10 : Int32), M)
else
(if (lg_cmp l0 (3058 : Int64)) = 0 then
some ((11 : Int32), M)
else
(if (lg_cmp l0 (138148 : Int64)) = 0 then
some ((12 : Int32), M)
else
(if (lg_cmp l0 (191476 : Int64)) = 0 then
some ((13 : Int32), M)
else
(if (lg_cmp l0 (599743412 : Int64)) = 0 then
some ((14 : Int32), M)
else
(if (lg_cmp l0 (10169325 : Int64)) = 0 then
some ((15 : Int32), M)
else
(if (lg_cmp l0 (3375 : Int64)) = 0 then
some ((16 : Int32), M)
else
(if (lg_cmp l0 (11967397 : Int64)) = 0 then
some ((17 : Int32), M)
else
(if (lg_cmp l0 (56515534003 : Int64)) = 0 then
some ((18 : Int32), M)
else
(if (lg_cmp l0 (13539621 : Int64)) = 0 then
some ((19 : Int32), M)
else
some ((-1 : Int32), M)))))))))))))))))))))
set_option maxRecDepth 30000 in
theorem ok_X12_goesOnFrom : okY Y_X12_goesOnFrom := ⟨(gw_in 1777 rfl rfl), (gw_in 14 (by decide +kernel) (by decide +kernel)), by decide +kernel, by decide +kernel⟩
theorem ml_12_554 : MLv RX12 554 Y_X12_goesOnFrom 1 := ⟨(gw_in 1774 (by decide +kernel) (by decide +kernel)), (gw_in 1776 (by decide +kernel) (by decide +kernel)), (gw_sel (n := 70) 117 (by decide +kernel) (by decide +kernel)), ok_X12_goesOnFrom, by decide +kernel⟩
theorem fl_12_218 : FLk RX12 218 12 21 false := ⟨_, rfl, by decide, (gw_in 1137 (by decide +kernel) (by decide +kernel)), rfl⟩
theorem fl_12_230 : FLk RX12 230 12 22 false := ⟨_, rfl, by decide, (gw_in 1138 (by decide +kernel) (by decide +kernel)), rfl⟩
theorem fl_12_243 : FLk RX12 243 12 26 false := ⟨_, rfl, by decide, (gw_in 1142 (by decide +kernel) (by decide +kernel)), rfl⟩
theorem fl_12_234 : FLk RX12 234 12 23 false := ⟨_, rfl, by decide, (gw_in 1139 (by decide +kernel) (by decide +kernel)), rfl⟩
theorem fl_12_215 : FLk RX12 215 12 20 false := ⟨_, rfl, by decide, (gw_in 1136 (by decide +kernel) (by decide +kernel)), rfl⟩
theorem fl_12_237 : FLk RX12 237 12 24 false := ⟨_, rfl, by decide, (gw_in 1140 (by decide +kernel) (by decide +kernel)), rfl⟩
theorem kl_12_169 : Jvm.Cond.constantLong RX12 169 (11992485) ∈ gw := gw_in 1377 (by decide +kernel) (by decide +kernel)
theorem kl_12_171 : Jvm.Cond.constantLong RX12 171 (816978149) ∈ gw := gw_in 1378 (by decide +kernel) (by decide +kernel)
theorem kl_12_173 : Jvm.Cond.constantLong RX12 173 (798648690) ∈ gw := gw_in 1379 (by decide +kernel) (by decide +kernel)
theorem kl_12_175 : Jvm.Cond.constantLong RX12 175 (54318030053) ∈ gw := gw_in 1380 (by decide +kernel) (by decide +kernel)
theorem kl_12_177 : Jvm.Cond.constantLong RX12 177 (38264569061) ∈ gw := gw_in 1381 (by decide +kernel) (by decide +kernel)
theorem kl_12_179 : Jvm.Cond.constantLong RX12 179 (781674866) ∈ gw := gw_in 1382 (by decide +kernel) (by decide +kernel)
theorem kl_12_181 : Jvm.Cond.constantLong RX12 181 (13584752) ∈ gw := gw_in 1383 (by decide +kernel) (by decide +kernel)
theorem kl_12_183 : Jvm.Cond.constantLong RX12 183 (11688048) ∈ gw := gw_in 1384 (by decide +kernel) (by decide +kernel)
theorem kl_12_185 : Jvm.Cond.constantLong RX12 185 (12803304) ∈ gw := gw_in 1385 (by decide +kernel) (by decide +kernel)
theorem kl_12_187 : Jvm.Cond.constantLong RX12 187 (38260894181) ∈ gw := gw_in 1386 (by decide +kernel) (by decide +kernel)
theorem kl_12_189 : Jvm.Cond.constantLong RX12 189 (933403429) ∈ gw := gw_in 1387 (by decide +kernel) (by decide +kernel)
theorem kl_12_191 : Jvm.Cond.constantLong RX12 191 (3058) ∈ gw := gw_in 1388 (by decide +kernel) (by decide +kernel)
theorem kl_12_193 : Jvm.Cond.constantLong RX12 193 (138148) ∈ gw := gw_in 1389 (by decide +kernel) (by decide +kernel)
theorem kl_12_195 : Jvm.Cond.constantLong RX12 195 (191476) ∈ gw := gw_in 1390 (by decide +kernel) (by decide +kernel)
theorem kl_12_197 : Jvm.Cond.constantLong RX12 197 (599743412) ∈ gw := gw_in 1391 (by decide +kernel) (by decide +kernel)
theorem kl_12_199 : Jvm.Cond.constantLong RX12 199 (10169325) ∈ gw := gw_in 1392 (by decide +kernel) (by decide +kernel)
theorem kl_12_201 : Jvm.Cond.constantLong RX12 201 (3375) ∈ gw := gw_in 1393 (by decide +kernel) (by decide +kernel)
theorem kl_12_203 : Jvm.Cond.constantLong RX12 203 (11967397) ∈ gw := gw_in 1394 (by decide +kernel) (by decide +kernel)
theorem kl_12_205 : Jvm.Cond.constantLong RX12 205 (56515534003) ∈ gw := gw_in 1395 (by decide +kernel) (by decide +kernel)
theorem kl_12_207 : Jvm.Cond.constantLong RX12 207 (13539621) ∈ gw := gw_in 1396 (by decide +kernel) (by decide +kernel)
set_option maxRecDepth 20000 in
theorem dk_X12_runs : ∀ pc i, L_X12_runs[pc]? = some (some i) → decode prog_14_method_110_code pc = .ok i := dk_of (by decide +kernel)
theorem sb_X12_runs_53 {d : Nat} {P : Int32 → Mem → Prop} {q40 : Option Nat → Int32 → Int32 → Mem → Option (Int32 × Mem)} {q53 : Option Nat → Int32 → Int32 → Int32 → Mem → Option (Int32 × Mem)} (hq40 : ∀ (r0 : Option Nat) (i1 : Int32) (i2 : Int32) (M : Mem), FQ (q40 r0 i1 i2 M) P → wp Y_X12_runs (rmD (d + 8) 0 0) (FM (QI P) 0 0) 0 0 40 [some (va_rf r0), some (.int i1), some (.int i2), none] [] M) (hq53 : ∀ (r0 : Option Nat) (i1 : Int32) (i2 : Int32) (i3 : Int32) (M : Mem), FQ (q53 r0 i1 i2 i3 M) P → wp Y_X12_runs (rmD (d + 8) 0 0) (FM (QI P) 0 0) 0 0 53 [some (va_rf r0), some (.int i1), some (.int i2), some (.int i3)] [] M) (r0 : Option Nat) (i1 : Int32) (i2 : Int32) (i3 : Int32) (M : Mem) (h : FQ (b_X12_runs_53 q40 q53 r0 i1 i2 i3 M) P) : wp Y_X12_runs (rmD (d + 8) 0 0) (FM (QI P) 0 0) 0 0 53 [some (va_rf r0), some (.int i1), some (.int i2), some (.int i3)] [] M := by
  unfold b_X12_runs_53 at h
  refine r_iload_n rfl rfl ?_
  refine r_if_lt 92 rfl (by decide) h (fun h => ?_) (fun h => ?_)
  · refine r_goto 40 rfl (by decide) ?_
    refine r_msk [true, true, true, false] rfl ?_
    exact hq40 _ _ _ _ h
  · refine r_aload_n rfl rfl ?_
    refine r_getR rfl fl_12_134 rfl h (fun v1 h => ?_)
    refine r_iload_n rfl rfl ?_
    refine r_zald rfl h (fun v2 h => ?_)
    refine r_if_ne 86 rfl (by decide) h (fun h => ?_) (fun h => ?_)
    · refine r_aload_n rfl rfl ?_
      refine r_iload_n rfl rfl ?_
      refine r_cv_i (vs := [.int i3]) rfl ml_12_554 rfl (rOk.of rfl) ⟨Nat.zero_le _, Nat.zero_le _⟩ rfl rfl rfl h s_X12_goesOnFrom (fun v3 M1 h => ?_)
      refine r_if_ne 86 rfl (by decide) h (fun h => ?_) (fun h => ?_)
      · refine r_aload_n rfl rfl ?_
        refine r_getR rfl fl_12_134 rfl h (fun v4 h => ?_)
        refine r_iload_n rfl rfl ?_
        refine r_iconst (v := 1) rfl (by decide) ?_
        refine r_zast rfl h (fun M2 h => ?_)
        refine r_iinc (v := -1) (lo' := [some (va_rf r0), some (.int (i1 + (-1 : Int32))), some (.int i2), some (.int i3)]) rfl rfl rfl (by decide) (by simp [stOk, cat_rf]) rfl ?_
        refine r_iconst (v := 1) rfl (by decide) ?_
        refine r_istore_n (lo' := [some (va_rf r0), some (.int (i1 + (-1 : Int32))), some (.int (1 : Int32)), some (.int i3)]) rfl rfl rfl rfl ?_
        refine r_iinc (v := -1) (lo' := [some (va_rf r0), some (.int (i1 + (-1 : Int32))), some (.int (1 : Int32)), some (.int (i3 + (-1 : Int32)))]) rfl rfl rfl (by decide) rfl rfl ?_
        refine r_goto 53 rfl (by decide) ?_
        exact hq53 _ _ _ _ _ h
      · refine r_iinc (v := -1) (lo' := [some (va_rf r0), some (.int i1), some (.int i2), some (.int (i3 + (-1 : Int32)))]) rfl rfl rfl (by decide) rfl rfl ?_
        refine r_goto 53 rfl (by decide) ?_
        exact hq53 _ _ _ _ _ h
    · refine r_iinc (v := -1) (lo' := [some (va_rf r0), some (.int i1), some (.int i2), some (.int (i3 + (-1 : Int32)))]) rfl rfl rfl (by decide) rfl rfl ?_
      refine r_goto 53 rfl (by decide) ?_
      exact hq53 _ _ _ _ _ h
theorem s_X12_runs_53 {d : Nat} {P : Int32 → Mem → Prop} {q40 : Option Nat → Int32 → Int32 → Mem → Option (Int32 × Mem)} (hq40 : ∀ (r0 : Option Nat) (i1 : Int32) (i2 : Int32) (M : Mem), FQ (q40 r0 i1 i2 M) P → wp Y_X12_runs (rmD (d + 8) 0 0) (FM (QI P) 0 0) 0 0 40 [some (va_rf r0), some (.int i1), some (.int i2), none] [] M) : ∀ (k : Nat) (r0 : Option Nat) (i1 : Int32) (i2 : Int32) (i3 : Int32) (M : Mem), FQ (f_X12_runs_53 q40 k r0 i1 i2 i3 M) P → wp Y_X12_runs (rmD (d + 8) 0 0) (FM (QI P) 0 0) 0 0 53 [some (va_rf r0), some (.int i1), some (.int i2), some (.int i3)] [] M
  | 0, _, _, _, _, _, h => h.no
  | k + 1, r0, i1, i2, i3, M, h => sb_X12_runs_53 hq40 (s_X12_runs_53 hq40 k) r0 i1 i2 i3 M h
theorem sb_X12_runs_40 {d : Nat} {P : Int32 → Mem → Prop} {q40 : Option Nat → Int32 → Int32 → Mem → Option (Int32 × Mem)} (hq40 : ∀ (r0 : Option Nat) (i1 : Int32) (i2 : Int32) (M : Mem), FQ (q40 r0 i1 i2 M) P → wp Y_X12_runs (rmD (d + 8) 0 0) (FM (QI P) 0 0) 0 0 40 [some (va_rf r0), some (.int i1), some (.int i2), none] [] M) (r0 : Option Nat) (i1 : Int32) (i2 : Int32) (M : Mem) (h : FQ (b_X12_runs_40 q40 r0 i1 i2 M) P) : wp Y_X12_runs (rmD (d + 8) 0 0) (FM (QI P) 0 0) 0 0 40 [some (va_rf r0), some (.int i1), some (.int i2), none] [] M := by
  unfold b_X12_runs_40 at h
  refine r_iload_n rfl rfl ?_
  refine r_if_eq 95 rfl (by decide) h (fun h => ?_) (fun h => ?_)
  · refine r_iload_n rfl rfl ?_
    refine r_if_le 103 rfl (by decide) h (fun h => ?_) (fun h => ?_)
    · refine r_iconst (v := 0) rfl (by decide) ?_
      exact r_iret rfl rfl ⟨Nat.le_of_ble_eq_true rfl, Nat.le_of_ble_eq_true rfl⟩ h
    · refine r_iconst (v := 1) rfl (by decide) ?_
      refine r_goto 104 rfl (by decide) ?_
      exact r_iret rfl rfl ⟨Nat.le_of_ble_eq_true rfl, Nat.le_of_ble_eq_true rfl⟩ h
  · refine r_iconst (v := 0) rfl (by decide) ?_
    refine r_istore_n (lo' := [some (va_rf r0), some (.int i1), some (.int (0 : Int32)), none]) rfl rfl rfl rfl ?_
    refine r_aload_n rfl rfl ?_
    refine r_getI rfl fl_12_500 rfl h (fun v1 h => ?_)
    refine r_iconst (v := 1) rfl (by decide) ?_
    refine r_isub rfl ?_
    refine r_istore_n (lo' := [some (va_rf r0), some (.int i1), some (.int (0 : Int32)), some (.int (v1 - (1 : Int32)))]) rfl rfl rfl rfl ?_
    exact s_X12_runs_53 hq40 FU _ _ _ _ _ h
theorem s_X12_runs_40 {d : Nat} {P : Int32 → Mem → Prop}   : ∀ (k : Nat) (r0 : Option Nat) (i1 : Int32) (i2 : Int32) (M : Mem), FQ (f_X12_runs_40  k r0 i1 i2 M) P → wp Y_X12_runs (rmD (d + 8) 0 0) (FM (QI P) 0 0) 0 0 40 [some (va_rf r0), some (.int i1), some (.int i2), none] [] M
  | 0, _, _, _, _, h => h.no
  | k + 1, r0, i1, i2, M, h => sb_X12_runs_40  (s_X12_runs_40  k) r0 i1 i2 M h
theorem sb_X12_runs_12 {d : Nat} {P : Int32 → Mem → Prop} {q12 : Option Nat → Int32 → Mem → Option (Int32 × Mem)} (hq12 : ∀ (r0 : Option Nat) (i1 : Int32) (M : Mem), FQ (q12 r0 i1 M) P → wp Y_X12_runs (rmD (d + 8) 0 0) (FM (QI P) 0 0) 0 0 12 [some (va_rf r0), some (.int i1), none, none] [] M) (r0 : Option Nat) (i1 : Int32) (M : Mem) (h : FQ (b_X12_runs_12 q12 r0 i1 M) P) : wp Y_X12_runs (rmD (d + 8) 0 0) (FM (QI P) 0 0) 0 0 12 [some (va_rf r0), some (.int i1), none, none] [] M := by
  unfold b_X12_runs_12 at h
  refine r_iload_n rfl rfl ?_
  refine r_aload_n rfl rfl ?_
  refine r_getI rfl fl_12_500 rfl h (fun v1 h => ?_)
  refine r_ic_ge 33 rfl (by decide) h (fun h => ?_) (fun h => ?_)
  · refine r_aload_n rfl rfl ?_
    refine r_getI rfl fl_12_500 rfl h (fun v2 h => ?_)
    refine r_istore_n (lo' := [some (va_rf r0), some (.int v2), none, none]) rfl rfl (by simp [stOk, cat_rf]) rfl ?_
    refine r_iconst (v := 1) rfl (by decide) ?_
    refine r_istore_n (lo' := [some (va_rf r0), some (.int v2), some (.int (1 : Int32)), none]) rfl rfl rfl rfl ?_
    exact s_X12_runs_40 FU _ _ _ _ h
  · refine r_aload_n rfl rfl ?_
    refine r_getR rfl fl_12_134 rfl h (fun v3 h => ?_)
    refine r_iload_n rfl rfl ?_
    refine r_iconst (v := 0) rfl (by decide) ?_
    refine r_zast rfl h (fun M1 h => ?_)
    refine r_iinc (v := 1) (lo' := [some (va_rf r0), some (.int (i1 + (1 : Int32))), none, none]) rfl rfl rfl (by decide) (by simp [stOk, cat_rf]) rfl ?_
    refine r_goto 12 rfl (by decide) ?_
    exact hq12 _ _ _ h
theorem s_X12_runs_12 {d : Nat} {P : Int32 → Mem → Prop}   : ∀ (k : Nat) (r0 : Option Nat) (i1 : Int32) (M : Mem), FQ (f_X12_runs_12  k r0 i1 M) P → wp Y_X12_runs (rmD (d + 8) 0 0) (FM (QI P) 0 0) 0 0 12 [some (va_rf r0), some (.int i1), none, none] [] M
  | 0, _, _, _, h => h.no
  | k + 1, r0, i1, M, h => sb_X12_runs_12  (s_X12_runs_12  k) r0 i1 M h
theorem s_X12_runs {d : Nat} {P : Int32 → Mem → Prop} {r0 : Option Nat} {M : Mem} (h : FQ (f_X12_runs r0 M) P) : Con Y_X12_runs (d + 8) 0 0 [va_rf r0] M (QI P) := by
  refine Con.of [some (va_rf r0), none, none, none] (by decide +kernel) dk_X12_runs (by simp [Y_X12_runs, cat_rf, cat_i, cat_l]) (by simp [loE, Y_X12_runs, cat_rf, cat_i, cat_l, List.replicate]) ?_
  unfold f_X12_runs at h
  refine r_aload_n rfl rfl ?_
  refine r_cv_i (vs := []) rfl ml_12_507 rfl (rOk.of rfl) ⟨Nat.zero_le _, Nat.zero_le _⟩ rfl rfl rfl h s_X12_laysStates (fun v1 M1 h => ?_)
  refine r_if_ne 10 rfl (by decide) h (fun h => ?_) (fun h => ?_)
  · refine r_bipush (v := -2) rfl (by decide) ?_
    exact r_iret rfl rfl ⟨Nat.le_of_ble_eq_true rfl, Nat.le_of_ble_eq_true rfl⟩ h
  · refine r_iconst (v := 0) rfl (by decide) ?_
    refine r_istore_n (lo' := [some (va_rf r0), some (.int (0 : Int32)), none, none]) rfl rfl (by simp [stOk, cat_rf]) rfl ?_
    exact s_X12_runs_12 FU _ _ _ h
set_option maxRecDepth 20000 in
theorem dk_X12_states : ∀ pc i, L_X12_states[pc]? = some (some i) → decode prog_14_method_93_code pc = .ok i := dk_of (by decide +kernel)
theorem s_X12_states {d : Nat} {P : Int32 → Mem → Prop} {r0 : Option Nat} {M : Mem} (h : FQ (f_X12_states r0 M) P) : Con Y_X12_states (d + 8) 0 0 [va_rf r0] M (QI P) := by
  refine Con.of [some (va_rf r0)] (by decide +kernel) dk_X12_states (by simp [Y_X12_states, cat_rf, cat_i, cat_l]) (by simp [loE, Y_X12_states, cat_rf, cat_i, cat_l, List.replicate]) ?_
  unfold f_X12_states at h
  refine r_aload_n rfl rfl ?_
  refine r_cv_i (vs := []) rfl ml_12_507 rfl (rOk.of rfl) ⟨Nat.zero_le _, Nat.zero_le _⟩ rfl rfl rfl h s_X12_laysStates (fun v1 M1 h => ?_)
  refine r_if_eq 14 rfl (by decide) h (fun h => ?_) (fun h => ?_)
  · refine r_bipush (v := -2) rfl (by decide) ?_
    exact r_iret rfl rfl ⟨Nat.le_of_ble_eq_true rfl, Nat.le_of_ble_eq_true rfl⟩ h
  · refine r_aload_n rfl rfl ?_
    refine r_getI rfl fl_12_500 rfl h (fun v2 h => ?_)
    refine r_goto 16 rfl (by decide) ?_
    exact r_iret rfl rfl ⟨Nat.le_of_ble_eq_true rfl, Nat.le_of_ble_eq_true rfl⟩ h
set_option maxRecDepth 20000 in
theorem dk_X12_isWord : ∀ pc i, L_X12_isWord[pc]? = some (some i) → decode prog_14_method_16_code pc = .ok i := dk_of (by decide +kernel)
theorem s_X12_isWord {d : Nat} {P : Int32 → Mem → Prop} {r0 : Option Nat} {i1 : Int32} {M : Mem} (h : FQ (f_X12_isWord r0 i1 M) P) : Con Y_X12_isWord d 0 0 [va_rf r0, .int i1] M (QI P) := by
  refine Con.of [some (va_rf r0), some (.int i1)] (by decide +kernel) dk_X12_isWord (by simp [Y_X12_isWord, cat_rf, cat_i, cat_l]) (by simp [loE, Y_X12_isWord, cat_rf, cat_i, cat_l, List.replicate]) ?_
  unfold f_X12_isWord at h
  refine r_aload_n rfl rfl ?_
  refine r_getI rfl fl_12_218 rfl h (fun v1 h => ?_)
  refine r_iconst (v := 1) rfl (by decide) ?_
  refine r_ic_ne 20 rfl (by decide) h (fun h => ?_) (fun h => ?_)
  · refine r_aload_n rfl rfl ?_
    refine r_getI rfl fl_12_230 rfl h (fun v2 h => ?_)
    refine r_iload_n rfl rfl ?_
    refine r_ic_ne 20 rfl (by decide) h (fun h => ?_) (fun h => ?_)
    · refine r_iconst (v := 1) rfl (by decide) ?_
      refine r_goto 21 rfl (by decide) ?_
      exact r_zret rfl rfl ⟨Nat.le_of_ble_eq_true rfl, Nat.le_of_ble_eq_true rfl⟩ h
    · refine r_iconst (v := 0) rfl (by decide) ?_
      exact r_zret rfl rfl ⟨Nat.le_of_ble_eq_true rfl, Nat.le_of_ble_eq_true rfl⟩ h
  · refine r_iconst (v := 0) rfl (by decide) ?_
    exact r_zret rfl rfl ⟨Nat.le_of_ble_eq_true rfl, Nat.le_of_ble_eq_true rfl⟩ h
set_option maxRecDepth 20000 in
theorem dk_X12_opensFrame : ∀ pc i, L_X12_opensFrame[pc]? = some (some i) → decode prog_14_method_19_code pc = .ok i := dk_of (by decide +kernel)
theorem s_X12_opensFrame {d : Nat} {P : Unit → Mem → Prop} {r0 : Option Nat} {i1 : Int32} {M : Mem} (h : FQ (f_X12_opensFrame r0 i1 M) P) : Con Y_X12_opensFrame d 0 0 [va_rf r0, .int i1] M (QV P) := by
  refine Con.of [some (va_rf r0), some (.int i1)] (by decide +kernel) dk_X12_opensFrame (by simp [Y_X12_opensFrame, cat_rf, cat_i, cat_l]) (by simp [loE, Y_X12_opensFrame, cat_rf, cat_i, cat_l, List.replicate]) ?_
  unfold f_X12_opensFrame at h
  refine r_aload_n rfl rfl ?_
  refine r_getR rfl fl_12_54 rfl h (fun v1 h => ?_)
  refine r_aload_n rfl rfl ?_
  refine r_getI rfl fl_12_243 rfl h (fun v2 h => ?_)
  refine r_iload_n rfl rfl ?_
  refine r_iast rfl h (fun M1 h => ?_)
  refine r_aload_n rfl rfl ?_
  refine r_dup rfl (cat_rf _) ?_
  refine r_getI rfl fl_12_243 rfl h (fun v3 h => ?_)
  refine r_iconst (v := 1) rfl (by decide) ?_
  refine r_iadd rfl ?_
  refine r_putI rfl fl_12_243 (fun z => by cases z) rfl h (fun M2 h => ?_)
  exact r_vret rfl rfl ⟨Nat.le_of_ble_eq_true rfl, Nat.le_of_ble_eq_true rfl⟩ h
set_option maxRecDepth 20000 in
theorem dk_X12_errs : ∀ pc i, L_X12_errs[pc]? = some (some i) → decode prog_14_method_17_code pc = .ok i := dk_of (by decide +kernel)
theorem s_X12_errs {d : Nat} {P : Unit → Mem → Prop} {r0 : Option Nat} {i1 : Int32} {M : Mem} (h : FQ (f_X12_errs r0 i1 M) P) : Con Y_X12_errs d 0 0 [va_rf r0, .int i1] M (QV P) := by
  refine Con.of [some (va_rf r0), some (.int i1)] (by decide +kernel) dk_X12_errs (by simp [Y_X12_errs, cat_rf, cat_i, cat_l]) (by simp [loE, Y_X12_errs, cat_rf, cat_i, cat_l, List.replicate]) ?_
  unfold f_X12_errs at h
  refine r_aload_n rfl rfl ?_
  refine r_getI rfl fl_12_234 rfl h (fun v1 h => ?_)
  refine r_if_ne 20 rfl (by decide) h (fun h => ?_) (fun h => ?_)
  · refine r_aload_n rfl rfl ?_
    refine r_iload_n rfl rfl ?_
    refine r_putI rfl fl_12_234 (fun z => by cases z) rfl h (fun M1 h => ?_)
    refine r_aload_n rfl rfl ?_
    refine r_aload_n rfl rfl ?_
    refine r_getI rfl fl_12_215 rfl h (fun v2 h => ?_)
    refine r_putI rfl fl_12_237 (fun z => by cases z) rfl h (fun M2 h => ?_)
    exact r_vret rfl rfl ⟨Nat.le_of_ble_eq_true rfl, Nat.le_of_ble_eq_true rfl⟩ h
  · exact r_vret rfl rfl ⟨Nat.le_of_ble_eq_true rfl, Nat.le_of_ble_eq_true rfl⟩ h
set_option maxRecDepth 20000 in
theorem dk_X12_isLetter : ∀ pc i, L_X12_isLetter[pc]? = some (some i) → decode prog_14_method_12_code pc = .ok i := dk_of (by decide +kernel)
theorem s_X12_isLetter {d : Nat} {P : Int32 → Mem → Prop} {i0 : Int32} {M : Mem} (h : FQ (f_X12_isLetter i0 M) P) : Con Y_X12_isLetter (d + 1) 0 0 [.int i0] M (QI P) := by
  refine Con.of [some (.int i0)] (by decide +kernel) dk_X12_isLetter (by simp [Y_X12_isLetter, cat_rf, cat_i, cat_l]) (by simp [loE, Y_X12_isLetter, cat_rf, cat_i, cat_l, List.replicate]) ?_
  unfold f_X12_isLetter at h
  refine r_iload_n rfl rfl ?_
  refine r_bipush (v := 97) rfl (by decide) ?_
  refine r_bipush (v := 122) rfl (by decide) ?_
  refine r_cs_i (vs := [.int i0, .int (97 : Int32), .int (122 : Int32)]) rfl ml_12_151 (rOk.of rfl) ⟨Nat.zero_le _, Nat.zero_le _⟩ rfl rfl rfl h s_X12_in (fun v1 M1 h => ?_)
  refine r_if_ne 22 rfl (by decide) h (fun h => ?_) (fun h => ?_)
  · refine r_iload_n rfl rfl ?_
    refine r_bipush (v := 65) rfl (by decide) ?_
    refine r_bipush (v := 90) rfl (by decide) ?_
    refine r_cs_i (vs := [.int i0, .int (65 : Int32), .int (90 : Int32)]) rfl ml_12_151 (rOk.of rfl) ⟨Nat.zero_le _, Nat.zero_le _⟩ rfl rfl rfl h s_X12_in (fun v2 M2 h => ?_)
    refine r_if_eq 26 rfl (by decide) h (fun h => ?_) (fun h => ?_)
    · refine r_iconst (v := 0) rfl (by decide) ?_
      exact r_zret rfl rfl ⟨Nat.le_of_ble_eq_true rfl, Nat.le_of_ble_eq_true rfl⟩ h
    · refine r_iconst (v := 1) rfl (by decide) ?_
      refine r_goto 27 rfl (by decide) ?_
      exact r_zret rfl rfl ⟨Nat.le_of_ble_eq_true rfl, Nat.le_of_ble_eq_true rfl⟩ h
  · refine r_iconst (v := 1) rfl (by decide) ?_
    refine r_goto 27 rfl (by decide) ?_
    exact r_zret rfl rfl ⟨Nat.le_of_ble_eq_true rfl, Nat.le_of_ble_eq_true rfl⟩ h
set_option maxRecDepth 20000 in
theorem dk_X12_wordOf : ∀ pc i, L_X12_wordOf[pc]? = some (some i) → decode prog_14_method_13_code pc = .ok i := dk_of (by decide +kernel)
theorem s_X12_wordOf {d : Nat} {P : Int32 → Mem → Prop} {l0 : Int64} {M : Mem} (h : FQ (f_X12_wordOf l0 M) P) : Con Y_X12_wordOf d 0 0 [.long l0] M (QI P) := by
  refine Con.of [some (.long l0), none] (by decide +kernel) dk_X12_wordOf (by simp [Y_X12_wordOf, cat_rf, cat_i, cat_l]) (by simp [loE, Y_X12_wordOf, cat_rf, cat_i, cat_l, List.replicate]) ?_
  unfold f_X12_wordOf at h
  refine r_lload_n rfl rfl ?_
  refine r_ldc2 rfl kl_12_169 ?_
  refine r_lcmp rfl ?_
  refine r_if_ne 10 rfl (by decide) h (fun h => ?_) (fun h => ?_)
  · refine r_iconst (v := 0) rfl (by decide) ?_
    exact r_iret rfl rfl ⟨Nat.le_of_ble_eq_true rfl, Nat.le_of_ble_eq_true rfl⟩ h
  · refine r_lload_n rfl rfl ?_
    refine r_ldc2 rfl kl_12_171 ?_
    refine r_lcmp rfl ?_
    refine r_if_ne 20 rfl (by decide) h (fun h => ?_) (fun h => ?_)
    · refine r_iconst (v := 1) rfl (by decide) ?_
      exact r_iret rfl rfl ⟨Nat.le_of_ble_eq_true rfl, Nat.le_of_ble_eq_true rfl⟩ h
    · refine r_lload_n rfl rfl ?_
      refine r_ldc2 rfl kl_12_173 ?_
      refine r_lcmp rfl ?_
      refine r_if_ne 30 rfl (by decide) h (fun h => ?_) (fun h => ?_)
      · refine r_iconst (v := 2) rfl (by decide) ?_
        exact r_iret rfl rfl ⟨Nat.le_of_ble_eq_true rfl, Nat.le_of_ble_eq_true rfl⟩ h
      · refine r_lload_n rfl rfl ?_
        refine r_ldc2 rfl kl_12_175 ?_
        refine r_lcmp rfl ?_
        refine r_if_ne 40 rfl (by decide) h (fun h => ?_) (fun h => ?_)
        · refine r_iconst (v := 3) rfl (by decide) ?_
          exact r_iret rfl rfl ⟨Nat.le_of_ble_eq_true rfl, Nat.le_of_ble_eq_true rfl⟩ h
        · refine r_lload_n rfl rfl ?_
          refine r_ldc2 rfl kl_12_177 ?_
          refine r_lcmp rfl ?_
          refine r_if_ne 50 rfl (by decide) h (fun h => ?_) (fun h => ?_)
          · refine r_iconst (v := 4) rfl (by decide) ?_
            exact r_iret rfl rfl ⟨Nat.le_of_ble_eq_true rfl, Nat.le_of_ble_eq_true rfl⟩ h
          · refine r_lload_n rfl rfl ?_
            refine r_ldc2 rfl kl_12_179 ?_
            refine r_lcmp rfl ?_
            refine r_if_ne 60 rfl (by decide) h (fun h => ?_) (fun h => ?_)
            · refine r_iconst (v := 5) rfl (by decide) ?_
              exact r_iret rfl rfl ⟨Nat.le_of_ble_eq_true rfl, Nat.le_of_ble_eq_true rfl⟩ h
            · refine r_lload_n rfl rfl ?_
              refine r_ldc2 rfl kl_12_181 ?_
              refine r_lcmp rfl ?_
              refine r_if_ne 71 rfl (by decide) h (fun h => ?_) (fun h => ?_)
              · refine r_bipush (v := 6) rfl (by decide) ?_
                exact r_iret rfl rfl ⟨Nat.le_of_ble_eq_true rfl, Nat.le_of_ble_eq_true rfl⟩ h
              · refine r_lload_n rfl rfl ?_
                refine r_ldc2 rfl kl_12_183 ?_
                refine r_lcmp rfl ?_
                refine r_if_ne 82 rfl (by decide) h (fun h => ?_) (fun h => ?_)
                · refine r_bipush (v := 7) rfl (by decide) ?_
                  exact r_iret rfl rfl ⟨Nat.le_of_ble_eq_true rfl, Nat.le_of_ble_eq_true rfl⟩ h
                · refine r_lload_n rfl rfl ?_
                  refine r_ldc2 rfl kl_12_185 ?_
                  refine r_lcmp rfl ?_
                  refine r_if_ne 93 rfl (by decide) h (fun h => ?_) (fun h => ?_)
                  · refine r_bipush (v := 8) rfl (by decide) ?_
                    exact r_iret rfl rfl ⟨Nat.le_of_ble_eq_true rfl, Nat.le_of_ble_eq_true rfl⟩ h
                  · refine r_lload_n rfl rfl ?_
                    refine r_ldc2 rfl kl_12_187 ?_
                    refine r_lcmp rfl ?_
                    refine r_if_ne 104 rfl (by decide) h (fun h => ?_) (fun h => ?_)
                    · refine r_bipush (v := 9) rfl (by decide) ?_
                      exact r_iret rfl rfl ⟨Nat.le_of_ble_eq_true rfl, Nat.le_of_ble_eq_true rfl⟩ h
                    · refine r_lload_n rfl rfl ?_
                      refine r_ldc2 rfl kl_12_189 ?_
                      refine r_lcmp rfl ?_
                      refine r_if_ne 115 rfl (by decide) h (fun h => ?_) (fun h => ?_)
                      · refine r_bipush (v := 10) rfl (by decide) ?_
                        exact r_iret rfl rfl ⟨Nat.le_of_ble_eq_true rfl, Nat.le_of_ble_eq_true rfl⟩ h
                      · refine r_lload_n rfl rfl ?_
                        refine r_ldc2 rfl kl_12_191 ?_
                        refine r_lcmp rfl ?_
                        refine r_if_ne 126 rfl (by decide) h (fun h => ?_) (fun h => ?_)
                        · refine r_bipush (v := 11) rfl (by decide) ?_
                          exact r_iret rfl rfl ⟨Nat.le_of_ble_eq_true rfl, Nat.le_of_ble_eq_true rfl⟩ h
                        · refine r_lload_n rfl rfl ?_
                          refine r_ldc2 rfl kl_12_193 ?_
                          refine r_lcmp rfl ?_
                          refine r_if_ne 137 rfl (by decide) h (fun h => ?_) (fun h => ?_)
                          · refine r_bipush (v := 12) rfl (by decide) ?_
                            exact r_iret rfl rfl ⟨Nat.le_of_ble_eq_true rfl, Nat.le_of_ble_eq_true rfl⟩ h
                          · refine r_lload_n rfl rfl ?_
                            refine r_ldc2 rfl kl_12_195 ?_
                            refine r_lcmp rfl ?_
                            refine r_if_ne 148 rfl (by decide) h (fun h => ?_) (fun h => ?_)
                            · refine r_bipush (v := 13) rfl (by decide) ?_
                              exact r_iret rfl rfl ⟨Nat.le_of_ble_eq_true rfl, Nat.le_of_ble_eq_true rfl⟩ h
                            · refine r_lload_n rfl rfl ?_
                              refine r_ldc2 rfl kl_12_197 ?_
                              refine r_lcmp rfl ?_
                              refine r_if_ne 159 rfl (by decide) h (fun h => ?_) (fun h => ?_)
                              · refine r_bipush (v := 14) rfl (by decide) ?_
                                exact r_iret rfl rfl ⟨Nat.le_of_ble_eq_true rfl, Nat.le_of_ble_eq_true rfl⟩ h
                              · refine r_lload_n rfl rfl ?_
                                refine r_ldc2 rfl kl_12_199 ?_
                                refine r_lcmp rfl ?_
                                refine r_if_ne 170 rfl (by decide) h (fun h => ?_) (fun h => ?_)
                                · refine r_bipush (v := 15) rfl (by decide) ?_
                                  exact r_iret rfl rfl ⟨Nat.le_of_ble_eq_true rfl, Nat.le_of_ble_eq_true rfl⟩ h
                                · refine r_lload_n rfl rfl ?_
                                  refine r_ldc2 rfl kl_12_201 ?_
                                  refine r_lcmp rfl ?_
                                  refine r_if_ne 181 rfl (by decide) h (fun h => ?_) (fun h => ?_)
                                  · refine r_bipush (v := 16) rfl (by decide) ?_
                                    exact r_iret rfl rfl ⟨Nat.le_of_ble_eq_true rfl, Nat.le_of_ble_eq_true rfl⟩ h
                                  · refine r_lload_n rfl rfl ?_
                                    refine r_ldc2 rfl kl_12_203 ?_
                                    refine r_lcmp rfl ?_
                                    refine r_if_ne 192 rfl (by decide) h (fun h => ?_) (fun h => ?_)
                                    · refine r_bipush (v := 17) rfl (by decide) ?_
                                      exact r_iret rfl rfl ⟨Nat.le_of_ble_eq_true rfl, Nat.le_of_ble_eq_true rfl⟩ h
                                    · refine r_lload_n rfl rfl ?_
                                      refine r_ldc2 rfl kl_12_205 ?_
                                      refine r_lcmp rfl ?_
                                      refine r_if_ne 203 rfl (by decide) h (fun h => ?_) (fun h => ?_)
                                      · refine r_bipush (v := 18) rfl (by decide) ?_
                                        exact r_iret rfl rfl ⟨Nat.le_of_ble_eq_true rfl, Nat.le_of_ble_eq_true rfl⟩ h
                                      · refine r_lload_n rfl rfl ?_
                                        refine r_ldc2 rfl kl_12_207 ?_
                                        refine r_lcmp rfl ?_
                                        refine r_if_ne 214 rfl (by decide) h (fun h => ?_) (fun h => ?_)
                                        · refine r_bipush (v := 19) rfl (by decide) ?_
                                          exact r_iret rfl rfl ⟨Nat.le_of_ble_eq_true rfl, Nat.le_of_ble_eq_true rfl⟩ h
                                        · refine r_iconst (v := -1) rfl (by decide) ?_
                                          exact r_iret rfl rfl ⟨Nat.le_of_ble_eq_true rfl, Nat.le_of_ble_eq_true rfl⟩ h
