/-! ===== loses ===== -/
theorem ln_key {Ls : Nat → Chi} {q m : Nat} (hq : q ∈ TQ) : lnS (fun _ => Ls) 0 q m = true ↔ (tch q m = true ∧ (Ls m (qx q) = true ∨ Ls m (qy q) = true ∨ Ls m (qz q) = true)) := by
  obtain ⟨hq1, hq2⟩ := TQ_tri q hq
  obtain ⟨t1, t2, t3⟩ := tri_lt hq2 hq1
  unfold lnS
  rw [Bool.and_eq_true, any8_t]
  constructor
  · rintro ⟨a, d, d1, d2⟩
    rw [Bool.and_eq_true] at d2
    refine ⟨a, ?_⟩
    rcases tch_or.mp d2.2 with e | e | e
    · rw [← e]; exact Or.inl d2.1
    · rw [← e]; exact Or.inr (Or.inl d2.1)
    · rw [← e]; exact Or.inr (Or.inr d2.1)
  · rintro ⟨a, b | b | b⟩
    · exact ⟨a, qx q, by omega, by show (Ls m (qx q) && tch q (qx q)) = true; rw [b, tch_or.mpr (Or.inl rfl)]; rfl⟩
    · exact ⟨a, qy q, by omega, by show (Ls m (qy q) && tch q (qy q)) = true; rw [b, tch_or.mpr (Or.inr (Or.inl rfl))]; rfl⟩
    · exact ⟨a, qz q, by omega, by show (Ls m (qz q) && tch q (qz q)) = true; rw [b, tch_or.mpr (Or.inr (Or.inr rfl))]; rfl⟩
theorem trip_q {a b c : Int32} {x y z : Nat} (h : isTrip a b c x y z) : ∃ q, q ∈ TQ ∧ qx q = x ∧ qy q = y ∧ qz q = z ∧ t3 x y z = tch q := by
  obtain ⟨h1, h2, h3, -⟩ := h
  have e1 : qx (64 * x + 8 * y + z) = x := by unfold qx; omega
  have e2 : qy (64 * x + 8 * y + z) = y := by unfold qy; omega
  have e3 : qz (64 * x + 8 * y + z) = z := by unfold qz; omega
  refine ⟨64 * x + 8 * y + z, ?_, e1, e2, e3, ?_⟩
  · unfold TQ
    rw [List.mem_filter, List.mem_range'_1]
    refine ⟨by omega, ?_⟩
    unfold tri
    rw [e1, e2, e3, decide_eq_true h1, decide_eq_true h2]
    rfl
  · unfold t3 tch
    rw [e1, e2, e3]
theorem or_bit {χ : Chi} {y : Nat} (hy : y < 8) (c : Bool) : (if c = true then nI (bS χ 8) ||| ((1 : Int32) <<< (nI y &&& 31)) else nI (bS χ 8)) = nI (bS (fun m => χ m || (c && m == y)) 8) := by
  cases c with
  | true =>
    rw [if_pos rfl, bS_addI (by decide) hy]
    exact congrArg nI (bS_ext (fun m _ => by simp))
  | false =>
    rw [if_neg (by decide)]
    exact congrArg nI (bS_ext (fun m _ => by simp))
theorem ld_rr {O : Pos → Chi} {S : Pos → Nat → Nat → Pos} {Q : Nat → Pos} {n : Nat} {op : Nat → Chi} {tg : Nat → Nat} {v : Pos → Nat} {i k a b : Nat} (hG : Grf O S Q n op tg) (hi : i < n) (h1 : a < 8) (h2 : b < 8) (h3 : a ≠ b) (h4 : op i a = true) (h5 : op i b = true) : (ldS O S v k (Q i) a b = true ↔ v (Q (tg (64 * i + 8 * a + b))) = k) ∧ tg (64 * i + 8 * a + b) < n := by
  have e : eg (O (Q i)) a b = true := by
    rw [← hG.1 i hi]
    unfold eg
    rw [h4, h5]
    simp [h3]
  obtain ⟨-, g1, g2⟩ := hG.ex hi h1 h2 e
  refine ⟨?_, g1⟩
  unfold ldS
  rw [e, Bool.true_and, g2]
  simp
theorem lnS_congr {A B : Nat → Nat → Chi} {i j q : Nat} (h : ∀ no dn, A i no dn = B j no dn) : lnS A i q = lnS B j q := by
  unfold lnS
  funext no
  simp only [h]
section CLOSES
variable {w h L : Nat} {s s' : Std} {τ : Nat → Txt} {tp : Nat → Nat} {ln : Nat} {fl fp : Int32} {M : Mem}
/-- what the reference says of the noes that lose -/
theorem y_losesV {nt n : Nat} {O : Pos → Chi} {S : Pos → Nat → Nat → Pos} {Q : Nat → Pos} {v u : Pos → Nat} {op : Nat → Chi} {tg : Nat → Nat} {q : Nat} {a b c : Int32} (hb : Bs w h L nt τ M) (hG : Grf O S Q n op tg) (hF : FoM n op tg M) (hR : RsM n (fun i => v (Q i)) (fun i => u (Q i)) M) (hu : ∀ π, u π < 100000) (hn : n ≤ 2000) (hi : 0 < n) (hq : q ∈ TQ) (ho : inq (op 0) q = true) (ha : a = nI (qx q)) (hb' : b = nI (qy q)) (hc : c = nI (qz q)) : cA (f_X12_lostBy (some 230) (0 : Int32) a b c M) (fun v3 M5 => if (100000 : Int32) ≤ v3 then f_X12_loses_51 (some 230) a b c (0 : Int32) M5 else f_X12_loses_51 (some 230) a b c ((1 : Int32) <<< (a &&& 31)) M5) = some (nI (bS (lnS (fun _ => ldS O S v 2 (Q 0)) 0 q) 8), M) := by
  subst ha hb' hc
  have hl := hb.lay
  obtain ⟨hq1, hq2⟩ := TQ_tri q hq
  have h3 := op3_q (op := op) (i := 0) hq1 hq2 ho
  obtain ⟨⟨v1, v2⟩, ⟨v3, v4⟩, v5, v6⟩ := h3.v
  obtain ⟨o1, o2, o3, o4, o5, o6, o7, o8, o9⟩ := id h3
  have e1 := y_lostBy hb hF hR hn hi o1 o2 o3 v1 v2
  have e2 := y_lostBy hb hF hR hn hi o2 o1 o3 v3 v4
  have e3 := y_lostBy hb hF hR hn hi o3 o1 o2 v5 v6
  have l1 := lbN_le (rr := fun i => v (Q i)) (tm := fun i => u (Q i)) (hR.le hF (by omega) v1) (hR.le hF (by omega) v2)
  have l2 := lbN_le (rr := fun i => v (Q i)) (tm := fun i => u (Q i)) (hR.le hF (by omega) v3) (hR.le hF (by omega) v4)
  have l3 := lbN_le (rr := fun i => v (Q i)) (tm := fun i => u (Q i)) (hR.le hF (by omega) v5) (hR.le hF (by omega) v6)
  have k1 := lbN_lt (rr := fun i => v (Q i)) (tm := fun i => u (Q i)) (a := tg (64 * 0 + 8 * qx q + qy q)) (b := tg (64 * 0 + 8 * qx q + qz q)) (B := 100000) (Nat.le_refl _) (fun _ => hu _) (fun _ => hu _)
  have k2 := lbN_lt (rr := fun i => v (Q i)) (tm := fun i => u (Q i)) (a := tg (64 * 0 + 8 * qy q + qx q)) (b := tg (64 * 0 + 8 * qy q + qz q)) (B := 100000) (Nat.le_refl _) (fun _ => hu _) (fun _ => hu _)
  have k3 := lbN_lt (rr := fun i => v (Q i)) (tm := fun i => u (Q i)) (a := tg (64 * 0 + 8 * qz q + qx q)) (b := tg (64 * 0 + 8 * qz q + qy q)) (B := 100000) (Nat.le_refl _) (fun _ => hu _) (fun _ => hu _)
  generalize hL1 : lbN (fun i => v (Q i)) (fun i => u (Q i)) (tg (64 * 0 + 8 * qx q + qy q)) (tg (64 * 0 + 8 * qx q + qz q)) = L1 at *
  generalize hL2 : lbN (fun i => v (Q i)) (fun i => u (Q i)) (tg (64 * 0 + 8 * qy q + qx q)) (tg (64 * 0 + 8 * qy q + qz q)) = L2 at *
  generalize hL3 : lbN (fun i => v (Q i)) (fun i => u (Q i)) (tg (64 * 0 + 8 * qz q + qx q)) (tg (64 * 0 + 8 * qz q + qy q)) = L3 at *
  have s78 : ∀ χ : Chi, f_X12_loses_78 (some 230) (nI (qx q)) (nI (qy q)) (nI (qz q)) (nI (bS χ 8)) M = some (nI (bS (fun m => χ m || (decide (L3 < 100000) && m == qz q)) 8), M) := by
    intro χ
    rw [← or_bit o3]
    unfold f_X12_loses_78
    rw [cR_t (ly_t230 hl), show f_X12_lostBy (some 230) (0 : Int32) (nI (qz q)) (nI (qx q)) (nI (qy q)) M = _ from e3, cA_s]
    by_cases z : L3 < 100000
    · rw [if_neg (show ¬ (100000 : Int32) ≤ nI L3 from nI_ge (b := 100000) z (by decide)), if_pos (decide_eq_true z)]
    · rw [if_pos (show (100000 : Int32) ≤ nI L3 from nI_le (a := 100000) (by omega) (by omega)), if_neg (by simpa using z)]
  have s51 : ∀ χ : Chi, f_X12_loses_51 (some 230) (nI (qx q)) (nI (qy q)) (nI (qz q)) (nI (bS χ 8)) M = some (nI (bS (fun m => (χ m || (decide (L2 < 100000) && m == qy q)) || (decide (L3 < 100000) && m == qz q)) 8), M) := by
    intro χ
    rw [← s78, ← or_bit o2]
    unfold f_X12_loses_51
    rw [cR_t (ly_t230 hl), show f_X12_lostBy (some 230) (0 : Int32) (nI (qy q)) (nI (qx q)) (nI (qz q)) M = _ from e2, cA_s]
    by_cases z : L2 < 100000
    · rw [if_neg (show ¬ (100000 : Int32) ≤ nI L2 from nI_ge (b := 100000) z (by decide)), if_pos (decide_eq_true z)]
    · rw [if_pos (show (100000 : Int32) ≤ nI L2 from nI_le (a := 100000) (by omega) (by omega)), if_neg (by simpa using z)]
  rw [show f_X12_lostBy (some 230) (0 : Int32) (nI (qx q)) (nI (qy q)) (nI (qz q)) M = _ from e1, cA_s]
  have fin : f_X12_loses_51 (some 230) (nI (qx q)) (nI (qy q)) (nI (qz q)) (nI (bS (fun m => decide (L1 < 100000) && m == qx q) 8)) M = some (nI (bS (lnS (fun _ => ldS O S v 2 (Q 0)) 0 q) 8), M) := by
    rw [s51]
    congr 3
    refine bS_ext (fun m _ => ?_)
    rw [Bool.eq_iff_iff, ln_key hq, tch_or]
    have dg : ∀ m, ldS O S v 2 (Q 0) m m = false := fun m => by unfold ldS eg; simp
    have r1 := (ld_rr (v := v) (k := 2) hG hi o1 o2 o4 o7 o8).1
    have r2 := (ld_rr (v := v) (k := 2) hG hi o1 o3 o5 o7 o9).1
    have r3 := (ld_rr (v := v) (k := 2) hG hi o2 o1 o4.symm o8 o7).1
    have r4 := (ld_rr (v := v) (k := 2) hG hi o2 o3 o6 o8 o9).1
    have r5 := (ld_rr (v := v) (k := 2) hG hi o3 o1 o5.symm o9 o7).1
    have r6 := (ld_rr (v := v) (k := 2) hG hi o3 o2 o6.symm o9 o8).1
    simp only [Bool.or_eq_true, Bool.and_eq_true, decide_eq_true_eq, beq_iff_eq, k1, k2, k3]
    constructor
    · rintro ((⟨z, rfl⟩ | ⟨z, rfl⟩) | ⟨z, rfl⟩)
      · refine ⟨Or.inl rfl, Or.inr ?_⟩
        rw [r1, r2]; exact z
      · refine ⟨Or.inr (Or.inl rfl), ?_⟩
        rw [r3, r4]
        rcases z with z | z
        · exact Or.inl z
        · exact Or.inr (Or.inr z)
      · refine ⟨Or.inr (Or.inr rfl), ?_⟩
        rw [r5, r6]
        rcases z with z | z
        · exact Or.inl z
        · exact Or.inr (Or.inl z)
    · rintro ⟨rfl | rfl | rfl, z⟩
      · rw [dg, r1, r2] at z
        rcases z with z | z | z
        · cases z
        · exact Or.inl (Or.inl ⟨Or.inl z, rfl⟩)
        · exact Or.inl (Or.inl ⟨Or.inr z, rfl⟩)
      · rw [dg, r3, r4] at z
        rcases z with z | z | z
        · exact Or.inl (Or.inr ⟨Or.inl z, rfl⟩)
        · cases z
        · exact Or.inl (Or.inr ⟨Or.inr z, rfl⟩)
      · rw [dg, r5, r6] at z
        rcases z with z | z | z
        · exact Or.inr ⟨Or.inl z, rfl⟩
        · exact Or.inr ⟨Or.inr z, rfl⟩
        · cases z
  by_cases z : L1 < 100000
  · rw [if_neg (show ¬ (100000 : Int32) ≤ nI L1 from nI_ge (b := 100000) z (by decide)), sh_one o1, ← fin]
    congr 2
    exact bS_ext (fun m _ => by rw [decide_eq_true z, Bool.true_and])
  · rw [if_pos (show (100000 : Int32) ≤ nI L1 from nI_le (a := 100000) (by omega) (by omega)), ← fin]
    congr 1
    rw [decide_eq_false z]
    simp only [Bool.false_and]
    rw [bS_0]
    rfl
theorem c_loses {a b c : Int32} (hr : Rel w h L s s' τ tp ln fl fp M) : EndC w h L s s' τ tp ln fl fp M (f_X11_loses (some 8) a b c) (f_X12_loses (some 230) a b c) := by
  have hp := hr.1.1
  have hl := hp.1.lay
  have hX := hp.2.2.1
  obtain ⟨M1, a1, a2, a3⟩ := x_isOver hp.1 hp.2.1.2.1 hp.2.1.1.1 pa10 hX.1 hX.2.2.2.2.2.2
  have hr1 := hr.fy a2 (by decide) (by decide) (by decide)
  have hl1 := hr1.1.1.1.lay
  -- what the reference does where no offer is told
  have no : (∀ N2, Bs w h L (stN s) τ N2 → mI N2 230 49 = nI (bS (ablS w h (tT τ (stB s)) (stP s)) 8) → f_X12_isOffer (some 230) a b c N2 = some (nI 0, N2)) → ∃ M2, f_X12_loses (some 230) a b c M1 = some (-1, M2) ∧ Rel w h L s s' τ tp ln fl fp M2 := by
    intro hof
    obtain ⟨N1, N2, b1, b2, b3, b4, b5, b6, b7⟩ := y_lay hr1.1.1
    refine ⟨N2, ?_, hr1.fy b5 (by decide) (by decide) (by decide)⟩
    unfold f_X12_loses
    rw [cR_t (ly_t230 hl1), b1, cA_s, cR_t (ly_t230 b3.lay), b2, cA_s, cR_t (ly_t230 b4.lay), hof N2 b4 (laid_abl b7), cA_s, if_pos (by decide)]
  by_cases ht : ∃ x y z, isTrip a b c x y z
  · obtain ⟨x, y, z, ht⟩ := ht
    obtain ⟨q, hq, q1, q2, q3, q4⟩ := trip_q ht
    obtain ⟨hq1, hq2⟩ := TQ_tri q hq
    have hbits : f_X10_bitsOf a b c M = some (nI (bS (tch q) 8), M) := by rw [x_bitsOf ht, q4]
    obtain ⟨t1, t2, t3', ea, eb, ec⟩ := id ht
    have hnq : inq (ablS w h (tT τ (stB s)) (stP s)) q = false → ∀ N2, Bs w h L (stN s) τ N2 → mI N2 230 49 = nI (bS (ablS w h (tT τ (stB s)) (stP s)) 8) → f_X12_isOffer (some 230) a b c N2 = some (nI 0, N2) := by
      intro hz N2 hb2 h49
      rw [y_isOffer hb2 h49 ht, if_neg]
      rintro ⟨z1, z2, z3⟩
      unfold inq at hz
      rw [q1, q2, q3, z1, z2, z3] at hz
      cases hz
    have h3 : inq (ablS w h (tT τ (stB s)) (stP s)) q = true → ¬ popC (ablS w h (tT τ (stB s)) (stP s)) 8 < 3 := by
      intro hz
      unfold inq at hz
      simp only [Bool.and_eq_true] at hz
      have := popC_3 (tri_lt hq2 hq1) hz.1.1 hz.1.2 hz.2
      omega
    by_cases hov : popC (ablS w h (tT τ (stB s)) (stP s)) 8 < 3
    · have hz : inq (ablS w h (tT τ (stB s)) (stP s)) q = false := by
        cases hz : inq (ablS w h (tT τ (stB s)) (stP s)) q
        · rfl
        · exact absurd hov (h3 hz)
      obtain ⟨M2, n1, n2⟩ := no (hnq hz)
      refine ⟨-1, M1, M2, ?_, n1, n2⟩
      unfold f_X11_loses
      rw [hbits, cA_s, gR_t (ly_t8 hl), ly_r8_2 hl, gR_t (ly_t9 hl), ly_r9_0 hl, cR_t (ly_t8 hl), a1, cA_s, if_pos hov, if_neg (by decide)]
    · have start : f_X11_loses (some 8) a b c M = (if (nI (bS (tch q) 8) &&& nI (bS (ablS w h (tT τ (stB s)) (stP s)) 8)) = nI (bS (tch q) 8) then cA (f_X11_solved (some 8) (some 10) M1) (fun v9 M3 => if v9 = 0 then some ((-2 : Int32), M3) else gR M3 (some 8) 11 11 fun v10 => cR M3 v10 (1, 0) (cA (f_X0_losingNoes v10 (0 : Int32) (nI (bS (tch q) 8)) M3) fun v11 M4 => some (v11, M4))) else some ((-1 : Int32), M1)) := by
        unfold f_X11_loses
        rw [hbits, cA_s, gR_t (ly_t8 hl), ly_r8_2 hl, gR_t (ly_t9 hl), ly_r9_0 hl, cR_t (ly_t8 hl), a1, cA_s, if_neg hov, if_pos (by decide), if_neg (tch_ne hq), gR_t (ly_t8 hl1), ly_r8_8 hl1, gI_t (ly_t203 hl1), a3.abl, gR_t (ly_t8 hl1), ly_r8_2 hl1, gR_t (ly_t9 hl1), ly_r9_0 hl1, cR_t (ly_t8 hl1)]
      cases hz : inq (ablS w h (tT τ (stB s)) (stP s)) q with
      | false =>
        obtain ⟨M2, n1, n2⟩ := no (hnq hz)
        refine ⟨-1, M1, M2, ?_, n1, n2⟩
        rw [start, if_neg (fun y => by rw [(tch_sub hq1).mp y] at hz; cases hz)]
      | true =>
        have hop : opS w h (tT τ (stB s)) (stP s) = ablS w h (tT τ (stB s)) (stP s) := by
          funext m
          unfold opS
          rw [decide_eq_false hov]
          rfl
        obtain ⟨v, M3, c1, c2, c3⟩ := x_slv hr1
        have hl3 := c2.1.1.1.lay
        obtain ⟨N1, N2, b1, b2, b3, b4, b5, b6, b7⟩ := y_lay c2.1.1
        have hr2 := c2.fy b5 (by decide) (by decide) (by decide)
        have hs2 := c3.fx b5 (by decide)
        have hio : f_X12_isOffer (some 230) a b c N2 = some (nI 1, N2) := by
          rw [y_isOffer b4 (laid_abl b7) ht, if_pos]
          unfold inq at hz
          simp only [Bool.and_eq_true] at hz
          rw [q1, q2, q3] at hz
          exact ⟨hz.1.1, hz.1.2, hz.2⟩
        rw [if_pos ((tch_sub hq1).mpr hz), c1, cA_s] at start
        rcases y_slv hr2 hs2 with ⟨rfl, Q, n, tg, Q', n', tg', M4, d1, d2, d3, d4, d5, d6⟩ | ⟨rfl, M4, d1, d2⟩
        · rw [if_neg (by decide), gR_t (ly_t8 hl3), ly_r8_11 hl3, cR_t (ly_t220 hl3)] at start
          rcases c3.2.2 with ⟨z0, -, -⟩ | ⟨-, -, Qc, nc, tgc, hS⟩
          · cases z0
          obtain ⟨f0, f1⟩ := hS.1.2.2.2.1
          obtain ⟨g0, g1⟩ := d5.1.2.2.2.1
          have e1 := x_losing (q := q) c2.1.1.1 hS.2.2.2.2.2.2.1 f0 hS.1.1
          rw [show f_X0_losingNoes (some 220) (0 : Int32) (nI (bS (tch q) 8)) M3 = _ from e1, cA_s] at start
          have e2 := y_losesV (q := q) (a := a) (b := b) (c := c) (v := FR w h (tT τ (stB s))) (u := FT w h (tT τ (stB s))) d2.1.1.1 d5.2.2.1 d5.2.2.2 d6 (fun π => by have := FT_le (w := w) (h := h) (T := tT τ (stB s)) (π := π); omega) d5.1.1 g0 hq (by show inq (opS w h (tT τ (stB s)) (Q' 0)) q = true; rw [g1, hop]; exact hz) (by rw [q1]; exact ea) (by rw [q2]; exact eb) (by rw [q3]; exact ec)
          refine ⟨_, M3, M4, start, ?_, d2⟩
          unfold f_X12_loses
          rw [cR_t (ly_t230 hl3), b1, cA_s, cR_t (ly_t230 b3.lay), b2, cA_s, cR_t (ly_t230 b4.lay), hio, cA_s, if_neg (by decide), cR_t (ly_t230 b4.lay), d1, cA_s, if_neg (by decide), cR_t (ly_t230 d2.1.1.1.lay)]
          refine Eq.trans e2 ?_
          rw [g1, ← f1, lnS_congr (A := fun _ => ldS (opS w h (tT τ (stB s))) (sucS w h (tT τ (stB s))) (FR w h (tT τ (stB s))) 2 (Qc 0)) (B := fun i => ldS (opS w h (tT τ (stB s))) (sucS w h (tT τ (stB s))) (rsS (opS w h (tT τ (stB s))) (sucS w h (tT τ (stB s))) 2000) 2 (Qc i)) (i := 0) (j := 0) (fun _ _ => rfl)]
        · rw [if_pos (by decide)] at start
          refine ⟨-2, M3, M4, start, ?_, d2⟩
          unfold f_X12_loses
          rw [cR_t (ly_t230 hl3), b1, cA_s, cR_t (ly_t230 b3.lay), b2, cA_s, cR_t (ly_t230 b4.lay), hio, cA_s, if_neg (by decide), cR_t (ly_t230 b4.lay), d1, cA_s, if_pos (by decide)]
  · have hbits : f_X10_bitsOf a b c M = some (0, M) := x_bitsOf_n ht
    obtain ⟨M2, n1, n2⟩ := no (fun N2 hb2 h49 => y_isOffer_n hb2 h49 ht)
    refine ⟨-1, M1, M2, ?_, n1, n2⟩
    unfold f_X11_loses
    rw [hbits, cA_s, gR_t (ly_t8 hl), ly_r8_2 hl, gR_t (ly_t9 hl), ly_r9_0 hl, cR_t (ly_t8 hl), a1, cA_s]
    by_cases hov : popC (ablS w h (tT τ (stB s)) (stP s)) 8 < 3
    · rw [if_pos hov, if_neg (by decide)]
    · rw [if_neg hov, if_pos (by decide), if_pos rfl]
end CLOSES
