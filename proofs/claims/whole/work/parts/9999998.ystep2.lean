/-! ===== the reference reads: its steps, one by one ===== -/
theorem tNm_mm {tp : Nat → Nat} {ln a : Nat} : tNm tp ln a = min 10000 (tMm tp ln a) := nm_eq _ _ 0 0 (by decide)
theorem rw_hi : ∀ t, t < 20 → (t = 0 → rwT t = 0) ∧ (0 < t → t ≤ 6 → rwT t = 13 + t) ∧ (6 < t → 0 < rwT t ∧ rwT t ≤ 13) := by decide +kernel
theorem cmp_sg : ∀ t, t < 27 → 21 ≤ t → moC (10000 + t) = sgM t ∧ mvC (10000 + t) = 0 := by decide +kernel
theorem y_isAsk {M : Mem} : ∀ t, t < 35 → 21 ≤ t → f_X12_isAsking (nI (sgM t)) M = some (nI (decide (t ≤ 26)).toNat, M) := fun t h1 h2 => by
  rcases (show t = 21 ∨ t = 22 ∨ t = 23 ∨ t = 24 ∨ t = 25 ∨ t = 26 ∨ t = 27 ∨ t = 28 ∨ t = 29 ∨ t = 30 ∨ t = 31 ∨ t = 32 ∨ t = 33 ∨ t = 34 by omega) with rfl | rfl | rfl | rfl | rfl | rfl | rfl | rfl | rfl | rfl | rfl | rfl | rfl | rfl <;> rfl
section YSTEP2
variable {pl L : Nat} {tp : Nat → Nat} {ln st a op : Nat} {F W O : List (Nat × Nat)} {M : Mem}
theorem S_not (h : CfM pl L tp ln 0 a op F W O M) (ht : tTk tp ln a = 19) (ho : op < 8) (hF : F.length < 40) (ha : a ≤ ln) : ∃ M', Rn 1 M M' ∧ Fx zA zF M M' ∧ CfM pl L tp ln 0 (tNx tp ln a) (op + 1) ((3, 0) :: F) W O M' := by
  obtain ⟨M1, a1, a2, a3⟩ := y_opens (k := 3) h (by decide) hF ha ho
  refine ⟨M1, y_r0 h ?_, a2, a3⟩
  have hw := y_isWord h (t := 19) (by decide)
  rw [decide_eq_true ht] at hw
  unfold f_X12_asks
  rw [cR_t (ly_t230 h.1), show f_X12_isWord (some 230) (13 : Int32) M = _ from hw, cA_s, if_neg (by decide), cR_t (ly_t230 h.1), show f_X12_opensSign (some 230) (3 : Int32) M = _ from a1, cA_s]
theorem S_notN (h : CfM pl L tp ln 0 a 8 F W O M) (ht : tTk tp ln a = 19) : ∃ M', Rn 1 M M' ∧ Fx zA zF M M' ∧ FlM pl L 3 (tSt tp ln a) tp ln M' := by
  obtain ⟨M1, a1, a2, a3⟩ := y_opensN (k := 3) h
  refine ⟨M1, y_r0 h ?_, a2, a3⟩
  have hw := y_isWord h (t := 19) (by decide)
  rw [decide_eq_true ht] at hw
  unfold f_X12_asks
  rw [cR_t (ly_t230 h.1), show f_X12_isWord (some 230) (13 : Int32) M = _ from hw, cA_s, if_neg (by decide), cR_t (ly_t230 h.1), show f_X12_opensSign (some 230) (3 : Int32) M = _ from a1, cA_s]
theorem S_left (h : CfM pl L tp ln 0 a op F W O M) (ht : tTk tp ln a ≠ 19) (hF : F.length < 40) : ∃ M', Rn 1 M M' ∧ Fx zA zF M M' ∧ CfM pl L tp ln 1 a op ((4, 0) :: F) W O M' := by
  obtain ⟨M1, a1, a2, a3⟩ := y_push (k := 4) h hF (by decide)
  refine ⟨sI M1 230 32 (nI 1), y_r0 h ?_, a2.I (Or.inr (by decide)), a3.chS 1⟩
  have hw := y_isWord h (t := 19) (by decide)
  rw [decide_eq_false ht] at hw
  unfold f_X12_asks
  rw [cR_t (ly_t230 h.1), show f_X12_isWord (some 230) (13 : Int32) M = _ from hw, cA_s, if_pos (by decide), cR_t (ly_t230 h.1), show f_X12_opensFrame (some 230) (4 : Int32) M = _ from a1, cA_s, pI_t (ly_t230 a3.1)]
  rfl
theorem S_leaf {f : Nat × Nat} {j v : Nat} (h : CfM pl L tp ln 1 a (op + j) (List.replicate j (7, 0) ++ f :: F) W O M) (hf : f.1 ≠ 7) (hj : j + F.length < 39) (hO : O.length + j < 400) (ha : a ≤ ln) (hv : (tTk tp ln a = 20 ∧ tNm tp ln a ≤ 9999 ∧ v = tNm tp ln a) ∨ (tTk tp ln a ≤ 6 ∧ v = 10000 + tTk tp ln a)) : ∃ M', Rn 1 M M' ∧ Fx zA zF M M' ∧ CfM pl L tp ln 2 (tNx tp ln a) op (f :: F) W (O ++ cod (v :: List.replicate j 10037)) M' := by
  obtain ⟨M1, a1, a2, a3⟩ := y_emitC h (by omega) v
  obtain ⟨M2, b1, b2, b3⟩ := a3.nx ha
  obtain ⟨M3, d1, d2, d3⟩ := y_oneOver hf j FU _ M2 (by unfold FU; omega) hj (by simp [cod]; omega) b3
  rw [List.append_assoc, ← cod_app] at d3
  refine ⟨M3, y_r1 h ?_, (a2.tr b2).tr d2, d3⟩
  have d1 : f_X12_oneIsOver (some 230) M2 = some ((), M3) := d1
  have hs := h.srt
  unfold f_X12_begins
  rw [gI_t (ly_t230 h.1), hs]
  rcases hv with ⟨e, en, rfl⟩ | ⟨e, rfl⟩
  · have hm : tNm tp ln a = tMm tp ln a := by have := tNm_mm (tp := tp) (ln := ln) (a := a); omega
    have hn := h.nm e
    rw [hm] at en a1
    rw [if_pos (show nI (srt (tTk tp ln a)) = (2 : Int32) by rw [e]; rfl), gI_t (ly_t230 h.1), hn, if_pos (show nI (tMm tp ln a) ≤ (9999 : Int32) from nI_le (b := 9999) en (by decide)), gI_t (ly_t230 h.1), hn, cR_t (ly_t230 h.1)]
    have e1 : moC (tMm tp ln a) = 400 := by unfold moC; rw [if_pos (by omega)]
    have e2 : mvC (tMm tp ln a) = tMm tp ln a := by unfold mvC; rw [if_pos (by omega)]
    rw [e1, e2] at a1
    rw [show f_X12_emits (some 230) (400 : Int32) (nI (tMm tp ln a)) M = _ from a1, cA_s, cR_t (ly_t230 a3.1), b1, cA_s, cR_t (ly_t230 b3.1), d1, cA_s]
  · have e1 : moC (10000 + tTk tp ln a) = 401 := by unfold moC; rw [if_neg (by omega), if_pos (by omega)]
    have e2 : mvC (10000 + tTk tp ln a) = tTk tp ln a := by unfold mvC; rw [if_neg (by omega), if_pos (by omega)]; omega
    rw [e1, e2] at a1
    obtain ⟨r1, r2, r3⟩ := rw_hi (tTk tp ln a) (by omega)
    have hw := h.wd (by omega)
    have hsr : srt (tTk tp ln a) = 1 := by unfold srt; rw [if_pos (by omega)]
    rw [hsr, if_neg (show ¬ nI 1 = (2 : Int32) by decide), gI_t (ly_t230 h.1), hs, hsr, if_pos (show nI 1 = (1 : Int32) from rfl), gI_t (ly_t230 h.1), hw]
    by_cases z : tTk tp ln a = 0
    · rw [z] at a1
      rw [r1 z, if_neg (show ¬ (13 : Int32) < nI 0 by decide), gI_t (ly_t230 h.1), hw, r1 z, if_pos (show nI 0 = (0 : Int32) from rfl)]
      unfold f_X12_begins_70
      rw [gI_t (ly_t230 h.1), hw, r1 z, if_pos (show nI 0 = (0 : Int32) from rfl), cR_t (ly_t230 h.1), show f_X12_emits (some 230) (401 : Int32) (0 : Int32) M = _ from a1, cA_s, cR_t (ly_t230 a3.1), b1, cA_s, cR_t (ly_t230 b3.1), d1, cA_s]
    · have hr := r2 (by omega) e
      rw [hr, if_pos (show (13 : Int32) < nI (13 + tTk tp ln a) from nI_lt (a := 13) (by omega) (by omega))]
      unfold f_X12_begins_70
      rw [gI_t (ly_t230 h.1), hw, hr, if_neg (show ¬ nI (13 + tTk tp ln a) = (0 : Int32) from nIne (b := 0) (by omega) (by decide) (by omega)), gI_t (ly_t230 h.1), hw, hr, show (13 : Int32) = nI 13 from rfl, pk_sub (by omega), show 13 + tTk tp ln a - 13 = tTk tp ln a by omega, cR_t (ly_t230 h.1), show f_X12_emits (some 230) (401 : Int32) (nI (tTk tp ln a)) M = _ from a1, cA_s, cR_t (ly_t230 a3.1), b1, cA_s, cR_t (ly_t230 b3.1), d1, cA_s]
theorem S_big (h : CfM pl L tp ln 1 a op F W O M) (e : tTk tp ln a = 20) (en : ¬ tNm tp ln a ≤ 9999) (hmm : tMm tp ln a < 1000000) : ∃ M', Rn 1 M M' ∧ Fx zA zF M M' ∧ FlM pl L 2 (tSt tp ln a) tp ln M' := by
  obtain ⟨M1, a1, a2, a3⟩ := y_errs (k := 2) h (by decide)
  refine ⟨M1, y_r1 h ?_, a2, a3⟩
  have hm := tNm_mm (tp := tp) (ln := ln) (a := a)
  unfold f_X12_begins
  rw [gI_t (ly_t230 h.1), h.srt, if_pos (show nI (srt (tTk tp ln a)) = (2 : Int32) by rw [e]; rfl), gI_t (ly_t230 h.1), h.nm e, if_neg (show ¬ nI (tMm tp ln a) ≤ (9999 : Int32) from nI_ge (a := 9999) (by omega) (by omega)), cR_t (ly_t230 h.1), show f_X12_errs (some 230) (2 : Int32) M = _ from a1, cA_s]
theorem y_b106 (h : CfM pl L tp ln 1 a op F W O M) (e20 : tTk tp ln a ≠ 20) (e6 : 6 < tTk tp ln a) : f_X12_begins (some 230) M = f_X12_begins_106 (some 230) M := by
  have hs := h.srt
  unfold f_X12_begins
  rw [gI_t (ly_t230 h.1), hs]
  by_cases z : tTk tp ln a < 20
  · have hsr : srt (tTk tp ln a) = 1 := by unfold srt; rw [if_pos z]
    obtain ⟨r1, r2, r3⟩ := rw_hi (tTk tp ln a) z
    have hr := r3 e6
    rw [hsr, if_neg (show ¬ nI 1 = (2 : Int32) by decide), gI_t (ly_t230 h.1), hs, hsr, if_pos (show nI 1 = (1 : Int32) from rfl), gI_t (ly_t230 h.1), h.wd z, if_neg (show ¬ (13 : Int32) < nI (rwT (tTk tp ln a)) from nI_nlt (a := 13) (by omega) (by omega)), gI_t (ly_t230 h.1), h.wd z, if_neg (show ¬ nI (rwT (tTk tp ln a)) = (0 : Int32) from nIne (b := 0) (by omega) (by decide) (by omega))]
  · have h1 : srt (tTk tp ln a) ≠ 1 := srt_n1 z
    have h2 : srt (tTk tp ln a) ≠ 2 := by
      unfold srt
      rw [if_neg z, if_neg e20]
      repeat' split
      all_goals decide
    have hb := srt_b (t := tTk tp ln a)
    rw [if_neg (show ¬ nI (srt (tTk tp ln a)) = (2 : Int32) from nIne (b := 2) (by omega) (by decide) h2), gI_t (ly_t230 h.1), hs, if_neg (show ¬ nI (srt (tTk tp ln a)) = (1 : Int32) from nIne (b := 1) (by omega) (by decide) h1)]
theorem S_par (h : CfM pl L tp ln 1 a op F W O M) (ht : tTk tp ln a = 31) (ho : op < 8) (hF : F.length < 40) (ha : a ≤ ln) : ∃ M', Rn 1 M M' ∧ Fx zA zF M M' ∧ CfM pl L tp ln 1 (tNx tp ln a) (op + 1) ((6, 0) :: F) W O M' := by
  obtain ⟨M1, a1, a2, a3⟩ := y_opens (k := 6) h (by decide) hF ha ho
  refine ⟨M1, y_r1 h ?_, a2, a3⟩
  have hw := y_isSign h (t := 31) (by decide) (by decide)
  rw [decide_eq_true ht] at hw
  rw [y_b106 h (by omega) (by omega)]
  unfold f_X12_begins_106
  rw [cR_t (ly_t230 h.1), show f_X12_isSign (some 230) (40 : Int32) M = _ from hw, cA_s, if_neg (by decide), cR_t (ly_t230 h.1), show f_X12_opensSign (some 230) (6 : Int32) M = _ from a1, cA_s]
theorem S_parN (h : CfM pl L tp ln 1 a 8 F W O M) (ht : tTk tp ln a = 31) : ∃ M', Rn 1 M M' ∧ Fx zA zF M M' ∧ FlM pl L 3 (tSt tp ln a) tp ln M' := by
  obtain ⟨M1, a1, a2, a3⟩ := y_opensN (k := 6) h
  refine ⟨M1, y_r1 h ?_, a2, a3⟩
  have hw := y_isSign h (t := 31) (by decide) (by decide)
  rw [decide_eq_true ht] at hw
  rw [y_b106 h (by omega) (by omega)]
  unfold f_X12_begins_106
  rw [cR_t (ly_t230 h.1), show f_X12_isSign (some 230) (40 : Int32) M = _ from hw, cA_s, if_neg (by decide), cR_t (ly_t230 h.1), show f_X12_opensSign (some 230) (6 : Int32) M = _ from a1, cA_s]
theorem S_min (h : CfM pl L tp ln 1 a op F W O M) (ht : tTk tp ln a = 28) (ho : op < 8) (hF : F.length < 40) (ha : a ≤ ln) : ∃ M', Rn 1 M M' ∧ Fx zA zF M M' ∧ CfM pl L tp ln 1 (tNx tp ln a) (op + 1) ((7, 0) :: F) W O M' := by
  obtain ⟨M1, a1, a2, a3⟩ := y_opens (k := 7) h (by decide) hF ha ho
  refine ⟨M1, y_r1 h ?_, a2, a3⟩
  have hw := y_isSign h (t := 31) (by decide) (by decide)
  rw [decide_eq_false (by omega)] at hw
  have hw2 := y_isSign h (t := 28) (by decide) (by decide)
  rw [decide_eq_true ht] at hw2
  rw [y_b106 h (by omega) (by omega)]
  unfold f_X12_begins_106
  rw [cR_t (ly_t230 h.1), show f_X12_isSign (some 230) (40 : Int32) M = _ from hw, cA_s, if_pos (by decide), cR_t (ly_t230 h.1), show f_X12_isSign (some 230) (45 : Int32) M = _ from hw2, cA_s, if_neg (by decide), cR_t (ly_t230 h.1), show f_X12_opensSign (some 230) (7 : Int32) M = _ from a1, cA_s]
theorem S_minN (h : CfM pl L tp ln 1 a 8 F W O M) (ht : tTk tp ln a = 28) : ∃ M', Rn 1 M M' ∧ Fx zA zF M M' ∧ FlM pl L 3 (tSt tp ln a) tp ln M' := by
  obtain ⟨M1, a1, a2, a3⟩ := y_opensN (k := 7) h
  refine ⟨M1, y_r1 h ?_, a2, a3⟩
  have hw := y_isSign h (t := 31) (by decide) (by decide)
  rw [decide_eq_false (by omega)] at hw
  have hw2 := y_isSign h (t := 28) (by decide) (by decide)
  rw [decide_eq_true ht] at hw2
  rw [y_b106 h (by omega) (by omega)]
  unfold f_X12_begins_106
  rw [cR_t (ly_t230 h.1), show f_X12_isSign (some 230) (40 : Int32) M = _ from hw, cA_s, if_pos (by decide), cR_t (ly_t230 h.1), show f_X12_isSign (some 230) (45 : Int32) M = _ from hw2, cA_s, if_neg (by decide), cR_t (ly_t230 h.1), show f_X12_opensSign (some 230) (7 : Int32) M = _ from a1, cA_s]
theorem S_bad (h : CfM pl L tp ln 1 a op F W O M) (e20 : tTk tp ln a ≠ 20) (e6 : 6 < tTk tp ln a) (e31 : tTk tp ln a ≠ 31) (e28 : tTk tp ln a ≠ 28) : ∃ M', Rn 1 M M' ∧ Fx zA zF M M' ∧ FlM pl L 1 (tSt tp ln a) tp ln M' := by
  obtain ⟨M1, a1, a2, a3⟩ := y_errs (k := 1) h (by decide)
  refine ⟨M1, y_r1 h ?_, a2, a3⟩
  have hw := y_isSign h (t := 31) (by decide) (by decide)
  rw [decide_eq_false e31] at hw
  have hw2 := y_isSign h (t := 28) (by decide) (by decide)
  rw [decide_eq_false e28] at hw2
  rw [y_b106 h e20 e6]
  unfold f_X12_begins_106
  rw [cR_t (ly_t230 h.1), show f_X12_isSign (some 230) (40 : Int32) M = _ from hw, cA_s, if_pos (by decide), cR_t (ly_t230 h.1), show f_X12_isSign (some 230) (45 : Int32) M = _ from hw2, cA_s, if_pos (by decide), cR_t (ly_t230 h.1), show f_X12_errs (some 230) (1 : Int32) M = _ from a1, cA_s]
theorem S_op {f : Nat × Nat} (h : CfM pl L tp ln 2 a op (f :: F) W O M) (ht : 27 ≤ tTk tp ln a) (ht' : tTk tp ln a ≤ 30) (hW : W.length < 80) (hF : F.length < 40) (hO : O.length + W.length ≤ 400) (ha : a ≤ ln) : ∃ M', Rn 1 M M' ∧ Fx zA zF M M' ∧ CfM pl L tp ln 1 (tNx tp ln a) op (f :: F) ((tTk tp ln a, (f :: F).length) :: (wkS (rk (tTk tp ln a)) (f :: F).length W).1) (O ++ cod (wkS (rk (tTk tp ln a)) (f :: F).length W).2) M' := by
  have hop : isOp (tTk tp ln a) := by unfold isOp; omega
  obtain ⟨M1, a1, a2, a3⟩ := y_waits h hop hW (by simp; omega) hO ha
  refine ⟨sI M1 230 32 (nI 1), y_r2 h ?_, a2.I (Or.inr (by decide)), a3.chS 1⟩
  have hs := h.srt
  have hg := h.sg (by omega) (by omega)
  have hsr : srt (tTk tp ln a) = 3 := by unfold srt; rw [if_neg (by omega), if_neg (by omega), if_pos (by omega)]
  unfold f_X12_goesOn
  rw [cR_t (ly_t230 h.1), y_top h hF, cA_s, gI_t (ly_t230 h.1), hs, hsr, if_pos (show nI 3 = (3 : Int32) from rfl), gI_t (ly_t230 h.1), hg]
  rcases (show tTk tp ln a = 27 ∨ tTk tp ln a = 28 ∨ tTk tp ln a = 29 ∨ tTk tp ln a = 30 by omega) with e | e | e | e <;> rw [e] at a1 hg ⊢
  · rw [if_pos (by decide), gI_t (ly_t230 h.1), hg, cR_t (ly_t230 h.1), show f_X12_waitsFor (some 230) (nI (sgM 27)) M = _ from a1, cA_s, pI_t (ly_t230 a3.1)]; rfl
  · rw [if_neg (by decide), gI_t (ly_t230 h.1), hg, if_pos (by decide), gI_t (ly_t230 h.1), hg, cR_t (ly_t230 h.1), show f_X12_waitsFor (some 230) (nI (sgM 28)) M = _ from a1, cA_s, pI_t (ly_t230 a3.1)]; rfl
  · rw [if_neg (by decide), gI_t (ly_t230 h.1), hg, if_neg (by decide), gI_t (ly_t230 h.1), hg, if_pos (by decide), gI_t (ly_t230 h.1), hg, cR_t (ly_t230 h.1), show f_X12_waitsFor (some 230) (nI (sgM 29)) M = _ from a1, cA_s, pI_t (ly_t230 a3.1)]; rfl
  · rw [if_neg (by decide), gI_t (ly_t230 h.1), hg, if_neg (by decide), gI_t (ly_t230 h.1), hg, if_neg (by decide), gI_t (ly_t230 h.1), hg, if_pos (by decide), gI_t (ly_t230 h.1), hg, cR_t (ly_t230 h.1), show f_X12_waitsFor (some 230) (nI (sgM 30)) M = _ from a1, cA_s, pI_t (ly_t230 a3.1)]; rfl
theorem y_g65 {f : Nat × Nat} (h : CfM pl L tp ln 2 a op (f :: F) W O M) (ht : ¬ (27 ≤ tTk tp ln a ∧ tTk tp ln a ≤ 30)) (hF : F.length < 40) : f_X12_goesOn (some 230) M = f_X12_goesOn_65 (some 230) (nI f.1) M := by
  have hs := h.srt
  unfold f_X12_goesOn
  rw [cR_t (ly_t230 h.1), y_top h hF, cA_s, gI_t (ly_t230 h.1), hs]
  by_cases e : 21 ≤ tTk tp ln a ∧ tTk tp ln a ≤ 34
  · have hg := h.sg e.1 e.2
    have hb := sg_b _ (by omega) e.1
    have ne : ∀ t, 27 ≤ t → t ≤ 30 → ¬ nI (sgM (tTk tp ln a)) = nI (sgM t) := fun t h1 h2 => nIne (by omega) (by have := sg_b t (by omega) (by omega); omega) (fun q => by have := sg_inj _ (by omega) e.1 t (by omega) (by omega) q; omega)
    rw [if_pos (show nI (srt (tTk tp ln a)) = (3 : Int32) by unfold srt; rw [if_neg (by omega), if_neg (by omega), if_pos e.2]; rfl), gI_t (ly_t230 h.1), hg, if_neg (show ¬ nI (sgM (tTk tp ln a)) = (43 : Int32) from ne 27 (by decide) (by decide)), gI_t (ly_t230 h.1), hg, if_neg (show ¬ nI (sgM (tTk tp ln a)) = (45 : Int32) from ne 28 (by decide) (by decide)), gI_t (ly_t230 h.1), hg, if_neg (show ¬ nI (sgM (tTk tp ln a)) = (42 : Int32) from ne 29 (by decide) (by decide)), gI_t (ly_t230 h.1), hg, if_neg (show ¬ nI (sgM (tTk tp ln a)) = (47 : Int32) from ne 30 (by decide) (by decide))]
  · have h3 : srt (tTk tp ln a) ≠ 3 := by
      unfold srt
      by_cases q : tTk tp ln a ≤ 34
      · by_cases q2 : tTk tp ln a < 20
        · rw [if_pos q2]; decide
        · rw [if_neg q2, if_pos (by omega)]; decide
      · rw [if_neg (by omega), if_neg (by omega), if_neg q]
        split <;> decide
    rw [if_neg (show ¬ nI (srt (tTk tp ln a)) = (3 : Int32) from nIne (b := 3) (by have := srt_b (t := tTk tp ln a); omega) (by decide) h3)]
end YSTEP2
