/-! ===== the class prepares ===== -/
section PREP3
variable {w h L nt : Nat} {τ : Nat → Txt} {n : Nat} {op : Nat → Chi} {tg : Nat → Nat}
theorem x_pr49 (hn : n ≤ 2000) {M0 : Mem} : ∀ (k f j : Nat) (M : Mem), j + k = n * 8 → k < f → Bs w h L nt τ M → mI M 211 2 = nI n → OpX n op tg M → (∀ i, i < n → mI M 225 i = m1 ∧ mI M 221 i = nI 0 ∧ mI M 222 i = m1 ∧ mI M 229 i = nI 0) → (∀ i, i < j → mI M 223 i = nI 0 ∧ mI M 224 i = nI 0) → Fx prA prF M0 M → ∃ M', f_X0_prepare_49 f (some 220) (nI j) M = some ((), M') ∧ Fx prA prF M0 M' ∧ PrI n op tg n M'
  | k, 0, j, M => fun _ z => absurd z (by omega)
  | 0, f + 1, j, M => by
    intro hj _ hb h2 hO hA hB fr
    obtain rfl : j = n * 8 := by omega
    have hl := hb.lay
    have f1 : Fx [] [(220, 11)] M (sI M 220 11 (nI 0)) := Fx.wI (Or.inr (by decide))
    have hb1 := hb.fx f1 (by decide) (by decide)
    have hz : nI (bS (fun _ => false) 8) = nI 0 := by rw [bS_0]
    obtain ⟨M', z1, z2, z3⟩ := x_pr90 (op := op) (tg := tg) hn n FU 0 (sI M 220 11 (nI 0)) (by omega) (by unfold FU; omega) hb1 (by rw [mI_na (by decide)]; exact h2) (hO.fx f1 (by decide) (by decide)) ⟨fun t ht => by rw [mI_na (by decide)]; exact (hA t ht).1, fun i hi => by
      rw [mI_na (by decide), mI_na (by decide), mI_na (by decide), if_neg (by omega), if_neg (by omega)]
      exact ⟨(hA i hi).2.1, (hA i hi).2.2.1, (hA i hi).2.2.2⟩, fun i no hi hno => by
      rw [mI_na (by decide), mI_na (by decide), hz]
      exact hB (i * 8 + no) (by omega), ⟨mI_e, fun k hk => absurd hk (by simp [ovL])⟩⟩ (fr.tr (f1.mono (by decide) (by decide)))
    refine ⟨M', ?_, z2, z3⟩
    rw [u_X0_prepare_49]
    unfold b_X0_prepare_49
    rw [gR_t (ly_t220 hl), ly_r220_2 hl, gI_t (ly_t211 hl), h2, show (8 : Int32) = nI 8 from rfl, pk_mul, if_pos (Int32.le_refl _), pI_t (ly_t220 hl)]
    exact z1
  | k + 1, f + 1, j, M => by
    intro hj hf hb h2 hO hA hB fr
    have hl := hb.lay
    have f1 : Fx [223, 224] [] M (sI M 223 j (nI 0)) := Fx.wI (Or.inl (by decide))
    have hb1 := hb.fx f1 (by decide) (by decide)
    have f2 : Fx [223, 224] [] M (sI (sI M 223 j (nI 0)) 224 j (nI 0)) := f1.I (Or.inl (by decide))
    obtain ⟨M', z1, z2⟩ := x_pr49 hn k f (j + 1) _ (by omega) (by omega) (hb.fx f2 (by decide) (by decide)) (by rw [f2.ib (by decide)]; exact h2) (hO.fx f2 (by decide) (by decide)) (fun i hi => by rw [f2.ib (by decide), f2.ib (by decide), f2.ib (by decide), f2.ib (by decide)]; exact hA i hi) (fun i hi => by
      by_cases e : i = j
      · subst e; exact ⟨by rw [mI_na (by decide), mI_e], mI_e⟩
      · rw [mI_na (show 223 ≠ 224 by decide), mI_nk e, mI_nk e, mI_na (show 224 ≠ 223 by decide)]; exact hB i (by omega)) (fr.tr (f2.mono (by decide) (by decide)))
    refine ⟨M', ?_, z2⟩
    rw [u_X0_prepare_49]
    unfold b_X0_prepare_49
    rw [gR_t (ly_t220 hl), ly_r220_2 hl, gI_t (ly_t211 hl), h2, show (8 : Int32) = nI 8 from rfl, pk_mul, if_neg (nI_ge (by omega) (by omega)), gR_t (ly_t220 hl), ly_r220_4 hl, show (0 : Int32) = nI 0 from rfl, wI_t (ly_t223 hl) (by omega) (by decide), gR_t (ly_t220 hb1.lay), ly_r220_5 hb1.lay, wI_t (ly_t224 hb1.lay) (by omega) (by decide), nI_1]
    exact z1
theorem x_pr2 (hn : n ≤ 2000) {M0 : Mem} : ∀ (k f s : Nat) (M : Mem), s + k = n → k < f → Bs w h L nt τ M → mI M 211 2 = nI n → OpX n op tg M → (∀ i, i < s → mI M 225 i = m1 ∧ mI M 221 i = nI 0 ∧ mI M 222 i = m1 ∧ mI M 229 i = nI 0) → Fx prA prF M0 M → ∃ M', f_X0_prepare_2 f (some 220) (nI s) M = some ((), M') ∧ Fx prA prF M0 M' ∧ PrI n op tg n M'
  | k, 0, s, M => fun _ z => absurd z (by omega)
  | 0, f + 1, s, M => by
    intro hs _ hb h2 hO hA fr
    obtain rfl : s = n := by omega
    have hl := hb.lay
    rw [u_X0_prepare_2]
    unfold b_X0_prepare_2
    rw [gR_t (ly_t220 hl), ly_r220_2 hl, gI_t (ly_t211 hl), h2, if_pos (Int32.le_refl _)]
    exact x_pr49 hn (s * 8) FU 0 M (by omega) (by unfold FU; omega) hb h2 hO hA (fun i hi => absurd hi (by omega)) fr
  | k + 1, f + 1, s, M => by
    intro hs hf hb h2 hO hA fr
    have hl := hb.lay
    have fA : Fx [221, 222, 225, 229] [] M (sI (sI (sI (sI M 225 s m1) 221 s (nI 0)) 222 s m1) 229 s (nI 0)) := (((Fx.wI (Or.inl (by decide))).I (Or.inl (by decide))).I (Or.inl (by decide))).I (Or.inl (by decide))
    have hls : ¬ (n ≤ s) := by omega
    obtain ⟨M', z1, z2⟩ := x_pr2 hn k f (s + 1) _ (by omega) (by omega) (hb.fx fA (by decide) (by decide)) (by rw [fA.ib (by decide)]; exact h2) (hO.fx fA (by decide) (by decide)) (fun i hi => by
      by_cases e : i = s
      · subst e
        refine ⟨?_, ?_, ?_, ?_⟩
        all_goals simp (disch := first | omega | (simp (disch := omega) only [↓litm, lit, tN_n, nI_add, pk_mul, pk_sub, pk_div, nI_remN, nI_remN', nI_eq, nI_leI, nI_ltI, nI_nm1, m1_nI, m1_m1, m1_le, m1_lt, le_m1, lt_m1, oI_n, oI_s, bS_inN, bS_addN, bS_delN, not_true_eq_false, not_false_eq_true, and_true, true_and, if_true, if_false, mT_sI, mT_sL, mT_sR, mR_sI, mR_sL, mI_sL, mI_sR, mL_sI, mL_sR, mI_e, mI_na, mI_nk, mL_e, mL_na, mL_nk, inB_n]; done) | (simp (disch := omega) only [↓litm, lit, tN_n, nI_add, pk_mul, pk_sub, pk_div, nI_remN, nI_remN', nI_eq, nI_leI, nI_ltI, nI_nm1, m1_nI, m1_m1, m1_le, m1_lt, le_m1, lt_m1, oI_n, oI_s, bS_inN, bS_addN, bS_delN, not_true_eq_false, not_false_eq_true, and_true, true_and, if_true, if_false, mT_sI, mT_sL, mT_sR, mR_sI, mR_sL, mI_sL, mI_sR, mL_sI, mL_sR, mI_e, mI_na, mI_nk, mL_e, mL_na, mL_nk, inB_n]; omega)) only [↓e_gI, ↓e_gL, ↓e_gR, ↓e_pI, ↓e_pL, ↓e_pR, ↓e_cR, ↓e_aI, ↓e_aL, ↓e_aR, ↓e_wI, ↓e_wL, ↓e_aN, ↓t_sI, ↓t_sL, ↓t_sR, ↓q_sI, ↓q_sL, ↓q_sR, ↓n_sI, ↓n_sL, ↓n_sR, ↓cA_s, tv_0, tv_1, tv_n0, tv_n1, ↓nz_y, ↓reduceIte, mT_sI, mT_sL, mT_sR, mR_sI, mR_sL, mI_sL, mI_sR, mL_sI, mL_sR, mI_e, mI_na, mI_nk, mL_e, mL_na, mL_nk, ↓litm, lit, tN_n, nI_add, pk_mul, pk_sub, pk_div, nI_remN, nI_remN', nI_eq, nI_leI, nI_ltI, nI_nm1, m1_nI, m1_m1, m1_le, m1_lt, le_m1, lt_m1, oI_n, oI_s, bS_inN, bS_addN, bS_delN, not_true_eq_false, not_false_eq_true, and_true, true_and, if_true, if_false]
      · obtain ⟨a1, a2, a3, a4⟩ := hA i (by omega)
        refine ⟨?_, ?_, ?_, ?_⟩
        all_goals simp (disch := first | omega | (simp (disch := omega) only [↓litm, lit, tN_n, nI_add, pk_mul, pk_sub, pk_div, nI_remN, nI_remN', nI_eq, nI_leI, nI_ltI, nI_nm1, m1_nI, m1_m1, m1_le, m1_lt, le_m1, lt_m1, oI_n, oI_s, bS_inN, bS_addN, bS_delN, not_true_eq_false, not_false_eq_true, and_true, true_and, if_true, if_false, mT_sI, mT_sL, mT_sR, mR_sI, mR_sL, mI_sL, mI_sR, mL_sI, mL_sR, mI_e, mI_na, mI_nk, mL_e, mL_na, mL_nk, inB_n, a1, a2, a3, a4]; done) | (simp (disch := omega) only [↓litm, lit, tN_n, nI_add, pk_mul, pk_sub, pk_div, nI_remN, nI_remN', nI_eq, nI_leI, nI_ltI, nI_nm1, m1_nI, m1_m1, m1_le, m1_lt, le_m1, lt_m1, oI_n, oI_s, bS_inN, bS_addN, bS_delN, not_true_eq_false, not_false_eq_true, and_true, true_and, if_true, if_false, mT_sI, mT_sL, mT_sR, mR_sI, mR_sL, mI_sL, mI_sR, mL_sI, mL_sR, mI_e, mI_na, mI_nk, mL_e, mL_na, mL_nk, inB_n, a1, a2, a3, a4]; omega)) only [↓e_gI, ↓e_gL, ↓e_gR, ↓e_pI, ↓e_pL, ↓e_pR, ↓e_cR, ↓e_aI, ↓e_aL, ↓e_aR, ↓e_wI, ↓e_wL, ↓e_aN, ↓t_sI, ↓t_sL, ↓t_sR, ↓q_sI, ↓q_sL, ↓q_sR, ↓n_sI, ↓n_sL, ↓n_sR, ↓cA_s, tv_0, tv_1, tv_n0, tv_n1, ↓nz_y, ↓reduceIte, mT_sI, mT_sL, mT_sR, mR_sI, mR_sL, mI_sL, mI_sR, mL_sI, mL_sR, mI_e, mI_na, mI_nk, mL_e, mL_na, mL_nk, ↓litm, lit, tN_n, nI_add, pk_mul, pk_sub, pk_div, nI_remN, nI_remN', nI_eq, nI_leI, nI_ltI, nI_nm1, m1_nI, m1_m1, m1_le, m1_lt, le_m1, lt_m1, oI_n, oI_s, bS_inN, bS_addN, bS_delN, not_true_eq_false, not_false_eq_true, and_true, true_and, if_true, if_false, a1, a2, a3, a4]) (fr.tr (fA.mono (by decide) (by decide)))
    refine ⟨M', ?_, z2⟩
    rw [u_X0_prepare_2]
    unfold b_X0_prepare_2
    simp (disch := first | omega | (simp (disch := omega) only [↓litm, lit, tN_n, nI_add, pk_mul, pk_sub, pk_div, nI_remN, nI_remN', nI_eq, nI_leI, nI_ltI, nI_nm1, m1_nI, m1_m1, m1_le, m1_lt, le_m1, lt_m1, oI_n, oI_s, bS_inN, bS_addN, bS_delN, not_true_eq_false, not_false_eq_true, and_true, true_and, if_true, if_false, mT_sI, mT_sL, mT_sR, mR_sI, mR_sL, mI_sL, mI_sR, mL_sI, mL_sR, mI_e, mI_na, mI_nk, mL_e, mL_na, mL_nk, inB_n, h2, hls]; done) | (simp (disch := omega) only [↓litm, lit, tN_n, nI_add, pk_mul, pk_sub, pk_div, nI_remN, nI_remN', nI_eq, nI_leI, nI_ltI, nI_nm1, m1_nI, m1_m1, m1_le, m1_lt, le_m1, lt_m1, oI_n, oI_s, bS_inN, bS_addN, bS_delN, not_true_eq_false, not_false_eq_true, and_true, true_and, if_true, if_false, mT_sI, mT_sL, mT_sR, mR_sI, mR_sL, mI_sL, mI_sR, mL_sI, mL_sR, mI_e, mI_na, mI_nk, mL_e, mL_na, mL_nk, inB_n, h2, hls]; omega)) only [↓T_220 hl, ly_r220_0 hl, ly_r220_1 hl, ly_r220_2 hl, ly_r220_3 hl, ly_r220_4 hl, ly_r220_5 hl, ly_r220_6 hl, ly_r220_7 hl, ly_r220_8 hl, ly_r220_9 hl, ly_r220_10 hl, ↓T_211 hl, ly_r211_0 hl, ly_r211_1 hl, ly_r211_4 hl, ly_r211_5 hl, ly_r211_6 hl, ly_r211_7 hl, ly_r211_8 hl, ly_r211_9 hl, ly_r211_10 hl, ↓A_221 hl, ↓A_222 hl, ↓A_225 hl, ↓A_229 hl, ↓e_gI, ↓e_gL, ↓e_gR, ↓e_pI, ↓e_pL, ↓e_pR, ↓e_cR, ↓e_aI, ↓e_aL, ↓e_aR, ↓e_wI, ↓e_wL, ↓e_aN, ↓t_sI, ↓t_sL, ↓t_sR, ↓q_sI, ↓q_sL, ↓q_sR, ↓n_sI, ↓n_sL, ↓n_sR, ↓cA_s, tv_0, tv_1, tv_n0, tv_n1, ↓nz_y, ↓reduceIte, mT_sI, mT_sL, mT_sR, mR_sI, mR_sL, mI_sL, mI_sR, mL_sI, mL_sR, mI_e, mI_na, mI_nk, mL_e, mL_na, mL_nk, ↓litm, lit, tN_n, nI_add, pk_mul, pk_sub, pk_div, nI_remN, nI_remN', nI_eq, nI_leI, nI_ltI, nI_nm1, m1_nI, m1_m1, m1_le, m1_lt, le_m1, lt_m1, oI_n, oI_s, bS_inN, bS_addN, bS_delN, not_true_eq_false, not_false_eq_true, and_true, true_and, if_true, if_false, h2, hls]
    exact z1
theorem x_prepare {M : Mem} (hb : Bs w h L nt τ M) (hn : n ≤ 2000) (h2 : mI M 211 2 = nI n) (hO : OpX n op tg M) : ∃ M', f_X0_prepare (some 220) M = some ((), M') ∧ Fx prA prF M M' ∧ PrI n op tg n M' := x_pr2 hn n FU 0 M (by omega) (by unfold FU; omega) hb h2 hO (fun i hi => absurd hi (by omega)) Fx.rf
end PREP3
