/-! ===== all moves, in the reference ===== -/
section MOD4
variable {w h L nt : Nat} {τ : Nat → Txt} {π : Pos}
/-- what the reference has laid out of a position -/
def LaidAt (C : Nat → Bst) (χ : Chi) (n : Nat) (M : Mem) : Prop := mI M 230 49 = nI (bS (fun m => decide (m < n) && χ m) 8) ∧ ∀ m, m < n → mI M 256 m = bF (C m) ∧ mI M 257 m = bG (C m) ∧ mI M 258 m = bK (C m)
theorem LaidAt.fx {C : Nat → Bst} {χ : Chi} {n : Nat} {M M' : Mem} {A : List Nat} {F : List (Nat × Nat)} (h' : LaidAt C χ n M) (fr : Fx A F M M') (hA : 230 ∉ A ∧ 256 ∉ A ∧ 257 ∉ A ∧ 258 ∉ A) (hF : ∀ q ∈ F, q ≠ (230, 49) ∧ q.1 ≠ 256 ∧ q.1 ≠ 257 ∧ q.1 ≠ 258) : LaidAt C χ n M' := by
  unfold LaidAt at *
  rw [fr.i hA.1 (fun q => (hF _ q).1 rfl), fr.ib ⟨hA.2.1, fun q hq => (hF q hq).2.1⟩, fr.ib ⟨hA.2.2.1, fun q hq => (hF q hq).2.2.1⟩, fr.ib ⟨hA.2.2.2, fun q hq => (hF q hq).2.2.2⟩]
  exact h'
theorem y_moves_l {x : Option Nat} (ok : okN w h π) (hx : okX nt x) : ∀ (j n m : Nat) (M : Mem), m + j = 8 → j < n → Bs w h L nt τ M → MPos π M → mI M 231 2 = oI x → LaidAt (canS w h (tT τ x) π) (ablS w h (tT τ x) π) m M → ∃ M', f_X12_laysMoves_7 n (some 230) (nI m) M = some ((), M') ∧ Fx mA mF M M' ∧ LaidAt (canS w h (tT τ x) π) (ablS w h (tT τ x) π) 8 M'
  | j, 0, m, M => fun _ q => absurd q (by omega)
  | 0, n + 1, m, M => by
    intro hm _ hb hM hB hL
    obtain rfl : m = 8 := by omega
    refine ⟨M, ?_, Fx.rf, hL⟩
    rw [u_X12_laysMoves_7]
    unfold b_X12_laysMoves_7
    rw [if_pos (by decide)]
  | j + 1, n + 1, m, M => by
    intro hm hn hb hM hB hL
    have hl := hb.lay
    have hm8 : m < 8 := by omega
    obtain ⟨M1, u1, u2, u3, u4, u5⟩ := y_canDo hb hM ok hx hm8 hB
    have fr1 : Fx mA mF M M1 := u2.mono (by decide) (by decide)
    have hb1 := hb.fx fr1 (by decide) (by decide)
    have hl1 := hb1.lay
    have hL1 := hL.fx u2 (by decide) (by decide)
    have hv := (hM.fx fr1 (by decide) (by decide)).2.1 m hm8
    have hc4 := ok.1.2.2.1 m
    have hMf := hM.fx fr1 (by decide) (by decide)
    have hB1 : mI M1 231 2 = oI x := by rw [fr1.ib (by decide)]; exact hB
    obtain ⟨l1, l2⟩ := hL1
    have on : ∀ v, v = nI (bS (fun j => decide (j < m + 1) && ablS w h (tT τ x) π j) 8) → ∃ M', f_X12_laysMoves_7 n (some 230) (nI (m + 1)) (sI (sI (sI (sI M1 256 m (bF (canS w h (tT τ x) π m))) 257 m (bG (canS w h (tT τ x) π m))) 258 m (bK (canS w h (tT τ x) π m))) 230 49 v) = some ((), M') ∧ Fx mA mF M M' ∧ LaidAt (canS w h (tT τ x) π) (ablS w h (tT τ x) π) 8 M' := by
      intro v hv'
      have fr2 : Fx mA mF M (sI (sI (sI (sI M1 256 m (bF (canS w h (tT τ x) π m))) 257 m (bG (canS w h (tT τ x) π m))) 258 m (bK (canS w h (tT τ x) π m))) 230 49 v) := (((fr1.I (Or.inl (by decide))).I (Or.inl (by decide))).I (Or.inl (by decide))).I (Or.inr (by decide))
      obtain ⟨M3, z1, z2, z3⟩ := y_moves_l ok hx j n (m + 1) _ (by omega) (by omega) (hb.fx fr2 (by decide) (by decide)) (hM.fx fr2 (by decide) (by decide)) (by rw [fr2.ib (by decide)]; exact hB) (by
        refine ⟨by rw [mI_e]; exact hv', fun i hi => ?_⟩
        by_cases e : i = m
        · subst e
          refine ⟨?_, ?_, ?_⟩
          all_goals simp (disch := first | omega | (simp (disch := omega) only [↓litm, lit, tN_n, nI_add, pk_mul, pk_sub, pk_div, nI_remN, nI_remN', nI_eq, nI_leI, nI_ltI, nI_nm1, m1_nI, m1_m1, m1_le, m1_lt, le_m1, lt_m1, oI_n, oI_s, bS_inN, bS_addN, bS_delN, not_true_eq_false, not_false_eq_true, and_true, true_and, if_true, if_false, mT_sI, mT_sL, mT_sR, mR_sI, mR_sL, mI_sL, mI_sR, mL_sI, mL_sR, mI_e, mI_na, mI_nk, mL_e, mL_na, mL_nk, inB_n]; done) | (simp (disch := omega) only [↓litm, lit, tN_n, nI_add, pk_mul, pk_sub, pk_div, nI_remN, nI_remN', nI_eq, nI_leI, nI_ltI, nI_nm1, m1_nI, m1_m1, m1_le, m1_lt, le_m1, lt_m1, oI_n, oI_s, bS_inN, bS_addN, bS_delN, not_true_eq_false, not_false_eq_true, and_true, true_and, if_true, if_false, mT_sI, mT_sL, mT_sR, mR_sI, mR_sL, mI_sL, mI_sR, mL_sI, mL_sR, mI_e, mI_na, mI_nk, mL_e, mL_na, mL_nk, inB_n]; omega)) only [↓e_gI, ↓e_gL, ↓e_gR, ↓e_pI, ↓e_pL, ↓e_pR, ↓e_cR, ↓e_aI, ↓e_aL, ↓e_aR, ↓e_wI, ↓e_wL, ↓e_aN, ↓t_sI, ↓t_sL, ↓t_sR, ↓q_sI, ↓q_sL, ↓q_sR, ↓n_sI, ↓n_sL, ↓n_sR, ↓cA_s, tv_0, tv_1, tv_n0, tv_n1, ↓nz_y, ↓reduceIte, mT_sI, mT_sL, mT_sR, mR_sI, mR_sL, mI_sL, mI_sR, mL_sI, mL_sR, mI_e, mI_na, mI_nk, mL_e, mL_na, mL_nk, ↓litm, lit, tN_n, nI_add, pk_mul, pk_sub, pk_div, nI_remN, nI_remN', nI_eq, nI_leI, nI_ltI, nI_nm1, m1_nI, m1_m1, m1_le, m1_lt, le_m1, lt_m1, oI_n, oI_s, bS_inN, bS_addN, bS_delN, not_true_eq_false, not_false_eq_true, and_true, true_and, if_true, if_false]
        · obtain ⟨q1, q2, q3⟩ := l2 i (by omega)
          refine ⟨?_, ?_, ?_⟩
          all_goals simp (disch := first | omega | (simp (disch := omega) only [↓litm, lit, tN_n, nI_add, pk_mul, pk_sub, pk_div, nI_remN, nI_remN', nI_eq, nI_leI, nI_ltI, nI_nm1, m1_nI, m1_m1, m1_le, m1_lt, le_m1, lt_m1, oI_n, oI_s, bS_inN, bS_addN, bS_delN, not_true_eq_false, not_false_eq_true, and_true, true_and, if_true, if_false, mT_sI, mT_sL, mT_sR, mR_sI, mR_sL, mI_sL, mI_sR, mL_sI, mL_sR, mI_e, mI_na, mI_nk, mL_e, mL_na, mL_nk, inB_n, q1, q2, q3]; done) | (simp (disch := omega) only [↓litm, lit, tN_n, nI_add, pk_mul, pk_sub, pk_div, nI_remN, nI_remN', nI_eq, nI_leI, nI_ltI, nI_nm1, m1_nI, m1_m1, m1_le, m1_lt, le_m1, lt_m1, oI_n, oI_s, bS_inN, bS_addN, bS_delN, not_true_eq_false, not_false_eq_true, and_true, true_and, if_true, if_false, mT_sI, mT_sL, mT_sR, mR_sI, mR_sL, mI_sL, mI_sR, mL_sI, mL_sR, mI_e, mI_na, mI_nk, mL_e, mL_na, mL_nk, inB_n, q1, q2, q3]; omega)) only [↓e_gI, ↓e_gL, ↓e_gR, ↓e_pI, ↓e_pL, ↓e_pR, ↓e_cR, ↓e_aI, ↓e_aL, ↓e_aR, ↓e_wI, ↓e_wL, ↓e_aN, ↓t_sI, ↓t_sL, ↓t_sR, ↓q_sI, ↓q_sL, ↓q_sR, ↓n_sI, ↓n_sL, ↓n_sR, ↓cA_s, tv_0, tv_1, tv_n0, tv_n1, ↓nz_y, ↓reduceIte, mT_sI, mT_sL, mT_sR, mR_sI, mR_sL, mI_sL, mI_sR, mL_sI, mL_sR, mI_e, mI_na, mI_nk, mL_e, mL_na, mL_nk, ↓litm, lit, tN_n, nI_add, pk_mul, pk_sub, pk_div, nI_remN, nI_remN', nI_eq, nI_leI, nI_ltI, nI_nm1, m1_nI, m1_m1, m1_le, m1_lt, le_m1, lt_m1, oI_n, oI_s, bS_inN, bS_addN, bS_delN, not_true_eq_false, not_false_eq_true, and_true, true_and, if_true, if_false, q1, q2, q3])
      exact ⟨M3, z1, fr2.tr z2, z3⟩
    rw [u_X12_laysMoves_7]
    unfold b_X12_laysMoves_7
    rw [if_neg (show ¬ (8 : Int32) ≤ nI m from nI_ge (b := 8) (by omega) (by decide)), cR_t (ly_t230 hl), u1, cA_s]
    by_cases hs : (canS w h (tT τ x) π m).isSome = true
    · by_cases hc : π.2.1 m = 0
      · have e : (fun j => decide (j < m + 1) && ablS w h (tT τ x) π j) = fun j => decide (j < m) && ablS w h (tT τ x) π j := by
          funext j
          by_cases q : j = m
          · subst q; unfold ablS; simp [hc]
          · simp [show j < m + 1 ↔ j < m by omega]
        have := on _ (by rw [e])
        simp (disch := first | omega | (simp (disch := omega) only [↓litm, lit, tN_n, nI_add, pk_mul, pk_sub, pk_div, nI_remN, nI_remN', nI_eq, nI_leI, nI_ltI, nI_nm1, m1_nI, m1_m1, m1_le, m1_lt, le_m1, lt_m1, oI_n, oI_s, bS_inN, bS_addN, bS_delN, not_true_eq_false, not_false_eq_true, and_true, true_and, if_true, if_false, mT_sI, mT_sL, mT_sR, mR_sI, mR_sL, mI_sL, mI_sR, mL_sI, mL_sR, mI_e, mI_na, mI_nk, mL_e, mL_na, mL_nk, inB_n, u3, u4, u5, hs, hv, l1, hc, Nat.le_zero_eq, show ¬ (1 = 0) by decide]; done) | (simp (disch := omega) only [↓litm, lit, tN_n, nI_add, pk_mul, pk_sub, pk_div, nI_remN, nI_remN', nI_eq, nI_leI, nI_ltI, nI_nm1, m1_nI, m1_m1, m1_le, m1_lt, le_m1, lt_m1, oI_n, oI_s, bS_inN, bS_addN, bS_delN, not_true_eq_false, not_false_eq_true, and_true, true_and, if_true, if_false, mT_sI, mT_sL, mT_sR, mR_sI, mR_sL, mI_sL, mI_sR, mL_sI, mL_sR, mI_e, mI_na, mI_nk, mL_e, mL_na, mL_nk, inB_n, u3, u4, u5, hs, hv, l1, hc, Nat.le_zero_eq, show ¬ (1 = 0) by decide]; omega)) only [↓T_230 hl1, ly_r230_50 hl1, ly_r230_51 hl1, ly_r230_52 hl1, ly_r230_44 hl1, ↓A_256 hl1, ↓A_257 hl1, ↓A_258 hl1, ↓A_255 hl1, ↓e_gI, ↓e_gL, ↓e_gR, ↓e_pI, ↓e_pL, ↓e_pR, ↓e_cR, ↓e_aI, ↓e_aL, ↓e_aR, ↓e_wI, ↓e_wL, ↓e_aN, ↓t_sI, ↓t_sL, ↓t_sR, ↓q_sI, ↓q_sL, ↓q_sR, ↓n_sI, ↓n_sL, ↓n_sR, ↓cA_s, tv_0, tv_1, tv_n0, tv_n1, ↓nz_y, ↓reduceIte, mT_sI, mT_sL, mT_sR, mR_sI, mR_sL, mI_sL, mI_sR, mL_sI, mL_sR, mI_e, mI_na, mI_nk, mL_e, mL_na, mL_nk, ↓litm, lit, tN_n, nI_add, pk_mul, pk_sub, pk_div, nI_remN, nI_remN', nI_eq, nI_leI, nI_ltI, nI_nm1, m1_nI, m1_m1, m1_le, m1_lt, le_m1, lt_m1, oI_n, oI_s, bS_inN, bS_addN, bS_delN, not_true_eq_false, not_false_eq_true, and_true, true_and, if_true, if_false, u3, u4, u5, hs, hv, l1, hc, Nat.le_zero_eq, show ¬ (1 = 0) by decide]
        exact this
      · have e : (fun j => (decide (j < m) && ablS w h (tT τ x) π j) || j == m) = fun j => decide (j < m + 1) && ablS w h (tT τ x) π j := by
          funext j
          by_cases q : j = m
          · subst q; unfold ablS; simp [hs, show 0 < π.2.1 j by omega]
          · have q' : (j == m) = false := by simpa using q
            simp [show j < m + 1 ↔ j < m by omega, q']
        have := on _ rfl
        simp (disch := first | omega | (simp (disch := omega) only [↓litm, lit, tN_n, nI_add, pk_mul, pk_sub, pk_div, nI_remN, nI_remN', nI_eq, nI_leI, nI_ltI, nI_nm1, m1_nI, m1_m1, m1_le, m1_lt, le_m1, lt_m1, oI_n, oI_s, bS_inN, bS_addN, bS_delN, not_true_eq_false, not_false_eq_true, and_true, true_and, if_true, if_false, mT_sI, mT_sL, mT_sR, mR_sI, mR_sL, mI_sL, mI_sR, mL_sI, mL_sR, mI_e, mI_na, mI_nk, mL_e, mL_na, mL_nk, inB_n, u3, u4, u5, hs, hv, l1, hc, Nat.le_zero_eq, show ¬ (1 = 0) by decide]; done) | (simp (disch := omega) only [↓litm, lit, tN_n, nI_add, pk_mul, pk_sub, pk_div, nI_remN, nI_remN', nI_eq, nI_leI, nI_ltI, nI_nm1, m1_nI, m1_m1, m1_le, m1_lt, le_m1, lt_m1, oI_n, oI_s, bS_inN, bS_addN, bS_delN, not_true_eq_false, not_false_eq_true, and_true, true_and, if_true, if_false, mT_sI, mT_sL, mT_sR, mR_sI, mR_sL, mI_sL, mI_sR, mL_sI, mL_sR, mI_e, mI_na, mI_nk, mL_e, mL_na, mL_nk, inB_n, u3, u4, u5, hs, hv, l1, hc, Nat.le_zero_eq, show ¬ (1 = 0) by decide]; omega)) only [↓T_230 hl1, ly_r230_50 hl1, ly_r230_51 hl1, ly_r230_52 hl1, ly_r230_44 hl1, ↓A_256 hl1, ↓A_257 hl1, ↓A_258 hl1, ↓A_255 hl1, ↓e_gI, ↓e_gL, ↓e_gR, ↓e_pI, ↓e_pL, ↓e_pR, ↓e_cR, ↓e_aI, ↓e_aL, ↓e_aR, ↓e_wI, ↓e_wL, ↓e_aN, ↓t_sI, ↓t_sL, ↓t_sR, ↓q_sI, ↓q_sL, ↓q_sR, ↓n_sI, ↓n_sL, ↓n_sR, ↓cA_s, tv_0, tv_1, tv_n0, tv_n1, ↓nz_y, ↓reduceIte, mT_sI, mT_sL, mT_sR, mR_sI, mR_sL, mI_sL, mI_sR, mL_sI, mL_sR, mI_e, mI_na, mI_nk, mL_e, mL_na, mL_nk, ↓litm, lit, tN_n, nI_add, pk_mul, pk_sub, pk_div, nI_remN, nI_remN', nI_eq, nI_leI, nI_ltI, nI_nm1, m1_nI, m1_m1, m1_le, m1_lt, le_m1, lt_m1, oI_n, oI_s, bS_inN, bS_addN, bS_delN, not_true_eq_false, not_false_eq_true, and_true, true_and, if_true, if_false, u3, u4, u5, hs, hv, l1, hc, Nat.le_zero_eq, show ¬ (1 = 0) by decide]
        rw [e]
        exact this
    · have e : (fun j => decide (j < m + 1) && ablS w h (tT τ x) π j) = fun j => decide (j < m) && ablS w h (tT τ x) π j := by
        funext j
        by_cases q : j = m
        · subst q; unfold ablS; simp [hs]
        · simp [show j < m + 1 ↔ j < m by omega]
      have := on _ (by rw [e])
      simp (disch := first | omega | (simp (disch := omega) only [↓litm, lit, tN_n, nI_add, pk_mul, pk_sub, pk_div, nI_remN, nI_remN', nI_eq, nI_leI, nI_ltI, nI_nm1, m1_nI, m1_m1, m1_le, m1_lt, le_m1, lt_m1, oI_n, oI_s, bS_inN, bS_addN, bS_delN, not_true_eq_false, not_false_eq_true, and_true, true_and, if_true, if_false, mT_sI, mT_sL, mT_sR, mR_sI, mR_sL, mI_sL, mI_sR, mL_sI, mL_sR, mI_e, mI_na, mI_nk, mL_e, mL_na, mL_nk, inB_n, u3, u4, u5, hs, hv, l1]; done) | (simp (disch := omega) only [↓litm, lit, tN_n, nI_add, pk_mul, pk_sub, pk_div, nI_remN, nI_remN', nI_eq, nI_leI, nI_ltI, nI_nm1, m1_nI, m1_m1, m1_le, m1_lt, le_m1, lt_m1, oI_n, oI_s, bS_inN, bS_addN, bS_delN, not_true_eq_false, not_false_eq_true, and_true, true_and, if_true, if_false, mT_sI, mT_sL, mT_sR, mR_sI, mR_sL, mI_sL, mI_sR, mL_sI, mL_sR, mI_e, mI_na, mI_nk, mL_e, mL_na, mL_nk, inB_n, u3, u4, u5, hs, hv, l1]; omega)) only [↓T_230 hl1, ly_r230_50 hl1, ly_r230_51 hl1, ly_r230_52 hl1, ly_r230_44 hl1, ↓A_256 hl1, ↓A_257 hl1, ↓A_258 hl1, ↓A_255 hl1, ↓e_gI, ↓e_gL, ↓e_gR, ↓e_pI, ↓e_pL, ↓e_pR, ↓e_cR, ↓e_aI, ↓e_aL, ↓e_aR, ↓e_wI, ↓e_wL, ↓e_aN, ↓t_sI, ↓t_sL, ↓t_sR, ↓q_sI, ↓q_sL, ↓q_sR, ↓n_sI, ↓n_sL, ↓n_sR, ↓cA_s, tv_0, tv_1, tv_n0, tv_n1, ↓nz_y, ↓reduceIte, mT_sI, mT_sL, mT_sR, mR_sI, mR_sL, mI_sL, mI_sR, mL_sI, mL_sR, mI_e, mI_na, mI_nk, mL_e, mL_na, mL_nk, ↓litm, lit, tN_n, nI_add, pk_mul, pk_sub, pk_div, nI_remN, nI_remN', nI_eq, nI_leI, nI_ltI, nI_nm1, m1_nI, m1_m1, m1_le, m1_lt, le_m1, lt_m1, oI_n, oI_s, bS_inN, bS_addN, bS_delN, not_true_eq_false, not_false_eq_true, and_true, true_and, if_true, if_false, u3, u4, u5, hs, hv, l1]
      exact this
theorem y_moves {M : Mem} {x : Option Nat} (hb : Bs w h L nt τ M) (hM : MPos π M) (ok : okN w h π) (hx : okX nt x) (hB : mI M 231 2 = oI x) : ∃ M', f_X12_laysMoves (some 230) M = some ((), M') ∧ Fx mA mF M M' ∧ LaidAt (canS w h (tT τ x) π) (ablS w h (tT τ x) π) 8 M' := by
  have fr : Fx mA mF M (sI M 230 49 0) := Fx.wI (Or.inr (by decide))
  unfold f_X12_laysMoves
  rw [pI_t (ly_t230 hb.lay)]
  obtain ⟨M1, z1, z2, z3⟩ := y_moves_l ok hx 8 FU 0 (sI M 230 49 0) (by omega) (by decide) (hb.fx fr (by decide) (by decide)) (hM.fx fr (by decide) (by decide)) (by rw [fr.ib (by decide)]; exact hB) ⟨by
    rw [mI_e, show (fun m => decide (m < 0) && ablS w h (tT τ x) π m) = fun _ => false by funext m; simp, bS_0]
    rfl, fun m hm => absurd hm (by omega)⟩
  exact ⟨M1, z1, fr.tr z2, z3⟩
end MOD4
