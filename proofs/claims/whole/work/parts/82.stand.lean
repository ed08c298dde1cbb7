/-! ===== a stand: position, book, ways, texts, plies, game ===== -/
abbrev Std : Type := Pos × Option Nat × Option Nat × Option Nat × Nat × Nat × (Nat → Nat)
def stP (s : Std) : Pos := s.1
def stB (s : Std) : Option Nat := s.2.1
def stW0 (s : Std) : Option Nat := s.2.2.1
def stW1 (s : Std) : Option Nat := s.2.2.2.1
def stN (s : Std) : Nat := s.2.2.2.2.1
def stK (s : Std) : Nat := s.2.2.2.2.2.1
def stG (s : Std) : Nat → Nat := s.2.2.2.2.2.2
def okSt (w h : Nat) (s : Std) : Prop := okN w h (stP s) ∧ okX (stN s) (stB s) ∧ okX (stN s) (stW0 s) ∧ okX (stN s) (stW1 s) ∧ stN s ≤ 6 ∧ stK s ≤ 40 ∧ ∀ i, stG s i < 8
def StX (st : Nat) (s : Std) (M : Mem) : Prop := PosAt (st + 1) (stP s) M ∧ mI M (st + 2) 0 = oI (stW0 s) ∧ mI M (st + 2) 1 = oI (stW1 s) ∧ (∀ i, i < 200 → mI M (st + 3) i = nI (stG s i)) ∧ mI M st 3 = nI (stK s) ∧ mI M st 4 = nI (stN s) ∧ mI M st 5 = oI (stB s)
def StM (a : Nat) (s : Std) (M : Mem) : Prop := mI M a 0 = nI (stP s).2.2 ∧ mI M a 1 = nI (stN s) ∧ mI M a 2 = oI (stB s) ∧ mI M a 3 = oI (stW0 s) ∧ mI M a 4 = oI (stW1 s) ∧ mI M a 5 = nI (stK s) ∧ (∀ m, m < 8 → mI M a (10 + m) = nI ((stP s).2.1 m)) ∧ (∀ p, p < 12 → mI M a (20 + p) = nI ((stP s).1 p)) ∧ ∀ i, i < 200 → mI M a (40 + i) = nI (stG s i)
theorem StM.fx {a : Nat} {s : Std} {M M' : Mem} {A : List Nat} {F : List (Nat × Nat)} (h : StM a s M) (fr : Fx A F M M') (ha : a ∉ A ∧ ∀ q ∈ F, q.1 ≠ a) : StM a s M' := by
  unfold StM at *
  rw [fr.ib ha]
  exact h
theorem StX.fx {st : Nat} {s : Std} {M M' : Mem} {A : List Nat} {F : List (Nat × Nat)} (h : StX st s M) (fr : Fx A F M M') (h0 : st ∉ A ∧ ∀ q ∈ F, q.1 ≠ st) (h1 : st + 1 ∉ A ∧ ∀ q ∈ F, q.1 ≠ st + 1) (h2 : st + 2 ∉ A ∧ ∀ q ∈ F, q.1 ≠ st + 2) (h3 : st + 3 ∉ A ∧ ∀ q ∈ F, q.1 ≠ st + 3) : StX st s M' := by
  obtain ⟨a1, a2, a3, a4, a5, a6, a7⟩ := h
  exact ⟨a1.fx fr h1, by rw [fr.ib h2]; exact a2, by rw [fr.ib h2]; exact a3, by rw [fr.ib h3]; exact a4, by rw [fr.ib h0]; exact a5, by rw [fr.ib h0]; exact a6, by rw [fr.ib h0]; exact a7⟩
section STAND
variable {w h L nt : Nat} {τ : Nat → Txt} {s : Std}
theorem y_now31 {M0 : Mem} : ∀ (k n m : Nat) (M : Mem), m + k = 8 → k < n → Bs w h L nt τ M → StM 231 s M → (∀ p, p < 12 → mI M 254 p = nI ((stP s).1 p)) → (∀ i, i < m → mI M 255 i = nI ((stP s).2.1 i)) → Fx pA pF M0 M → ∃ M', f_X12_laysNow_31 n (some 230) (nI m) M = some ((), M') ∧ Fx pA pF M0 M' ∧ MPos (stP s) M'
  | k, 0, m, M => fun _ z => absurd z (by omega)
  | 0, n + 1, m, M => by
    intro hm _ hb hS h4 h5 fr
    obtain rfl : m = 8 := by omega
    have hl := hb.lay
    have h0 := hS.1
    rw [u_X12_laysNow_31]
    unfold b_X12_laysNow_31
    refine ⟨sI M 230 45 (nI (stP s).2.2), ?_, fr.I (Or.inr (by decide)), fun p hp => ?_, fun i hi => ?_, mI_e⟩
    · simp (disch := first | omega | (simp (disch := omega) only [↓litm, lit, tN_n, nI_add, pk_mul, pk_sub, pk_div, nI_remN, nI_remN', nI_eq, nI_leI, nI_ltI, nI_nm1, m1_nI, m1_m1, m1_le, m1_lt, le_m1, lt_m1, oI_n, oI_s, bS_inN, bS_addN, bS_delN, not_true_eq_false, not_false_eq_true, and_true, true_and, if_true, if_false, mT_sI, mT_sL, mT_sR, mR_sI, mR_sL, mI_sL, mI_sR, mL_sI, mL_sR, mI_e, mI_na, mI_nk, mL_e, mL_na, mL_nk, inB_n, h0, show (8 ≤ 8) = True by simp]; done) | (simp (disch := omega) only [↓litm, lit, tN_n, nI_add, pk_mul, pk_sub, pk_div, nI_remN, nI_remN', nI_eq, nI_leI, nI_ltI, nI_nm1, m1_nI, m1_m1, m1_le, m1_lt, le_m1, lt_m1, oI_n, oI_s, bS_inN, bS_addN, bS_delN, not_true_eq_false, not_false_eq_true, and_true, true_and, if_true, if_false, mT_sI, mT_sL, mT_sR, mR_sI, mR_sL, mI_sL, mI_sR, mL_sI, mL_sR, mI_e, mI_na, mI_nk, mL_e, mL_na, mL_nk, inB_n, h0, show (8 ≤ 8) = True by simp]; omega)) only [↓T_230 hl, ly_r230_3 hl, ↓A_231 hl, ↓e_gI, ↓e_gL, ↓e_gR, ↓e_pI, ↓e_pL, ↓e_pR, ↓e_cR, ↓e_aI, ↓e_aL, ↓e_aR, ↓e_wI, ↓e_wL, ↓e_aN, ↓t_sI, ↓t_sL, ↓t_sR, ↓q_sI, ↓q_sL, ↓q_sR, ↓n_sI, ↓n_sL, ↓n_sR, ↓cA_s, tv_0, tv_1, tv_n0, tv_n1, ↓nz_y, ↓reduceIte, mT_sI, mT_sL, mT_sR, mR_sI, mR_sL, mI_sL, mI_sR, mL_sI, mL_sR, mI_e, mI_na, mI_nk, mL_e, mL_na, mL_nk, ↓litm, lit, tN_n, nI_add, pk_mul, pk_sub, pk_div, nI_remN, nI_remN', nI_eq, nI_leI, nI_ltI, nI_nm1, m1_nI, m1_m1, m1_le, m1_lt, le_m1, lt_m1, oI_n, oI_s, bS_inN, bS_addN, bS_delN, not_true_eq_false, not_false_eq_true, and_true, true_and, if_true, if_false, h0, show (8 ≤ 8) = True by simp]
    · rw [mI_na (by decide)]; exact h4 p hp
    · rw [mI_na (by decide)]; exact h5 i hi
  | k + 1, n + 1, m, M => by
    intro hm hn hb hS h4 h5 fr
    have hl := hb.lay
    have hv := hS.2.2.2.2.2.2.1 m (by omega)
    have fr1 : Fx pA pF M (sI M 255 m (nI ((stP s).2.1 m))) := Fx.wI (Or.inl (by decide))
    obtain ⟨M', z1, z2⟩ := y_now31 k n (m + 1) (sI M 255 m (nI ((stP s).2.1 m))) (by omega) (by omega) (hb.fx fr1 (by decide) (by decide)) (hS.fx fr1 (by decide)) (fun p hp => by rw [mI_na (by decide)]; exact h4 p hp) (fun i hi => by
      by_cases e : i = m
      · subst e; rw [mI_e]
      · rw [mI_nk e]; exact h5 i (by omega)) (fr.tr fr1)
    refine ⟨M', ?_, z2⟩
    rw [u_X12_laysNow_31]
    unfold b_X12_laysNow_31
    rw [if_neg (show ¬ (8 : Int32) ≤ nI m from nI_ge (b := 8) (by omega) (by decide)), gR_t (ly_t230 hl), ly_r230_44 hl, gR_t (ly_t230 hl), ly_r230_3 hl, show (10 : Int32) = nI 10 from rfl, nI_add, aI_t (ly_t231 hl) (by omega) (by decide), hv, wI_t (ly_t255 hl) (by omega) (by decide), nI_1]
    exact z1
theorem y_now2 {M0 : Mem} : ∀ (k n p : Nat) (M : Mem), p + k = 12 → k < n → Bs w h L nt τ M → StM 231 s M → (∀ i, i < p → mI M 254 i = nI ((stP s).1 i)) → Fx pA pF M0 M → ∃ M', f_X12_laysNow_2 n (some 230) (nI p) M = some ((), M') ∧ Fx pA pF M0 M' ∧ MPos (stP s) M'
  | k, 0, p, M => fun _ z => absurd z (by omega)
  | 0, n + 1, p, M => by
    intro hm _ hb hS h4 fr
    obtain rfl : p = 12 := by omega
    rw [u_X12_laysNow_2]
    unfold b_X12_laysNow_2
    rw [if_pos (by decide)]
    exact y_now31 8 FU 0 M (by omega) (by decide) hb hS h4 (fun i hi => absurd hi (by omega)) fr
  | k + 1, n + 1, p, M => by
    intro hm hn hb hS h4 fr
    have hl := hb.lay
    have hv := hS.2.2.2.2.2.2.2.1 p (by omega)
    have fr1 : Fx pA pF M (sI M 254 p (nI ((stP s).1 p))) := Fx.wI (Or.inl (by decide))
    obtain ⟨M', z1, z2⟩ := y_now2 k n (p + 1) (sI M 254 p (nI ((stP s).1 p))) (by omega) (by omega) (hb.fx fr1 (by decide) (by decide)) (hS.fx fr1 (by decide)) (fun i hi => by
      by_cases e : i = p
      · subst e; rw [mI_e]
      · rw [mI_nk e]; exact h4 i (by omega)) (fr.tr fr1)
    refine ⟨M', ?_, z2⟩
    rw [u_X12_laysNow_2]
    unfold b_X12_laysNow_2
    rw [if_neg (show ¬ (12 : Int32) ≤ nI p from nI_ge (b := 12) (by omega) (by decide)), gR_t (ly_t230 hl), ly_r230_43 hl, gR_t (ly_t230 hl), ly_r230_3 hl, show (20 : Int32) = nI 20 from rfl, nI_add, aI_t (ly_t231 hl) (by omega) (by decide), hv, wI_t (ly_t254 hl) (by omega) (by decide), nI_1]
    exact z1
theorem y_now {M : Mem} (hb : Bs w h L nt τ M) (hS : StM 231 s M) : ∃ M', f_X12_laysNow (some 230) M = some ((), M') ∧ Fx pA pF M M' ∧ MPos (stP s) M' := y_now2 12 FU 0 M (by omega) (by decide) hb hS (fun i hi => absurd hi (by omega)) Fx.rf
/-- the position of a stand put anew -/
def withP (s : Std) (π : Pos) : Std := (π, s.2)
def mixP (s : Std) (π : Pos) (p m : Nat) (t : Bool) : Std := ((fun i => if i < p then π.1 i else (stP s).1 i, fun i => if i < m then π.2.1 i else (stP s).2.1 i, if t = true then π.2.2 else (stP s).2.2), s.2)
theorem y_keep31 {π : Pos} {M0 : Mem} : ∀ (k n m : Nat) (M : Mem), m + k = 8 → k < n → Bs w h L nt τ M → MPos π M → StM 231 (mixP s π 12 m false) M → Fx [231] [] M0 M → ∃ M', f_X12_keepsNow_31 n (some 230) (nI m) M = some ((), M') ∧ Fx [231] [] M0 M' ∧ StM 231 (mixP s π 12 8 true) M'
  | k, 0, m, M => fun _ z => absurd z (by omega)
  | 0, n + 1, m, M => by
    intro hm _ hb hM hS fr
    obtain rfl : m = 8 := by omega
    have hl := hb.lay
    have h45 := hM.2.2
    obtain ⟨a0, a1, a2, a3, a4, a5, a6, a7, a8⟩ := hS
    rw [u_X12_keepsNow_31]
    unfold b_X12_keepsNow_31
    refine ⟨sI M 231 0 (nI π.2.2), ?_, fr.I (Or.inl (by decide)), mI_e, ?_, ?_, ?_, ?_, ?_, fun i hi => ?_, fun i hi => ?_, fun i hi => ?_⟩
    · simp (disch := first | omega | (simp (disch := omega) only [↓litm, lit, tN_n, nI_add, pk_mul, pk_sub, pk_div, nI_remN, nI_remN', nI_eq, nI_leI, nI_ltI, nI_nm1, m1_nI, m1_m1, m1_le, m1_lt, le_m1, lt_m1, oI_n, oI_s, bS_inN, bS_addN, bS_delN, not_true_eq_false, not_false_eq_true, and_true, true_and, if_true, if_false, mT_sI, mT_sL, mT_sR, mR_sI, mR_sL, mI_sL, mI_sR, mL_sI, mL_sR, mI_e, mI_na, mI_nk, mL_e, mL_na, mL_nk, inB_n, h45, show (8 ≤ 8) = True by simp]; done) | (simp (disch := omega) only [↓litm, lit, tN_n, nI_add, pk_mul, pk_sub, pk_div, nI_remN, nI_remN', nI_eq, nI_leI, nI_ltI, nI_nm1, m1_nI, m1_m1, m1_le, m1_lt, le_m1, lt_m1, oI_n, oI_s, bS_inN, bS_addN, bS_delN, not_true_eq_false, not_false_eq_true, and_true, true_and, if_true, if_false, mT_sI, mT_sL, mT_sR, mR_sI, mR_sL, mI_sL, mI_sR, mL_sI, mL_sR, mI_e, mI_na, mI_nk, mL_e, mL_na, mL_nk, inB_n, h45, show (8 ≤ 8) = True by simp]; omega)) only [↓T_230 hl, ly_r230_3 hl, ↓A_231 hl, ↓e_gI, ↓e_gL, ↓e_gR, ↓e_pI, ↓e_pL, ↓e_pR, ↓e_cR, ↓e_aI, ↓e_aL, ↓e_aR, ↓e_wI, ↓e_wL, ↓e_aN, ↓t_sI, ↓t_sL, ↓t_sR, ↓q_sI, ↓q_sL, ↓q_sR, ↓n_sI, ↓n_sL, ↓n_sR, ↓cA_s, tv_0, tv_1, tv_n0, tv_n1, ↓nz_y, ↓reduceIte, mT_sI, mT_sL, mT_sR, mR_sI, mR_sL, mI_sL, mI_sR, mL_sI, mL_sR, mI_e, mI_na, mI_nk, mL_e, mL_na, mL_nk, ↓litm, lit, tN_n, nI_add, pk_mul, pk_sub, pk_div, nI_remN, nI_remN', nI_eq, nI_leI, nI_ltI, nI_nm1, m1_nI, m1_m1, m1_le, m1_lt, le_m1, lt_m1, oI_n, oI_s, bS_inN, bS_addN, bS_delN, not_true_eq_false, not_false_eq_true, and_true, true_and, if_true, if_false, h45, show (8 ≤ 8) = True by simp]
    · rw [mI_nk (by decide)]; exact a1
    · rw [mI_nk (by decide)]; exact a2
    · rw [mI_nk (by decide)]; exact a3
    · rw [mI_nk (by decide)]; exact a4
    · rw [mI_nk (by decide)]; exact a5
    · rw [mI_nk (by omega)]; exact a6 i hi
    · rw [mI_nk (by omega)]; exact a7 i hi
    · rw [mI_nk (by omega)]; exact a8 i hi
  | k + 1, n + 1, m, M => by
    intro hm hn hb hM hS fr
    have hl := hb.lay
    have hv := hM.2.1 m (by omega)
    have fr1 : Fx [231] [] M (sI M 231 (10 + m) (nI (π.2.1 m))) := Fx.wI (Or.inl (by decide))
    obtain ⟨a0, a1, a2, a3, a4, a5, a6, a7, a8⟩ := hS
    obtain ⟨M', z1, z2⟩ := y_keep31 k n (m + 1) (sI M 231 (10 + m) (nI (π.2.1 m))) (by omega) (by omega) (hb.fx fr1 (by decide) (by decide)) (hM.fx fr1 (by decide) (by decide)) ⟨by rw [mI_nk (by omega)]; exact a0, by rw [mI_nk (by omega)]; exact a1, by rw [mI_nk (by omega)]; exact a2, by rw [mI_nk (by omega)]; exact a3, by rw [mI_nk (by omega)]; exact a4, by rw [mI_nk (by omega)]; exact a5, fun i hi => by
        by_cases e : i = m
        · subst e
          rw [mI_e]
          show nI (π.2.1 i) = nI (if i < i + 1 then π.2.1 i else _)
          rw [if_pos (by omega)]
        · rw [mI_nk (by omega), a6 i hi]
          show nI (if i < m then π.2.1 i else _) = nI (if i < m + 1 then π.2.1 i else _)
          by_cases e2 : i < m
          · rw [if_pos e2, if_pos (by omega)]
          · rw [if_neg e2, if_neg (by omega)], fun i hi => by rw [mI_nk (by omega)]; exact a7 i hi, fun i hi => by rw [mI_nk (by omega)]; exact a8 i hi⟩ (fr.tr fr1)
    refine ⟨M', ?_, z2⟩
    rw [u_X12_keepsNow_31]
    unfold b_X12_keepsNow_31
    rw [if_neg (show ¬ (8 : Int32) ≤ nI m from nI_ge (b := 8) (by omega) (by decide)), gR_t (ly_t230 hl), ly_r230_3 hl, gR_t (ly_t230 hl), ly_r230_44 hl, aI_t (ly_t255 hl) (by omega) (by decide), hv, show (10 : Int32) = nI 10 from rfl, nI_add, wI_t (ly_t231 hl) (by omega) (by decide), nI_1]
    exact z1
theorem y_keep2 {π : Pos} {M0 : Mem} : ∀ (k n p : Nat) (M : Mem), p + k = 12 → k < n → Bs w h L nt τ M → MPos π M → StM 231 (mixP s π p 0 false) M → Fx [231] [] M0 M → ∃ M', f_X12_keepsNow_2 n (some 230) (nI p) M = some ((), M') ∧ Fx [231] [] M0 M' ∧ StM 231 (mixP s π 12 8 true) M'
  | k, 0, p, M => fun _ z => absurd z (by omega)
  | 0, n + 1, p, M => by
    intro hm _ hb hM hS fr
    obtain rfl : p = 12 := by omega
    rw [u_X12_keepsNow_2]
    unfold b_X12_keepsNow_2
    rw [if_pos (by decide)]
    exact y_keep31 8 FU 0 M (by omega) (by decide) hb hM hS fr
  | k + 1, n + 1, p, M => by
    intro hm hn hb hM hS fr
    have hl := hb.lay
    have hv := hM.1 p (by omega)
    have fr1 : Fx [231] [] M (sI M 231 (20 + p) (nI (π.1 p))) := Fx.wI (Or.inl (by decide))
    obtain ⟨a0, a1, a2, a3, a4, a5, a6, a7, a8⟩ := hS
    obtain ⟨M', z1, z2⟩ := y_keep2 k n (p + 1) (sI M 231 (20 + p) (nI (π.1 p))) (by omega) (by omega) (hb.fx fr1 (by decide) (by decide)) (hM.fx fr1 (by decide) (by decide)) ⟨by rw [mI_nk (by omega)]; exact a0, by rw [mI_nk (by omega)]; exact a1, by rw [mI_nk (by omega)]; exact a2, by rw [mI_nk (by omega)]; exact a3, by rw [mI_nk (by omega)]; exact a4, by rw [mI_nk (by omega)]; exact a5, fun i hi => by rw [mI_nk (by omega)]; exact a6 i hi, fun i hi => by
        by_cases e : i = p
        · subst e
          rw [mI_e]
          show nI (π.1 i) = nI (if i < i + 1 then π.1 i else _)
          rw [if_pos (by omega)]
        · rw [mI_nk (by omega), a7 i hi]
          show nI (if i < p then π.1 i else _) = nI (if i < p + 1 then π.1 i else _)
          by_cases e2 : i < p
          · rw [if_pos e2, if_pos (by omega)]
          · rw [if_neg e2, if_neg (by omega)], fun i hi => by rw [mI_nk (by omega)]; exact a8 i hi⟩ (fr.tr fr1)
    refine ⟨M', ?_, z2⟩
    rw [u_X12_keepsNow_2]
    unfold b_X12_keepsNow_2
    rw [if_neg (show ¬ (12 : Int32) ≤ nI p from nI_ge (b := 12) (by omega) (by decide)), gR_t (ly_t230 hl), ly_r230_3 hl, gR_t (ly_t230 hl), ly_r230_43 hl, aI_t (ly_t254 hl) (by omega) (by decide), hv, show (20 : Int32) = nI 20 from rfl, nI_add, wI_t (ly_t231 hl) (by omega) (by decide), nI_1]
    exact z1
theorem y_keep {π : Pos} {M : Mem} (hb : Bs w h L nt τ M) (hM : MPos π M) (hS : StM 231 s M) : ∃ M', f_X12_keepsNow (some 230) M = some ((), M') ∧ Fx [231] [] M M' ∧ StM 231 (withP s π) M' := by
  have h0 : StM 231 (mixP s π 0 0 false) M := by
    obtain ⟨a0, a1, a2, a3, a4, a5, a6, a7, a8⟩ := hS
    exact ⟨a0, a1, a2, a3, a4, a5, fun i hi => by rw [a6 i hi]; rfl, fun i hi => by rw [a7 i hi]; rfl, a8⟩
  obtain ⟨M', z1, z2, z3⟩ := y_keep2 12 FU 0 M (by omega) (by decide) hb hM h0 Fx.rf
  refine ⟨M', z1, z2, ?_⟩
  obtain ⟨a0, a1, a2, a3, a4, a5, a6, a7, a8⟩ := z3
  refine ⟨a0, a1, a2, a3, a4, a5, fun i hi => ?_, fun i hi => ?_, a8⟩
  · rw [a6 i hi]
    show nI (if i < 8 then π.2.1 i else _) = nI (π.2.1 i)
    rw [if_pos hi]
  · rw [a7 i hi]
    show nI (if i < 12 then π.1 i else _) = nI (π.1 i)
    rw [if_pos hi]
end STAND
