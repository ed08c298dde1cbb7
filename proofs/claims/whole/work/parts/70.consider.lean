/-! ===== the class takes a place for a move ===== -/
theorem fTd_none {y : Nat} {nm : Nat → Int} : ∀ (R : Txt) (i : Nat), fTd y R i = none → worS R y nm = 0
  | [], _, _ => rfl
  | c :: r, i, e => by
    unfold fTd at e
    by_cases hc : cTy c = y
    · rw [if_pos hc] at e; cases e
    · rw [if_neg hc] at e
      have ih := fTd_none r (i + 1) e (nm := nm)
      unfold worS at ih ⊢
      rw [List.find?_cons_of_neg (by simpa using hc)]
      exact ih
theorem fTd_some {y : Nat} {nm : Nat → Int} : ∀ (R : Txt) (i j : Nat), fTd y R i = some j → ∃ k c, j = i + k ∧ R[k]? = some c ∧ cTy c = y ∧ worS R y nm = evV nm (cCd c)
  | [], _, _, e => by cases e
  | c :: r, i, j, e => by
    unfold fTd at e
    by_cases hc : cTy c = y
    · rw [if_pos hc] at e
      cases e
      refine ⟨0, c, rfl, rfl, hc, ?_⟩
      unfold worS
      rw [List.find?_cons_of_pos (by simpa using hc)]
    · rw [if_neg hc] at e
      obtain ⟨k, c', h1, h2, h3, h4⟩ := fTd_some r (i + 1) j e (nm := nm)
      refine ⟨k + 1, c', by omega, h2, h3, ?_⟩
      unfold worS at h4 ⊢
      rw [List.find?_cons_of_neg (by simpa using hc)]
      exact h4
def isPA (a : Nat) : Prop := a = 10 ∨ a = 14 ∨ a = 47 ∨ a = 217 ∨ a = 218 ∨ a = 219
theorem pa_x {a : Nat} (h : isPA a) : a ∉ xA ∧ ∀ q ∈ xF, q.1 ≠ a := by
  rcases h with rfl | rfl | rfl | rfl | rfl | rfl <;> decide
theorem PosAt.fx {a : Nat} {π : Pos} {M M' : Mem} {A : List Nat} {F : List (Nat × Nat)} (h : PosAt a π M) (fr : Fx A F M M') (ha : a ∉ A ∧ ∀ q ∈ F, q.1 ≠ a) : PosAt a π M' := by
  unfold PosAt at *
  rw [fr.1, fr.ib ha, fr.lb ha]
  exact h
def NmAt (π : Pos) (M : Mem) : Prop := mI M 201 4 = nI (cntS π.1 π.2.2 12) ∧ mI M 201 5 = nI (cntS π.1 (1 - π.2.2) 12) ∧ mI M 201 6 = nI π.2.2
def LookAt (B : Nat → Bst) (M : Mem) : Prop := mI M 203 3 = nI (bS (fun m => (B m).isSome) 8) ∧ ∀ m, m < 8 → ∀ b, B m = some b → vl b.1 ∧ b.2.1 < 12 ∧ b.2.2.1 < 12 ∧ b.2.2.2 < 20 ∧ mI M 207 m = i32 b.1 ∧ mI M 204 m = nI b.2.1 ∧ mI M 205 m = nI b.2.2.1 ∧ mI M 206 m = nI b.2.2.2
def lkR (B : Nat → Bst) (T : Txt) (π : Pos) (m p : Nat) (o : Option (Nat × Nat)) : Nat → Bst := match o with
  | none => B
  | some (k, g) => up1 B m (updS (B m) (worS T 12 (nmS π m p g)) p g k)
theorem LookAt.fx {B : Nat → Bst} {M M' : Mem} {A : List Nat} {F : List (Nat × Nat)} (h : LookAt B M) (fr : Fx A F M M') (hA : 203 ∉ A ∧ 204 ∉ A ∧ 205 ∉ A ∧ 206 ∉ A ∧ 207 ∉ A) (hF : ∀ q ∈ F, q ≠ (203, 3) ∧ q.1 ≠ 204 ∧ q.1 ≠ 205 ∧ q.1 ≠ 206 ∧ q.1 ≠ 207) : LookAt B M' := by
  unfold LookAt at *
  rw [fr.i hA.1 (fun q => (hF _ q).1 rfl), fr.ib ⟨hA.2.1, fun q hq => (hF q hq).2.1⟩, fr.ib ⟨hA.2.2.1, fun q hq => (hF q hq).2.2.1⟩, fr.ib ⟨hA.2.2.2.1, fun q hq => (hF q hq).2.2.2.1⟩, fr.ib ⟨hA.2.2.2.2, fun q hq => (hF q hq).2.2.2.2⟩]
  exact h
section CONS
variable {w h L nt : Nat} {τ : Nat → Txt} {π : Pos}
theorem sums_at {M : Mem} (hb : Bs w h L nt τ M) : SumsAt 200 201 202 M := ⟨ly_t200 hb.lay, ly_r200_0 hb.lay, ly_r200_1 hb.lay, ly_t201 hb.lay, ly_t202 hb.lay⟩
theorem x_slook {a : Nat} {M : Mem} (hb : Bs w h L nt τ M) (hP : PosAt a π M) (ok : okP π) (ha : isPA a) : ∃ M', f_X9_look (some 200) (some a) M = some ((), M') ∧ Fx [201] [] M M' ∧ NmAt π M' := by
  have hl := hb.lay
  have ht := ok.2.2.2
  have tp := hP.1
  have hP1 : ∀ {M' : Mem}, Fx [201] [] M M' → PosAt a π M' := fun fr => hP.fx fr (by rcases ha with rfl | rfl | rfl | rfl | rfl | rfl <;> decide)
  have hne : a ≠ 201 := fun e => (pa_x ha).1 (by rw [e]; decide)
  have ft := hP.2.2.2
  unfold f_X9_look
  have f1 : Fx [201] [] M (sI M 201 6 (nI π.2.2)) := Fx.wI (Or.inl (by decide))
  have p1 := x_pieces (hP1 f1) ok ht
  have f2 : Fx [201] [] M (sI (sI M 201 6 (nI π.2.2)) 201 4 (nI (cntS π.1 π.2.2 12))) := f1.I (Or.inl (by decide))
  have p2 := x_pieces (hP1 f2) ok (s := 1 - π.2.2) (by omega)
  refine ⟨sI (sI (sI M 201 6 (nI π.2.2)) 201 4 (nI (cntS π.1 π.2.2 12))) 201 5 (nI (cntS π.1 (1 - π.2.2) 12)), ?_, f2.I (Or.inl (by decide)), ?_⟩
  · simp (disch := first | omega | (simp (disch := omega) only [↓litm, lit, tN_n, nI_add, pk_mul, pk_sub, pk_div, nI_remN, nI_remN', nI_eq, nI_leI, nI_ltI, nI_nm1, m1_nI, m1_m1, m1_le, m1_lt, le_m1, lt_m1, oI_n, oI_s, bS_inN, bS_addN, bS_delN, not_true_eq_false, not_false_eq_true, and_true, true_and, if_true, if_false, mT_sI, mT_sL, mT_sR, mR_sI, mR_sL, mI_sL, mI_sR, mL_sI, mL_sR, mI_e, mI_na, mI_nk, mL_e, mL_na, mL_nk, inB_n, ↓tcO_y tp, ft, p1, p2]; done) | (simp (disch := omega) only [↓litm, lit, tN_n, nI_add, pk_mul, pk_sub, pk_div, nI_remN, nI_remN', nI_eq, nI_leI, nI_ltI, nI_nm1, m1_nI, m1_m1, m1_le, m1_lt, le_m1, lt_m1, oI_n, oI_s, bS_inN, bS_addN, bS_delN, not_true_eq_false, not_false_eq_true, and_true, true_and, if_true, if_false, mT_sI, mT_sL, mT_sR, mR_sI, mR_sL, mI_sL, mI_sR, mL_sI, mL_sR, mI_e, mI_na, mI_nk, mL_e, mL_na, mL_nk, inB_n, ↓tcO_y tp, ft, p1, p2]; omega)) only [↓T_200 hl, ly_r200_0 hl, ly_r200_1 hl, ↓A_201 hl, ↓e_gI, ↓e_gL, ↓e_gR, ↓e_pI, ↓e_pL, ↓e_pR, ↓e_cR, ↓e_aI, ↓e_aL, ↓e_aR, ↓e_wI, ↓e_wL, ↓e_aN, ↓t_sI, ↓t_sL, ↓t_sR, ↓q_sI, ↓q_sL, ↓q_sR, ↓n_sI, ↓n_sL, ↓n_sR, ↓cA_s, tv_0, tv_1, tv_n0, tv_n1, ↓nz_y, ↓reduceIte, mT_sI, mT_sL, mT_sR, mR_sI, mR_sL, mI_sL, mI_sR, mL_sI, mL_sR, mI_e, mI_na, mI_nk, mL_e, mL_na, mL_nk, ↓litm, lit, tN_n, nI_add, pk_mul, pk_sub, pk_div, nI_remN, nI_remN', nI_eq, nI_leI, nI_ltI, nI_nm1, m1_nI, m1_m1, m1_le, m1_lt, le_m1, lt_m1, oI_n, oI_s, bS_inN, bS_addN, bS_delN, not_true_eq_false, not_false_eq_true, and_true, true_and, if_true, if_false, ↓tcO_y tp, ft, p1, p2]
  · unfold NmAt
    simp (disch := first | omega | (simp (disch := omega) only [↓litm, lit, tN_n, nI_add, pk_mul, pk_sub, pk_div, nI_remN, nI_remN', nI_eq, nI_leI, nI_ltI, nI_nm1, m1_nI, m1_m1, m1_le, m1_lt, le_m1, lt_m1, oI_n, oI_s, bS_inN, bS_addN, bS_delN, not_true_eq_false, not_false_eq_true, and_true, true_and, if_true, if_false, mT_sI, mT_sL, mT_sR, mR_sI, mR_sL, mI_sL, mI_sR, mL_sI, mL_sR, mI_e, mI_na, mI_nk, mL_e, mL_na, mL_nk, inB_n]; done) | (simp (disch := omega) only [↓litm, lit, tN_n, nI_add, pk_mul, pk_sub, pk_div, nI_remN, nI_remN', nI_eq, nI_leI, nI_ltI, nI_nm1, m1_nI, m1_m1, m1_le, m1_lt, le_m1, lt_m1, oI_n, oI_s, bS_inN, bS_addN, bS_delN, not_true_eq_false, not_false_eq_true, and_true, true_and, if_true, if_false, mT_sI, mT_sL, mT_sR, mR_sI, mR_sL, mI_sL, mI_sR, mL_sI, mL_sR, mI_e, mI_na, mI_nk, mL_e, mL_na, mL_nk, inB_n]; omega)) only [↓e_gI, ↓e_gL, ↓e_gR, ↓e_pI, ↓e_pL, ↓e_pR, ↓e_cR, ↓e_aI, ↓e_aL, ↓e_aR, ↓e_wI, ↓e_wL, ↓e_aN, ↓t_sI, ↓t_sL, ↓t_sR, ↓q_sI, ↓q_sL, ↓q_sR, ↓n_sI, ↓n_sL, ↓n_sR, ↓cA_s, tv_0, tv_1, tv_n0, tv_n1, ↓nz_y, ↓reduceIte, mT_sI, mT_sL, mT_sR, mR_sI, mR_sL, mI_sL, mI_sR, mL_sI, mL_sR, mI_e, mI_na, mI_nk, mL_e, mL_na, mL_nk, ↓litm, lit, tN_n, nI_add, pk_mul, pk_sub, pk_div, nI_remN, nI_remN', nI_eq, nI_leI, nI_ltI, nI_nm1, m1_nI, m1_m1, m1_le, m1_lt, le_m1, lt_m1, oI_n, oI_s, bS_inN, bS_addN, bS_delN, not_true_eq_false, not_false_eq_true, and_true, true_and, if_true, if_false]
theorem x_aim {M : Mem} {v : Int32} {m p g : Nat} (hb : Bs w h L nt τ M) : f_X9_aim (some 200) (nI m) v (nI p) (nI g) M = some ((), sI (sI (sI (sI M 201 0 (nI m)) 201 1 v) 201 2 (nI p)) 201 3 (nI g)) := by
  have hl := hb.lay
  unfold f_X9_aim
  simp (disch := first | omega | (simp (disch := omega) only [↓litm, lit, tN_n, nI_add, pk_mul, pk_sub, pk_div, nI_remN, nI_remN', nI_eq, nI_leI, nI_ltI, nI_nm1, m1_nI, m1_m1, m1_le, m1_lt, le_m1, lt_m1, oI_n, oI_s, bS_inN, bS_addN, bS_delN, not_true_eq_false, not_false_eq_true, and_true, true_and, if_true, if_false, mT_sI, mT_sL, mT_sR, mR_sI, mR_sL, mI_sL, mI_sR, mL_sI, mL_sR, mI_e, mI_na, mI_nk, mL_e, mL_na, mL_nk, inB_n]; done) | (simp (disch := omega) only [↓litm, lit, tN_n, nI_add, pk_mul, pk_sub, pk_div, nI_remN, nI_remN', nI_eq, nI_leI, nI_ltI, nI_nm1, m1_nI, m1_m1, m1_le, m1_lt, le_m1, lt_m1, oI_n, oI_s, bS_inN, bS_addN, bS_delN, not_true_eq_false, not_false_eq_true, and_true, true_and, if_true, if_false, mT_sI, mT_sL, mT_sR, mR_sI, mR_sL, mI_sL, mI_sR, mL_sI, mL_sR, mI_e, mI_na, mI_nk, mL_e, mL_na, mL_nk, inB_n]; omega)) only [↓T_200 hl, ly_r200_0 hl, ly_r200_1 hl, ↓A_201 hl, ↓e_gI, ↓e_gL, ↓e_gR, ↓e_pI, ↓e_pL, ↓e_pR, ↓e_cR, ↓e_aI, ↓e_aL, ↓e_aR, ↓e_wI, ↓e_wL, ↓e_aN, ↓t_sI, ↓t_sL, ↓t_sR, ↓q_sI, ↓q_sL, ↓q_sR, ↓n_sI, ↓n_sL, ↓n_sR, ↓cA_s, tv_0, tv_1, tv_n0, tv_n1, ↓nz_y, ↓reduceIte, mT_sI, mT_sL, mT_sR, mR_sI, mR_sL, mI_sL, mI_sR, mL_sI, mL_sR, mI_e, mI_na, mI_nk, mL_e, mL_na, mL_nk, ↓litm, lit, tN_n, nI_add, pk_mul, pk_sub, pk_div, nI_remN, nI_remN', nI_eq, nI_leI, nI_ltI, nI_nm1, m1_nI, m1_m1, m1_le, m1_lt, le_m1, lt_m1, oI_n, oI_s, bS_inN, bS_addN, bS_delN, not_true_eq_false, not_false_eq_true, and_true, true_and, if_true, if_false]
theorem aim_nm {M : Mem} {m p g : Nat} (hn : NmAt π M) : ∀ k, k < 7 → mI (sI (sI (sI (sI M 201 0 (nI m)) 201 1 (nI (π.2.1 m))) 201 2 (nI p)) 201 3 (nI g)) 201 k = i32 (nmS π m p g k) := by
  obtain ⟨n4, n5, n6⟩ := hn
  intro k hk
  unfold nmS
  rcases (show k = 0 ∨ k = 1 ∨ k = 2 ∨ k = 3 ∨ k = 4 ∨ k = 5 ∨ k = 6 by omega) with rfl | rfl | rfl | rfl | rfl | rfl | rfl
  all_goals simp only [mI_s, n4, n5, n6]; simp [i32_n]
theorem x_c127 {M : Mem} {B : Nat → Bst} {m p g k ca : Nat} {v : Int} (hb : Bs w h L nt τ M) (hL : LookAt B M) (tca : mT M ca = (1, 1)) (hk : mI M ca 0 = nI k) (hca : ca < 200) (hm : m < 8) (hp : p < 12) (hg : g < 12) (hk2 : k < 20) (hv : vl v) : ∃ M', f_X2_consider_127 (some 203) (nI m) (nI p) (some ca) (nI g) (i32 v) M = some ((), M') ∧ Fx yA xF M M' ∧ LookAt (up1 B m (updS (B m) v p g k)) M' := by
  have hl := hb.lay
  obtain ⟨l1, l2⟩ := hL
  have put : ∀ b : Bst, updS (B m) v p g k = some (v, p, g, k) → ∃ M', f_X2_consider_151 (some 203) (nI m) (nI p) (some ca) (nI g) (i32 v) M = some ((), M') ∧ Fx yA xF M M' ∧ LookAt (up1 B m (updS (B m) v p g k)) M' := by
    intro _ e
    unfold f_X2_consider_151
    refine ⟨sI (sI (sI (sI (sI M 203 3 (nI (bS (fun j => (B j).isSome || j == m) 8))) 207 m (i32 v)) 204 m (nI p)) 205 m (nI g)) 206 m (nI k), ?_, ?_, ?_⟩
    · simp (disch := first | omega | (simp (disch := omega) only [↓litm, lit, tN_n, nI_add, pk_mul, pk_sub, pk_div, nI_remN, nI_remN', nI_eq, nI_leI, nI_ltI, nI_nm1, m1_nI, m1_m1, m1_le, m1_lt, le_m1, lt_m1, oI_n, oI_s, bS_inN, bS_addN, bS_delN, not_true_eq_false, not_false_eq_true, and_true, true_and, if_true, if_false, mT_sI, mT_sL, mT_sR, mR_sI, mR_sL, mI_sL, mI_sR, mL_sI, mL_sR, mI_e, mI_na, mI_nk, mL_e, mL_na, mL_nk, inB_n, ↓tcO_y tca, l1, hk]; done) | (simp (disch := omega) only [↓litm, lit, tN_n, nI_add, pk_mul, pk_sub, pk_div, nI_remN, nI_remN', nI_eq, nI_leI, nI_ltI, nI_nm1, m1_nI, m1_m1, m1_le, m1_lt, le_m1, lt_m1, oI_n, oI_s, bS_inN, bS_addN, bS_delN, not_true_eq_false, not_false_eq_true, and_true, true_and, if_true, if_false, mT_sI, mT_sL, mT_sR, mR_sI, mR_sL, mI_sL, mI_sR, mL_sI, mL_sR, mI_e, mI_na, mI_nk, mL_e, mL_na, mL_nk, inB_n, ↓tcO_y tca, l1, hk]; omega)) only [↓T_203 hl, ly_r203_0 hl, ly_r203_1 hl, ly_r203_2 hl, ly_r203_5 hl, ly_r203_6 hl, ly_r203_7 hl, ↓A_204 hl, ↓A_205 hl, ↓A_206 hl, ↓A_207 hl, ↓e_gI, ↓e_gL, ↓e_gR, ↓e_pI, ↓e_pL, ↓e_pR, ↓e_cR, ↓e_aI, ↓e_aL, ↓e_aR, ↓e_wI, ↓e_wL, ↓e_aN, ↓t_sI, ↓t_sL, ↓t_sR, ↓q_sI, ↓q_sL, ↓q_sR, ↓n_sI, ↓n_sL, ↓n_sR, ↓cA_s, tv_0, tv_1, tv_n0, tv_n1, ↓nz_y, ↓reduceIte, mT_sI, mT_sL, mT_sR, mR_sI, mR_sL, mI_sL, mI_sR, mL_sI, mL_sR, mI_e, mI_na, mI_nk, mL_e, mL_na, mL_nk, ↓litm, lit, tN_n, nI_add, pk_mul, pk_sub, pk_div, nI_remN, nI_remN', nI_eq, nI_leI, nI_ltI, nI_nm1, m1_nI, m1_m1, m1_le, m1_lt, le_m1, lt_m1, oI_n, oI_s, bS_inN, bS_addN, bS_delN, not_true_eq_false, not_false_eq_true, and_true, true_and, if_true, if_false, ↓tcO_y tca, l1, hk]
    · exact ((((Fx.wI (Or.inr (by decide))).I (Or.inl (by decide))).I (Or.inl (by decide))).I (Or.inl (by decide))).I (Or.inl (by decide))
    · rw [e]
      refine ⟨?_, fun m' hm' b hb' => ?_⟩
      · simp (disch := first | omega | (simp (disch := omega) only [↓litm, lit, tN_n, nI_add, pk_mul, pk_sub, pk_div, nI_remN, nI_remN', nI_eq, nI_leI, nI_ltI, nI_nm1, m1_nI, m1_m1, m1_le, m1_lt, le_m1, lt_m1, oI_n, oI_s, bS_inN, bS_addN, bS_delN, not_true_eq_false, not_false_eq_true, and_true, true_and, if_true, if_false, mT_sI, mT_sL, mT_sR, mR_sI, mR_sL, mI_sL, mI_sR, mL_sI, mL_sR, mI_e, mI_na, mI_nk, mL_e, mL_na, mL_nk, inB_n]; done) | (simp (disch := omega) only [↓litm, lit, tN_n, nI_add, pk_mul, pk_sub, pk_div, nI_remN, nI_remN', nI_eq, nI_leI, nI_ltI, nI_nm1, m1_nI, m1_m1, m1_le, m1_lt, le_m1, lt_m1, oI_n, oI_s, bS_inN, bS_addN, bS_delN, not_true_eq_false, not_false_eq_true, and_true, true_and, if_true, if_false, mT_sI, mT_sL, mT_sR, mR_sI, mR_sL, mI_sL, mI_sR, mL_sI, mL_sR, mI_e, mI_na, mI_nk, mL_e, mL_na, mL_nk, inB_n]; omega)) only [↓e_gI, ↓e_gL, ↓e_gR, ↓e_pI, ↓e_pL, ↓e_pR, ↓e_cR, ↓e_aI, ↓e_aL, ↓e_aR, ↓e_wI, ↓e_wL, ↓e_aN, ↓t_sI, ↓t_sL, ↓t_sR, ↓q_sI, ↓q_sL, ↓q_sR, ↓n_sI, ↓n_sL, ↓n_sR, ↓cA_s, tv_0, tv_1, tv_n0, tv_n1, ↓nz_y, ↓reduceIte, mT_sI, mT_sL, mT_sR, mR_sI, mR_sL, mI_sL, mI_sR, mL_sI, mL_sR, mI_e, mI_na, mI_nk, mL_e, mL_na, mL_nk, ↓litm, lit, tN_n, nI_add, pk_mul, pk_sub, pk_div, nI_remN, nI_remN', nI_eq, nI_leI, nI_ltI, nI_nm1, m1_nI, m1_m1, m1_le, m1_lt, le_m1, lt_m1, oI_n, oI_s, bS_inN, bS_addN, bS_delN, not_true_eq_false, not_false_eq_true, and_true, true_and, if_true, if_false]
        congr 1
        apply bS_ext
        intro j hj
        by_cases e2 : j = m
        · subst e2; rw [up1_s]; simp
        · rw [up1_n e2]; simp [e2]
      · by_cases e2 : m' = m
        · subst e2
          rw [up1_s] at hb'
          cases hb'
          refine ⟨hv, hp, hg, hk2, ?_, ?_, ?_, ?_⟩
          all_goals simp (disch := first | omega | (simp (disch := omega) only [↓litm, lit, tN_n, nI_add, pk_mul, pk_sub, pk_div, nI_remN, nI_remN', nI_eq, nI_leI, nI_ltI, nI_nm1, m1_nI, m1_m1, m1_le, m1_lt, le_m1, lt_m1, oI_n, oI_s, bS_inN, bS_addN, bS_delN, not_true_eq_false, not_false_eq_true, and_true, true_and, if_true, if_false, mT_sI, mT_sL, mT_sR, mR_sI, mR_sL, mI_sL, mI_sR, mL_sI, mL_sR, mI_e, mI_na, mI_nk, mL_e, mL_na, mL_nk, inB_n]; done) | (simp (disch := omega) only [↓litm, lit, tN_n, nI_add, pk_mul, pk_sub, pk_div, nI_remN, nI_remN', nI_eq, nI_leI, nI_ltI, nI_nm1, m1_nI, m1_m1, m1_le, m1_lt, le_m1, lt_m1, oI_n, oI_s, bS_inN, bS_addN, bS_delN, not_true_eq_false, not_false_eq_true, and_true, true_and, if_true, if_false, mT_sI, mT_sL, mT_sR, mR_sI, mR_sL, mI_sL, mI_sR, mL_sI, mL_sR, mI_e, mI_na, mI_nk, mL_e, mL_na, mL_nk, inB_n]; omega)) only [↓e_gI, ↓e_gL, ↓e_gR, ↓e_pI, ↓e_pL, ↓e_pR, ↓e_cR, ↓e_aI, ↓e_aL, ↓e_aR, ↓e_wI, ↓e_wL, ↓e_aN, ↓t_sI, ↓t_sL, ↓t_sR, ↓q_sI, ↓q_sL, ↓q_sR, ↓n_sI, ↓n_sL, ↓n_sR, ↓cA_s, tv_0, tv_1, tv_n0, tv_n1, ↓nz_y, ↓reduceIte, mT_sI, mT_sL, mT_sR, mR_sI, mR_sL, mI_sL, mI_sR, mL_sI, mL_sR, mI_e, mI_na, mI_nk, mL_e, mL_na, mL_nk, ↓litm, lit, tN_n, nI_add, pk_mul, pk_sub, pk_div, nI_remN, nI_remN', nI_eq, nI_leI, nI_ltI, nI_nm1, m1_nI, m1_m1, m1_le, m1_lt, le_m1, lt_m1, oI_n, oI_s, bS_inN, bS_addN, bS_delN, not_true_eq_false, not_false_eq_true, and_true, true_and, if_true, if_false]
        · rw [up1_n e2] at hb'
          obtain ⟨q1, q2, q3, q4, q5, q6, q7, q8⟩ := l2 m' hm' b hb'
          refine ⟨q1, q2, q3, q4, ?_, ?_, ?_, ?_⟩
          all_goals simp (disch := first | omega | (simp (disch := omega) only [↓litm, lit, tN_n, nI_add, pk_mul, pk_sub, pk_div, nI_remN, nI_remN', nI_eq, nI_leI, nI_ltI, nI_nm1, m1_nI, m1_m1, m1_le, m1_lt, le_m1, lt_m1, oI_n, oI_s, bS_inN, bS_addN, bS_delN, not_true_eq_false, not_false_eq_true, and_true, true_and, if_true, if_false, mT_sI, mT_sL, mT_sR, mR_sI, mR_sL, mI_sL, mI_sR, mL_sI, mL_sR, mI_e, mI_na, mI_nk, mL_e, mL_na, mL_nk, inB_n, q5, q6, q7, q8]; done) | (simp (disch := omega) only [↓litm, lit, tN_n, nI_add, pk_mul, pk_sub, pk_div, nI_remN, nI_remN', nI_eq, nI_leI, nI_ltI, nI_nm1, m1_nI, m1_m1, m1_le, m1_lt, le_m1, lt_m1, oI_n, oI_s, bS_inN, bS_addN, bS_delN, not_true_eq_false, not_false_eq_true, and_true, true_and, if_true, if_false, mT_sI, mT_sL, mT_sR, mR_sI, mR_sL, mI_sL, mI_sR, mL_sI, mL_sR, mI_e, mI_na, mI_nk, mL_e, mL_na, mL_nk, inB_n, q5, q6, q7, q8]; omega)) only [↓e_gI, ↓e_gL, ↓e_gR, ↓e_pI, ↓e_pL, ↓e_pR, ↓e_cR, ↓e_aI, ↓e_aL, ↓e_aR, ↓e_wI, ↓e_wL, ↓e_aN, ↓t_sI, ↓t_sL, ↓t_sR, ↓q_sI, ↓q_sL, ↓q_sR, ↓n_sI, ↓n_sL, ↓n_sR, ↓cA_s, tv_0, tv_1, tv_n0, tv_n1, ↓nz_y, ↓reduceIte, mT_sI, mT_sL, mT_sR, mR_sI, mR_sL, mI_sL, mI_sR, mL_sI, mL_sR, mI_e, mI_na, mI_nk, mL_e, mL_na, mL_nk, ↓litm, lit, tN_n, nI_add, pk_mul, pk_sub, pk_div, nI_remN, nI_remN', nI_eq, nI_leI, nI_ltI, nI_nm1, m1_nI, m1_m1, m1_le, m1_lt, le_m1, lt_m1, oI_n, oI_s, bS_inN, bS_addN, bS_delN, not_true_eq_false, not_false_eq_true, and_true, true_and, if_true, if_false, q5, q6, q7, q8]
  unfold f_X2_consider_127
  cases hB : B m with
  | none =>
    obtain ⟨M', e1, e2, e3⟩ := put none (by rw [hB]; rfl)
    refine ⟨M', ?_, e2, by rw [← hB]; exact e3⟩
    have hz : (B m).isSome = false := by rw [hB]; rfl
    simp (disch := first | omega | (simp (disch := omega) only [↓litm, lit, tN_n, nI_add, pk_mul, pk_sub, pk_div, nI_remN, nI_remN', nI_eq, nI_leI, nI_ltI, nI_nm1, m1_nI, m1_m1, m1_le, m1_lt, le_m1, lt_m1, oI_n, oI_s, bS_inN, bS_addN, bS_delN, not_true_eq_false, not_false_eq_true, and_true, true_and, if_true, if_false, mT_sI, mT_sL, mT_sR, mR_sI, mR_sL, mI_sL, mI_sR, mL_sI, mL_sR, mI_e, mI_na, mI_nk, mL_e, mL_na, mL_nk, inB_n, l1, hz]; done) | (simp (disch := omega) only [↓litm, lit, tN_n, nI_add, pk_mul, pk_sub, pk_div, nI_remN, nI_remN', nI_eq, nI_leI, nI_ltI, nI_nm1, m1_nI, m1_m1, m1_le, m1_lt, le_m1, lt_m1, oI_n, oI_s, bS_inN, bS_addN, bS_delN, not_true_eq_false, not_false_eq_true, and_true, true_and, if_true, if_false, mT_sI, mT_sL, mT_sR, mR_sI, mR_sL, mI_sL, mI_sR, mL_sI, mL_sR, mI_e, mI_na, mI_nk, mL_e, mL_na, mL_nk, inB_n, l1, hz]; omega)) only [↓T_203 hl, ly_r203_0 hl, ly_r203_1 hl, ly_r203_2 hl, ly_r203_5 hl, ly_r203_6 hl, ly_r203_7 hl, ↓e_gI, ↓e_gL, ↓e_gR, ↓e_pI, ↓e_pL, ↓e_pR, ↓e_cR, ↓e_aI, ↓e_aL, ↓e_aR, ↓e_wI, ↓e_wL, ↓e_aN, ↓t_sI, ↓t_sL, ↓t_sR, ↓q_sI, ↓q_sL, ↓q_sR, ↓n_sI, ↓n_sL, ↓n_sR, ↓cA_s, tv_0, tv_1, tv_n0, tv_n1, ↓nz_y, ↓reduceIte, mT_sI, mT_sL, mT_sR, mR_sI, mR_sL, mI_sL, mI_sR, mL_sI, mL_sR, mI_e, mI_na, mI_nk, mL_e, mL_na, mL_nk, ↓litm, lit, tN_n, nI_add, pk_mul, pk_sub, pk_div, nI_remN, nI_remN', nI_eq, nI_leI, nI_ltI, nI_nm1, m1_nI, m1_m1, m1_le, m1_lt, le_m1, lt_m1, oI_n, oI_s, bS_inN, bS_addN, bS_delN, not_true_eq_false, not_false_eq_true, and_true, true_and, if_true, if_false, l1, hz]
    exact e1
  | some b =>
    have hz : (B m).isSome = true := by rw [hB]; rfl
    obtain ⟨q1, q2, q3, q4, q5, q6, q7, q8⟩ := l2 m hm b hB
    by_cases hc : b.1 < v
    · obtain ⟨M', e1, e2, e3⟩ := put none (by rw [hB]; show (if _ then _ else _) = _; rw [if_pos hc])
      refine ⟨M', ?_, e2, by rw [← hB]; exact e3⟩
      have hle : ¬ (i32 v ≤ i32 b.1) := fun q => by have := (i32_le hv.sm q1.sm).mp q; omega
      simp (disch := first | omega | (simp (disch := omega) only [↓litm, lit, tN_n, nI_add, pk_mul, pk_sub, pk_div, nI_remN, nI_remN', nI_eq, nI_leI, nI_ltI, nI_nm1, m1_nI, m1_m1, m1_le, m1_lt, le_m1, lt_m1, oI_n, oI_s, bS_inN, bS_addN, bS_delN, not_true_eq_false, not_false_eq_true, and_true, true_and, if_true, if_false, mT_sI, mT_sL, mT_sR, mR_sI, mR_sL, mI_sL, mI_sR, mL_sI, mL_sR, mI_e, mI_na, mI_nk, mL_e, mL_na, mL_nk, inB_n, l1, hz, q5, hle, Bool.true_eq_false]; done) | (simp (disch := omega) only [↓litm, lit, tN_n, nI_add, pk_mul, pk_sub, pk_div, nI_remN, nI_remN', nI_eq, nI_leI, nI_ltI, nI_nm1, m1_nI, m1_m1, m1_le, m1_lt, le_m1, lt_m1, oI_n, oI_s, bS_inN, bS_addN, bS_delN, not_true_eq_false, not_false_eq_true, and_true, true_and, if_true, if_false, mT_sI, mT_sL, mT_sR, mR_sI, mR_sL, mI_sL, mI_sR, mL_sI, mL_sR, mI_e, mI_na, mI_nk, mL_e, mL_na, mL_nk, inB_n, l1, hz, q5, hle, Bool.true_eq_false]; omega)) only [↓T_203 hl, ly_r203_0 hl, ly_r203_1 hl, ly_r203_2 hl, ly_r203_5 hl, ly_r203_6 hl, ly_r203_7 hl, ↓A_207 hl, ↓e_gI, ↓e_gL, ↓e_gR, ↓e_pI, ↓e_pL, ↓e_pR, ↓e_cR, ↓e_aI, ↓e_aL, ↓e_aR, ↓e_wI, ↓e_wL, ↓e_aN, ↓t_sI, ↓t_sL, ↓t_sR, ↓q_sI, ↓q_sL, ↓q_sR, ↓n_sI, ↓n_sL, ↓n_sR, ↓cA_s, tv_0, tv_1, tv_n0, tv_n1, ↓nz_y, ↓reduceIte, mT_sI, mT_sL, mT_sR, mR_sI, mR_sL, mI_sL, mI_sR, mL_sI, mL_sR, mI_e, mI_na, mI_nk, mL_e, mL_na, mL_nk, ↓litm, lit, tN_n, nI_add, pk_mul, pk_sub, pk_div, nI_remN, nI_remN', nI_eq, nI_leI, nI_ltI, nI_nm1, m1_nI, m1_m1, m1_le, m1_lt, le_m1, lt_m1, oI_n, oI_s, bS_inN, bS_addN, bS_delN, not_true_eq_false, not_false_eq_true, and_true, true_and, if_true, if_false, l1, hz, q5, hle, Bool.true_eq_false]
      exact e1
    · refine ⟨M, ?_, Fx.rf, ?_⟩
      · have hle : i32 v ≤ i32 b.1 := (i32_le hv.sm q1.sm).mpr (by omega)
        simp (disch := first | omega | (simp (disch := omega) only [↓litm, lit, tN_n, nI_add, pk_mul, pk_sub, pk_div, nI_remN, nI_remN', nI_eq, nI_leI, nI_ltI, nI_nm1, m1_nI, m1_m1, m1_le, m1_lt, le_m1, lt_m1, oI_n, oI_s, bS_inN, bS_addN, bS_delN, not_true_eq_false, not_false_eq_true, and_true, true_and, if_true, if_false, mT_sI, mT_sL, mT_sR, mR_sI, mR_sL, mI_sL, mI_sR, mL_sI, mL_sR, mI_e, mI_na, mI_nk, mL_e, mL_na, mL_nk, inB_n, l1, hz, q5, hle, Bool.true_eq_false]; done) | (simp (disch := omega) only [↓litm, lit, tN_n, nI_add, pk_mul, pk_sub, pk_div, nI_remN, nI_remN', nI_eq, nI_leI, nI_ltI, nI_nm1, m1_nI, m1_m1, m1_le, m1_lt, le_m1, lt_m1, oI_n, oI_s, bS_inN, bS_addN, bS_delN, not_true_eq_false, not_false_eq_true, and_true, true_and, if_true, if_false, mT_sI, mT_sL, mT_sR, mR_sI, mR_sL, mI_sL, mI_sR, mL_sI, mL_sR, mI_e, mI_na, mI_nk, mL_e, mL_na, mL_nk, inB_n, l1, hz, q5, hle, Bool.true_eq_false]; omega)) only [↓T_203 hl, ly_r203_0 hl, ly_r203_1 hl, ly_r203_2 hl, ly_r203_5 hl, ly_r203_6 hl, ly_r203_7 hl, ↓A_207 hl, ↓e_gI, ↓e_gL, ↓e_gR, ↓e_pI, ↓e_pL, ↓e_pR, ↓e_cR, ↓e_aI, ↓e_aL, ↓e_aR, ↓e_wI, ↓e_wL, ↓e_aN, ↓t_sI, ↓t_sL, ↓t_sR, ↓q_sI, ↓q_sL, ↓q_sR, ↓n_sI, ↓n_sL, ↓n_sR, ↓cA_s, tv_0, tv_1, tv_n0, tv_n1, ↓nz_y, ↓reduceIte, mT_sI, mT_sL, mT_sR, mR_sI, mR_sL, mI_sL, mI_sR, mL_sI, mL_sR, mI_e, mI_na, mI_nk, mL_e, mL_na, mL_nk, ↓litm, lit, tN_n, nI_add, pk_mul, pk_sub, pk_div, nI_remN, nI_remN', nI_eq, nI_leI, nI_ltI, nI_nm1, m1_nI, m1_m1, m1_le, m1_lt, le_m1, lt_m1, oI_n, oI_s, bS_inN, bS_addN, bS_delN, not_true_eq_false, not_false_eq_true, and_true, true_and, if_true, if_false, l1, hz, q5, hle, Bool.true_eq_false]
      · rw [show updS (some b) v p g k = some b by show (if _ then _ else _) = _; rw [if_neg hc], ← hB]
        rw [show up1 B m (B m) = B by funext j; by_cases e : j = m; subst e; exact up1_s; exact up1_n e]
        exact ⟨l1, l2⟩
theorem wtC_ne {cd : List Nat} {b : Bool} (h : wtC cd b) : cd ≠ [] := by
  rintro rfl
  obtain ⟨-, g, h1, -⟩ := h
  cases h1
theorem okCl.wt {c : Cl} (h : okCl c) (h2 : cCd c ≠ []) : ∃ b, wtC (cCd c) b := by
  rcases h with h | h | h
  · rcases h.2.2.2.2.2.2 with e | e
    · exact absurd e h2
    · exact ⟨_, e⟩
  · exact ⟨_, h.2.2⟩
  · exact ⟨_, h.2⟩
/-- a clause's sum is worked out in the class -/
theorem x_val {M : Mem} {x : Option Nat} {i : Nat} {c : Cl} {nm : Nat → Int} (hb : Bs w h L nt τ M) (hx : okX nt x) (hc : (tT τ x)[i]? = some c) (h2 : cCd c ≠ []) (hn : nmOk nm) (hnm : ∀ k, k < 7 → mI M 201 k = i32 (nm k)) : ∃ M', f_X9_value (some 200) (some (rT x)) (some (rT x + 5 + i)) M = some (i32 (evV nm (cCd c)), M') ∧ Fx [202] [] M M' := by
  obtain ⟨b, hw⟩ := ((hb.okT hx).2.1 i c hc).wt h2
  obtain ⟨-, -, cs, hcd⟩ := (hb.rules hx).2.1 i c hc
  have hra := hx.ra hb.2.2.2.2.1
  have hne : (202 ≠ rT x + 4) := fun e => by
    have := scr_ra hra (i := 4) (by omega)
    rw [← e] at this
    cases this
  obtain ⟨M', e1, e2⟩ := x_value hn hw (sums_at hb) hcd hnm ⟨hne, by decide⟩
  exact ⟨M', e1, Fx.of1 e2 (by decide)⟩
theorem NmAt.fx {M M' : Mem} {A : List Nat} {F : List (Nat × Nat)} (h' : NmAt π M) (fr : Fx A F M M') (ha : 201 ∉ A ∧ ∀ q ∈ F, q.1 ≠ 201) : NmAt π M' := by
  unfold NmAt at *
  rw [fr.ib ha]
  exact h'
theorem x_c100 {M : Mem} {B : Nat → Bst} {x : Option Nat} {m p g k : Nat} (hb : Bs w h L nt τ M) (hx : okX nt x) (ok : okP π) (hL : LookAt B M) (hm : m < 8) (hp : p < 12) (hg : g < 12) (hk2 : k < 20) (hnm : ∀ k, k < 7 → mI M 201 k = i32 (nmS π m p g k)) : ∃ M', f_X2_consider_100 (some 203) (some (rT x)) (nI m) (nI p) (some (rT x + 5 + k)) (nI g) M = some ((), M') ∧ Fx yA xF M M' ∧ LookAt (up1 B m (updS (B m) (worS (tT τ x) 12 (nmS π m p g)) p g k)) M' := by
  have hl := hb.lay
  have hra := hx.ra hb.2.2.2.2.1
  obtain ⟨t1, t2, t3, t4, t5, t6⟩ := ly_ra hl hra
  have hR := hb.rules hx
  have hs : mR M (rT x + 3) 0 = adr (rT x) (fTd 12 (tT τ x) 0) := hR.2.2.2 0 (by omega)
  have hr2 : mR M (rT x) 2 = some (rT x + 3) := (hl.2.2.2.2.1 _ hra).2.2.1
  have hsz : rT x + 5 + k < 200 := by
    rcases hra with e | ⟨t, ht, e⟩
    · rw [e]; omega
    · rw [e]; unfold rA; omega
  have hnum : mI M (rT x + 5 + k) 0 = nI k := hl.2.2.2.2.2.1 _ hra k hk2
  have hno := nmS_ok (f := (p : Int)) (t := (g : Int)) ok hm (by omega) (by omega)
  unfold f_X2_consider_100
  have e0 : f_X6_singleOf (some (rT x)) (12 : Int32) M = some (mR M (rT x + 3) 0, M) := by
    unfold f_X6_singleOf f_X6_isSingle
    simp (disch := first | omega | (simp (disch := omega) only [↓litm, lit, tN_n, nI_add, pk_mul, pk_sub, pk_div, nI_remN, nI_remN', nI_eq, nI_leI, nI_ltI, nI_nm1, m1_nI, m1_m1, m1_le, m1_lt, le_m1, lt_m1, oI_n, oI_s, bS_inN, bS_addN, bS_delN, not_true_eq_false, not_false_eq_true, and_true, true_and, if_true, if_false, mT_sI, mT_sL, mT_sR, mR_sI, mR_sL, mI_sL, mI_sR, mL_sI, mL_sR, mI_e, mI_na, mI_nk, mL_e, mL_na, mL_nk, inB_n, ↓tcO_y t1, ↓arO_y t4, hr2, show ¬ (12 < 12) by decide, show ¬ (15 < 12) by decide, show ¬ (1 = 0) by decide, Nat.sub_self]; done) | (simp (disch := omega) only [↓litm, lit, tN_n, nI_add, pk_mul, pk_sub, pk_div, nI_remN, nI_remN', nI_eq, nI_leI, nI_ltI, nI_nm1, m1_nI, m1_m1, m1_le, m1_lt, le_m1, lt_m1, oI_n, oI_s, bS_inN, bS_addN, bS_delN, not_true_eq_false, not_false_eq_true, and_true, true_and, if_true, if_false, mT_sI, mT_sL, mT_sR, mR_sI, mR_sL, mI_sL, mI_sR, mL_sI, mL_sR, mI_e, mI_na, mI_nk, mL_e, mL_na, mL_nk, inB_n, ↓tcO_y t1, ↓arO_y t4, hr2, show ¬ (12 < 12) by decide, show ¬ (15 < 12) by decide, show ¬ (1 = 0) by decide, Nat.sub_self]; omega)) only [↓e_gI, ↓e_gL, ↓e_gR, ↓e_pI, ↓e_pL, ↓e_pR, ↓e_cR, ↓e_aI, ↓e_aL, ↓e_aR, ↓e_wI, ↓e_wL, ↓e_aN, ↓t_sI, ↓t_sL, ↓t_sR, ↓q_sI, ↓q_sL, ↓q_sR, ↓n_sI, ↓n_sL, ↓n_sR, ↓cA_s, tv_0, tv_1, tv_n0, tv_n1, ↓nz_y, ↓reduceIte, mT_sI, mT_sL, mT_sR, mR_sI, mR_sL, mI_sL, mI_sR, mL_sI, mL_sR, mI_e, mI_na, mI_nk, mL_e, mL_na, mL_nk, ↓litm, lit, tN_n, nI_add, pk_mul, pk_sub, pk_div, nI_remN, nI_remN', nI_eq, nI_leI, nI_ltI, nI_nm1, m1_nI, m1_m1, m1_le, m1_lt, le_m1, lt_m1, oI_n, oI_s, bS_inN, bS_addN, bS_delN, not_true_eq_false, not_false_eq_true, and_true, true_and, if_true, if_false, ↓tcO_y t1, ↓arO_y t4, hr2, show ¬ (12 < 12) by decide, show ¬ (15 < 12) by decide, show ¬ (1 = 0) by decide, Nat.sub_self]
  rw [cR_t t1, e0, cA_s, hs]
  cases ho : fTd 12 (tT τ x) 0 with
  | none =>
    rw [show adr (rT x) none = none from rfl, if_pos rfl, fTd_none _ _ ho, i32_0]
    exact x_c127 hb hL (t6 k hk2) hnum hsz hm hp hg hk2 vl0
  | some j =>
    obtain ⟨k', c', h1, h2, h3, h4⟩ := fTd_some (nm := nmS π m p g) _ _ _ ho
    rw [Nat.zero_add] at h1
    subst h1
    have hok := (hb.okT hx).2.1 _ c' h2
    have hwt : wtC (cCd c') false := by
      rcases hok with q | q | q
      · have := q.1; omega
      · exact q.2.2
      · have := q.1; omega
    obtain ⟨M1, v1, v2⟩ := x_val hb hx h2 (wtC_ne hwt) hno hnm
    have v3 : Fx yA xF M M1 := v2.mono (by decide) (by decide)
    have hb1 := hb.fx v3 (by decide) (by decide)
    rw [show adr (rT x) (some j) = some (rT x + 5 + j) from rfl, if_neg (by simp), gR_t (ly_t203 hl), ly_r203_7 hl, cR_t (ly_t200 hl), v1, cA_s, h4]
    have hmT : mT M1 (rT x + 5 + k) = (1, 1) := by rw [v2.1]; exact t6 k hk2
    have hnum1 : mI M1 (rT x + 5 + k) 0 = nI k := hb1.lay.2.2.2.2.2.1 _ hra k hk2
    obtain ⟨M2, u1, u2, u3⟩ := x_c127 hb1 (hL.fx v2 (by decide) (by decide)) hmT hnum1 hsz hm hp hg hk2 (evV_ok hno hwt).1
    exact ⟨M2, u1, v3.tr u2, u3⟩
theorem x_cons_loop {x : Option Nat} {a m p kd : Nat} (hx : okX nt x) (ok : okP π) (ha : isPA a) (hm : m < 8) (hp : p < w * h) (hkd : kd < 4) (hcell : π.1 p = 1 + kd + 4 * π.2.2) : ∀ (R : Txt) (i n : Nat) (M : Mem) (B : Nat → Bst), (tT τ x).drop i = R → R.length < n → Bs w h L nt τ M → PosAt a π M → NmAt π M → LookAt B M → ∃ M', f_X2_consider_20 n (some 203) (some a) (some (rT x)) (nI m) (nI p) (nI kd) (adr (rT x) (fMd m R i)) M = some ((), M') ∧ Fx xA xF M M' ∧ NmAt π M' ∧ LookAt (lkR B (tT τ x) π m p (pickD w h π m p R i)) M'
  | [], i, 0, M, B => fun _ q => absurd q (by omega)
  | [], i, n + 1, M, B => by
    intro hR hl hb hP hN hL
    refine ⟨M, ?_, Fx.rf, hN, hL⟩
    rw [u_X2_consider_20]
    unfold b_X2_consider_20
    rw [show adr (rT x) (fMd m [] i) = none from rfl, if_pos rfl]
  | c :: R, i, n, M, B => by
    intro hR hln hb hP hN hL
    have hR' : (tT τ x).drop (i + 1) = R := by rw [← List.drop_drop, hR]; rfl
    have hc : (tT τ x)[i]? = some c := by
      have := List.getElem?_drop (xs := tT τ x) (i := i) (j := 0)
      rw [hR] at this
      simpa using this.symm
    simp only [List.length_cons] at hln
    by_cases hcm : cTy c = 0 ∧ cMv c = m
    · obtain ⟨n, rfl⟩ : ∃ n', n = n' + 1 := ⟨n - 1, by omega⟩
      have hl := hb.lay
      have hw := hb.1.le
      have hra := hx.ra hb.2.2.2.2.1
      obtain ⟨t1, t2, t3, t4, t5, t6⟩ := ly_ra hl hra
      have hi : i < 20 := by
        have h1 := (List.getElem?_eq_some_iff.mp hc).1
        have h2 := (hb.okT hx).1
        omega
      have tca := t6 i hi
      obtain ⟨-, r2, cs, hcd⟩ := (hb.rules hx).2.1 i c hc
      obtain ⟨f2, f3, f4, f5, f8⟩ := r2 hcm.1
      rw [hcm.2, hR'] at f8
      have hok := (hb.okT hx).2.1 i c hc
      have hokc : cMv c < 8 ∧ 7 ≤ cAc c ∧ cAc c ≤ 10 ∧ cKd c < 4 ∧ cDr c < 4 ∧ (cCd c = [] ∨ wtC (cCd c) true) := by
        rcases hok with q | q | q
        · exact q.2
        · have := q.1; have := hcm.1; omega
        · have := q.1; have := hcm.1; omega
      have hgo := x_goal hb hP ok tca f3 f4 f5 ⟨hokc.2.1, hokc.2.2.1, hokc.2.2.2.1, hokc.2.2.2.2.1⟩ hp
      have hcnt := x_count hP ok hm
      have tp := hP.1
      rw [fMd_y hcm, show adr (rT x) (some i) = some (rT x + 5 + i) from rfl, u_X2_consider_20]
      -- the way on, where this clause doesn't do
      have on : ∀ M1, Fx xA xF M M1 → NmAt π M1 → LookAt B M1 → toS w h π m p c = none → ∃ M', f_X2_consider_20 n (some 203) (some a) (some (rT x)) (nI m) (nI p) (nI kd) (adr (rT x) (fMd m R (i + 1))) M1 = some ((), M') ∧ Fx xA xF M M' ∧ NmAt π M' ∧ LookAt (lkR B (tT τ x) π m p (pickD w h π m p (c :: R) i)) M' := by
        intro M1 fr hN1 hL1 ht
        rw [pickD_z ht]
        obtain ⟨M', u1, u2, u3, u4⟩ := x_cons_loop hx ok ha hm hp hkd hcell R (i + 1) n M1 B hR' (by omega) (hb.fx fr (by decide) (by decide)) (hP.fx fr (pa_x ha)) hN1 hL1
        exact ⟨M', u1, fr.tr u2, u3, u4⟩
      unfold b_X2_consider_20
      rw [if_neg (by simp), gI_t tca, f4]
      by_cases hk : cKd c = kd
      · rw [if_pos (by rw [hk]), cR_t (ly_t203 hl), hgo, cA_s]
        unfold f_X2_consider_48
        cases hg : goalS w h π c p with
        | none =>
          have ht : toS w h π m p c = none := by unfold toS; rw [hg]; simp
          rw [oI_n, if_pos (show m1 = -1 from rfl), gR_t tca, f8]
          exact on M Fx.rf hN hL ht
        | some g =>
          have hg2 := goalS_lt hb.1 hp hg
          have hts : toS w h π m p c = if cCd c = [] then some g else if evV (nmS π m p g) (cCd c) = 0 then none else some g := by
            unfold toS
            rw [hg, if_pos (by rw [hk]; exact hcell)]
          rw [oI_s, if_neg (show ¬ nI g = -1 from fun q => (nI_nm1 (by omega)).mp q), gR_t (ly_t203 hl), ly_r203_7 hl, cR_t tp, hcnt, cA_s, cR_t (ly_t200 hl), x_aim hb, cA_s]
          have fr1 : Fx xA xF M (sI (sI (sI (sI M 201 0 (nI m)) 201 1 (nI (π.2.1 m))) 201 2 (nI p)) 201 3 (nI g)) := (((Fx.wI (Or.inl (by decide))).I (Or.inl (by decide))).I (Or.inl (by decide))).I (Or.inl (by decide))
          have fr1' : Fx [201] [] M (sI (sI (sI (sI M 201 0 (nI m)) 201 1 (nI (π.2.1 m))) 201 2 (nI p)) 201 3 (nI g)) := (((Fx.wI (Or.inl (by decide))).I (Or.inl (by decide))).I (Or.inl (by decide))).I (Or.inl (by decide))
          have hnm := aim_nm (m := m) (p := p) (g := g) hN
          have hN1 : NmAt π (sI (sI (sI (sI M 201 0 (nI m)) 201 1 (nI (π.2.1 m))) 201 2 (nI p)) 201 3 (nI g)) := by
            obtain ⟨n4, n5, n6⟩ := hN
            unfold NmAt
            simp (disch := first | omega | (simp (disch := omega) only [↓litm, lit, tN_n, nI_add, pk_mul, pk_sub, pk_div, nI_remN, nI_remN', nI_eq, nI_leI, nI_ltI, nI_nm1, m1_nI, m1_m1, m1_le, m1_lt, le_m1, lt_m1, oI_n, oI_s, bS_inN, bS_addN, bS_delN, not_true_eq_false, not_false_eq_true, and_true, true_and, if_true, if_false, mT_sI, mT_sL, mT_sR, mR_sI, mR_sL, mI_sL, mI_sR, mL_sI, mL_sR, mI_e, mI_na, mI_nk, mL_e, mL_na, mL_nk, inB_n, n4, n5, n6]; done) | (simp (disch := omega) only [↓litm, lit, tN_n, nI_add, pk_mul, pk_sub, pk_div, nI_remN, nI_remN', nI_eq, nI_leI, nI_ltI, nI_nm1, m1_nI, m1_m1, m1_le, m1_lt, le_m1, lt_m1, oI_n, oI_s, bS_inN, bS_addN, bS_delN, not_true_eq_false, not_false_eq_true, and_true, true_and, if_true, if_false, mT_sI, mT_sL, mT_sR, mR_sI, mR_sL, mI_sL, mI_sR, mL_sI, mL_sR, mI_e, mI_na, mI_nk, mL_e, mL_na, mL_nk, inB_n, n4, n5, n6]; omega)) only [↓e_gI, ↓e_gL, ↓e_gR, ↓e_pI, ↓e_pL, ↓e_pR, ↓e_cR, ↓e_aI, ↓e_aL, ↓e_aR, ↓e_wI, ↓e_wL, ↓e_aN, ↓t_sI, ↓t_sL, ↓t_sR, ↓q_sI, ↓q_sL, ↓q_sR, ↓n_sI, ↓n_sL, ↓n_sR, ↓cA_s, tv_0, tv_1, tv_n0, tv_n1, ↓nz_y, ↓reduceIte, mT_sI, mT_sL, mT_sR, mR_sI, mR_sL, mI_sL, mI_sR, mL_sI, mL_sR, mI_e, mI_na, mI_nk, mL_e, mL_na, mL_nk, ↓litm, lit, tN_n, nI_add, pk_mul, pk_sub, pk_div, nI_remN, nI_remN', nI_eq, nI_leI, nI_ltI, nI_nm1, m1_nI, m1_m1, m1_le, m1_lt, le_m1, lt_m1, oI_n, oI_s, bS_inN, bS_addN, bS_delN, not_true_eq_false, not_false_eq_true, and_true, true_and, if_true, if_false, n4, n5, n6]
          generalize hM1 : (sI (sI (sI (sI M 201 0 (nI m)) 201 1 (nI (π.2.1 m))) 201 2 (nI p)) 201 3 (nI g)) = M1 at *
          have hb1 := hb.fx fr1 (by decide) (by decide)
          have hl1 := hb1.lay
          have hL1 := hL.fx fr1' (by decide) (by decide)
          have tca1 : mT M1 (rT x + 5 + i) = (1, 1) := by rw [fr1.1]; exact tca
          have hno := nmS_ok (f := (p : Int)) (t := (g : Int)) ok hm (by omega) (by omega)
          obtain ⟨-, -, cs1, -, -, -, -, d5, d6, d7, -⟩ := (hb1.rules hx).2.1 i c hc
          have hhc : f_X1_hasCode (some (rT x + 5 + i)) M1 = some (if cCd c = [] then 0 else 1, M1) := by
            unfold f_X1_hasCode
            rw [gI_t tca1, gI_t tca1, d5, d6]
            by_cases e : cCd c = []
            · rw [if_pos e, e, if_pos (by simp), tv_0]
            · have : 0 < (cCd c).length := List.length_pos_iff.mpr e
              rw [if_neg e, if_neg (nI_ge (by omega) (by omega)), tv_1]
          rw [cR_t tca1, hhc, cA_s]
          have yes : ∀ M2, Fx xA xF M M2 → NmAt π M2 → (∀ k, k < 7 → mI M2 201 k = i32 (nmS π m p g k)) → LookAt B M2 → toS w h π m p c = some g → ∃ M', f_X2_consider_100 (some 203) (some (rT x)) (nI m) (nI p) (some (rT x + 5 + i)) (nI g) M2 = some ((), M') ∧ Fx xA xF M M' ∧ NmAt π M' ∧ LookAt (lkR B (tT τ x) π m p (pickD w h π m p (c :: R) i)) M' := by
            intro M2 fr hN2 hnm2 hL2 ht
            rw [pickD_y hcm ht]
            obtain ⟨M', u1, u2, u3⟩ := x_c100 (hb.fx fr (by decide) (by decide)) hx ok hL2 hm (by omega) (by omega) hi hnm2
            exact ⟨M', u1, fr.tr (u2.mono (by decide) (by decide)), hN2.fx u2 (by decide), u3⟩
          by_cases e : cCd c = []
          · rw [if_pos e, if_pos rfl]
            exact yes M1 fr1 hN1 hnm hL1 (by rw [hts, if_pos e])
          · rw [if_neg e, if_neg (by decide), gR_t (ly_t203 hl1), ly_r203_7 hl1, cR_t (ly_t200 hl1)]
            obtain ⟨M2, v1, v2⟩ := x_val hb1 hx hc e hno hnm
            have hwt : wtC (cCd c) true := by rcases hokc.2.2.2.2.2 with q | q; exact absurd q e; exact q
            have v3 : Fx xA xF M M2 := fr1.tr (v2.mono (by decide) (by decide))
            have hN2 := hN1.fx v2 (by decide)
            have hL2 := hL1.fx v2 (by decide) (by decide)
            rw [v1, cA_s]
            by_cases ev : evV (nmS π m p g) (cCd c) = 0
            · rw [ev, if_pos (by decide), gR_t (by rw [v3.1]; exact tca), v3.2.2.1, f8]
              exact on M2 v3 hN2 hL2 (by rw [hts, if_neg e, if_pos ev])
            · rw [if_neg (fun q => ev (by rw [i32_0] at q; exact (i32_eq (evV_ok hno hwt).1.sm vl0.sm).mp q))]
              exact yes M2 v3 hN2 (fun k hk => by rw [v2.ib (by decide)]; exact hnm k hk) hL2 (by rw [hts, if_neg e, if_neg ev])
      · rw [if_neg (fun q => hk ((nI_eq (by omega) (by omega)).mp q))]
        unfold f_X2_consider_48
        rw [if_pos rfl, gR_t tca, f8]
        exact on M Fx.rf hN hL (by unfold toS; rw [if_neg (by omega)])
    · rw [fMd_n hcm, pickD_n hcm]
      exact x_cons_loop hx ok ha hm hp hkd hcell R (i + 1) n M B hR' (by omega) hb hP hN hL
end CONS
