/-! ===== the class numbers states ===== -/
def mxX (π : Pos) : Int64 := (lN (btN π) ^^^ ((nI (enc 2 π.2.1 8)).toInt64 <<< ((40 : Int32).toInt64 &&& 63))) * (-7046029254386353131 : Int64)
def hX (π : Pos) : Nat := (mxX π).toBitVec.toNat / 2 ^ 52
theorem hX_lt (π : Pos) : hX π < 4096 := by
  have := (mxX π).toBitVec.isLt
  unfold hX
  omega
theorem hX_s (π : Pos) : ((mxX π).toUInt64 >>> ((52 : Int32).toInt64.toUInt64 &&& Int64.toUInt64 63)).toInt64.toInt32 = nI (hX π) := by
  have e : mxX π = lN (mxX π).toBitVec.toNat := wb_inj (by rw [wb_tb]; simp)
  unfold hX
  have hlt := (mxX π).toBitVec.isLt
  generalize (mxX π).toBitVec.toNat = n at e hlt
  rw [e, show (52 : Int32) = nI 52 from rfl, wb_shr hlt (by decide), lN_i]
def StsX (Q : Nat → Pos) (n : Nat) (t : Nat → Nat) (M : Mem) : Prop := mI M 211 2 = nI n ∧ (∀ i, i < n → mL M 214 i = lN (btN (Q i)) ∧ mI M 215 i = nI (enc 2 (Q i).2.1 8)) ∧ ∀ a, a < 4096 → mI M 216 a = nI (t a)
def StsOk (w h : Nat) (Q : Nat → Pos) (n : Nat) (t : Nat → Nat) : Prop := n ≤ 2000 ∧ (∀ i, i < n → okN w h (Q i)) ∧ (∀ i j, i < n → j < n → Q i = Q j → i = j) ∧ Tab 4096 t n (fun i => hX (Q i))
theorem StsX.fx {Q : Nat → Pos} {n : Nat} {t : Nat → Nat} {M M' : Mem} {A : List Nat} {F : List (Nat × Nat)} (h' : StsX Q n t M) (fr : Fx A F M M') (h1 : 211 ∉ A ∧ (211, 2) ∉ F) (h2 : 214 ∉ A ∧ ∀ q ∈ F, q.1 ≠ 214) (h3 : 215 ∉ A ∧ ∀ q ∈ F, q.1 ≠ 215) (h4 : 216 ∉ A ∧ ∀ q ∈ F, q.1 ≠ 216) : StsX Q n t M' := by
  unfold StsX at *
  rw [fr.i h1.1 h1.2, fr.lb h2, fr.ib h3, fr.ib h4]
  exact h'
def NumR (w h : Nat) (Q : Nat → Pos) (n : Nat) (π : Pos) (M : Mem) (o : Option (Int32 × Mem)) : Prop :=
  (∃ i, i < n ∧ Q i = π ∧ o = some (nI i, M)) ∨ ((∀ i, i < n → Q i ≠ π) ∧ n < 2000 ∧ ∃ t' M', o = some (nI n, M') ∧ StsX (up1 Q n π) (n + 1) t' M' ∧ StsOk w h (up1 Q n π) (n + 1) t' ∧ Fx [214, 215, 216] [(211, 2)] M M') ∨ ((∀ i, i < n → Q i ≠ π) ∧ n = 2000 ∧ o = some (nI 0, sI M 211 3 (nI 1)))
theorem Tab.congr {N n : Nat} {t hs hs' : Nat → Nat} (ht : Tab N t n hs) (he : ∀ i, i < n → hs i = hs' i) : Tab N t n hs' := by
  refine ⟨ht.1, ht.2.1, fun i hi => ?_⟩
  rw [← he i hi]
  exact ht.2.2 i hi
section NUMBER
variable {w h L nt : Nat} {τ : Nat → Txt} {Q : Nat → Pos} {n : Nat} {t : Nat → Nat} {π : Pos} {M : Mem}
theorem x_enter_y {a : Nat} (hb : Bs w h L nt τ M) (hs : StsX Q n t M) (hn : n < 2000) (ha : a < 4096) : ∃ M', f_X8_enter (some 211) (nI a) (lN (btN π)) (nI (enc 2 π.2.1 8)) M = some (nI n, M') ∧ StsX (up1 Q n π) (n + 1) (up1 t a (n + 1)) M' ∧ Fx [214, 215, 216] [(211, 2)] M M' := by
  have hl := hb.lay
  obtain ⟨s1, s2, s3⟩ := hs
  refine ⟨sI (sI (sI (sL M 214 n (lN (btN π))) 215 n (nI (enc 2 π.2.1 8))) 211 2 (nI (n + 1))) 216 a (nI (n + 1)), ?_, ⟨?_, fun i hi => ?_, fun b hb => ?_⟩, (((Fx.wL (Or.inl (by decide))).I (Or.inl (by decide))).I (Or.inr (by decide))).I (Or.inl (by decide))⟩
  · unfold f_X8_enter
    simp (disch := first | omega | (simp (disch := omega) only [↓litm, lit, tN_n, nI_add, pk_mul, pk_sub, pk_div, nI_remN, nI_remN', nI_eq, nI_leI, nI_ltI, nI_nm1, m1_nI, m1_m1, m1_le, m1_lt, le_m1, lt_m1, oI_n, oI_s, bS_inN, bS_addN, bS_delN, not_true_eq_false, not_false_eq_true, and_true, true_and, if_true, if_false, mT_sI, mT_sL, mT_sR, mR_sI, mR_sL, mI_sL, mI_sR, mL_sI, mL_sR, mI_e, mI_na, mI_nk, mL_e, mL_na, mL_nk, inB_n, s1, hn, Nat.add_sub_cancel]; done) | (simp (disch := omega) only [↓litm, lit, tN_n, nI_add, pk_mul, pk_sub, pk_div, nI_remN, nI_remN', nI_eq, nI_leI, nI_ltI, nI_nm1, m1_nI, m1_m1, m1_le, m1_lt, le_m1, lt_m1, oI_n, oI_s, bS_inN, bS_addN, bS_delN, not_true_eq_false, not_false_eq_true, and_true, true_and, if_true, if_false, mT_sI, mT_sL, mT_sR, mR_sI, mR_sL, mI_sL, mI_sR, mL_sI, mL_sR, mI_e, mI_na, mI_nk, mL_e, mL_na, mL_nk, inB_n, s1, hn, Nat.add_sub_cancel]; omega)) only [↓T_211 hl, ly_r211_0 hl, ly_r211_1 hl, ly_r211_4 hl, ly_r211_5 hl, ly_r211_6 hl, ly_r211_7 hl, ly_r211_8 hl, ly_r211_9 hl, ly_r211_10 hl, ↓A_214 hl, ↓A_215 hl, ↓A_216 hl, ↓e_gI, ↓e_gL, ↓e_gR, ↓e_pI, ↓e_pL, ↓e_pR, ↓e_cR, ↓e_aI, ↓e_aL, ↓e_aR, ↓e_wI, ↓e_wL, ↓e_aN, ↓t_sI, ↓t_sL, ↓t_sR, ↓q_sI, ↓q_sL, ↓q_sR, ↓n_sI, ↓n_sL, ↓n_sR, ↓cA_s, tv_0, tv_1, tv_n0, tv_n1, ↓nz_y, ↓reduceIte, mT_sI, mT_sL, mT_sR, mR_sI, mR_sL, mI_sL, mI_sR, mL_sI, mL_sR, mI_e, mI_na, mI_nk, mL_e, mL_na, mL_nk, ↓litm, lit, tN_n, nI_add, pk_mul, pk_sub, pk_div, nI_remN, nI_remN', nI_eq, nI_leI, nI_ltI, nI_nm1, m1_nI, m1_m1, m1_le, m1_lt, le_m1, lt_m1, oI_n, oI_s, bS_inN, bS_addN, bS_delN, not_true_eq_false, not_false_eq_true, and_true, true_and, if_true, if_false, s1, hn, Nat.add_sub_cancel]
  · rw [mI_na (by decide), mI_e]
  · rw [mL_sI, mL_sI, mL_sI, mI_na (by decide), mI_na (by decide)]
    by_cases e : i = n
    · subst e; rw [mL_e, mI_e, up1_s]; exact ⟨rfl, rfl⟩
    · rw [mL_nk e, mI_nk e, mI_sL, up1_n e]; exact s2 i (by omega)
  · by_cases e : b = a
    · subst e; rw [mI_e, up1_s]
    · rw [mI_nk e, mI_na (by decide), mI_na (by decide), mI_sL, up1_n e]; exact s3 b hb
theorem x_enter_n {a : Nat} {l : Int64} {v : Int32} (hb : Bs w h L nt τ M) (hs : StsX Q 2000 t M) : f_X8_enter (some 211) (nI a) l v M = some (nI 0, sI M 211 3 (nI 1)) := by
  have hl := hb.lay
  have s1 := hs.1
  unfold f_X8_enter
  rw [gI_t (ly_t211 hl), s1, if_neg (by decide), tv_1, pI_t (ly_t211 hl)]
  rfl
theorem x_num_l (hb : Bs w h L nt τ M) (hs : StsX Q n t M) (hok : StsOk w h Q n t) (okp : okN w h π) : ∀ (m f k : Nat), k + m = 4096 → m < f → (∀ j, j < k → t ((hX π + j) % 4096) ≠ 0 ∧ Q (t ((hX π + j) % 4096) - 1) ≠ π) → (∃ d, k ≤ d ∧ d < 4096 ∧ t ((hX π + d) % 4096) = 0) → NumR w h Q n π M (f_X8_numberOf_24 f (some 211) (lN (btN π)) (nI (enc 2 π.2.1 8)) (nI ((hX π + k) % 4096)) (nI k) M)
  | m, 0, k, _, hf => absurd hf (by omega)
  | 0, f + 1, k, hk, _ => by
    rintro - ⟨d, h1, h2, -⟩
    omega
  | m + 1, f + 1, k, hk, hf => by
    rintro hj ⟨d, d1, d2, d3⟩
    have hl := hb.lay
    have hsl : (hX π + k) % 4096 < 4096 := Nat.mod_lt _ (by decide)
    obtain ⟨o1, o2, o3, o4⟩ := hok
    have htv := hs.2.2 _ hsl
    have hle := o4.1 _ hsl
    have hnx : nI ((hX π + k) % 4096) + (1 : Int32) = nI ((hX π + k) % 4096 + 1) := nI_1 _
    -- the next slot
    have h83 : ∀ q, f_X8_numberOf_83 q (some 211) (lN (btN π)) (nI (enc 2 π.2.1 8)) (nI ((hX π + k) % 4096)) (nI k) M = q (some 211) (lN (btN π)) (nI (enc 2 π.2.1 8)) (nI ((hX π + (k + 1)) % 4096)) (nI (k + 1)) M := by
      intro q
      unfold f_X8_numberOf_83
      rw [hnx, nI_1]
      by_cases hc : 4096 ≤ (hX π + k) % 4096 + 1
      · rw [if_pos (show (4096 : Int32) ≤ nI _ from nI_le (a := 4096) hc (by omega)), show (hX π + (k + 1)) % 4096 = 0 by omega]
        rfl
      · rw [if_neg (show ¬ (4096 : Int32) ≤ nI _ from nI_ge (b := 4096) (by omega) (by decide)), show (hX π + (k + 1)) % 4096 = (hX π + k) % 4096 + 1 by omega]
    rw [u_X8_numberOf_24]
    unfold b_X8_numberOf_24
    rw [if_neg (show ¬ (4096 : Int32) ≤ nI k from nI_ge (b := 4096) (by omega) (by decide)), gR_t (ly_t211 hl), ly_r211_6 hl, aI_t (ly_t216 hl) hsl (by decide), htv]
    by_cases hz : t ((hX π + k) % 4096) = 0
    · -- a free slot
      have hne : ∀ i, i < n → Q i ≠ π := fun i hi e => Tab.none o4 hz (i := i) (fun j hjk => ⟨(hj j hjk).1, fun z => (hj j hjk).2 (by rw [z]; exact e)⟩) hi (by show hX (Q i) = hX π; rw [e])
      rw [hz, if_neg (show ¬ (0 : Int32) ≤ nI 0 - 1 by decide), cR_t (ly_t211 hl)]
      rcases Nat.lt_or_ge n 2000 with q | q
      · obtain ⟨M', e1, e2, e3⟩ := x_enter_y (π := π) hb hs q hsl
        rw [e1, cA_s]
        refine Or.inr (Or.inl ⟨hne, q, _, M', rfl, e2, ⟨by omega, fun i hi => ?_, fun i j hi hj' hij => ?_, ?_⟩, e3⟩)
        · by_cases e : i = n
          · subst e; rw [up1_s]; exact okp
          · rw [up1_n e]; exact o2 i (by omega)
        · by_cases e : i = n
          · by_cases e' : j = n
            · omega
            · rw [e, up1_s, up1_n e'] at hij
              exact absurd hij.symm (hne j (by omega))
          · by_cases e' : j = n
            · rw [e', up1_s, up1_n e] at hij
              exact absurd hij (hne i (by omega))
            · rw [up1_n e, up1_n e'] at hij
              exact o3 i j (by omega) (by omega) hij
        · have hT : Tab 4096 t n (fun i => hX (up1 Q n π i)) := o4.congr (fun i hi => by show hX (Q i) = hX (up1 Q n π i); rw [up1_n (by omega)])
          have hn' : hX (up1 Q n π n) = hX π := by rw [up1_s]
          have := hT.add (d := k) (by omega) (by rw [hn']; exact hz) (fun j hjk => by rw [hn']; exact (hj j hjk).1)
          simp only [hn'] at this
          exact this
      · obtain rfl : n = 2000 := by omega
        rw [x_enter_n hb hs, cA_s]
        exact Or.inr (Or.inr ⟨hne, rfl, rfl⟩)
    · have hi : t ((hX π + k) % 4096) - 1 < n := by omega
      have hv : nI (t ((hX π + k) % 4096)) - (1 : Int32) = nI (t ((hX π + k) % 4096) - 1) := by rw [show (1 : Int32) = nI 1 from rfl, pk_sub (by omega)]
      obtain ⟨v1, v2⟩ := hs.2.1 _ hi
      have okq := o2 _ hi
      have l1 := btN_lt okq.1
      have l2 := btN_lt okp.1
      have l3 := okq.1.hlt
      have l4 := okp.1.hlt
      have go : Q (t ((hX π + k) % 4096) - 1) ≠ π → NumR w h Q n π M (f_X8_numberOf_83 (f_X8_numberOf_24 f) (some 211) (lN (btN π)) (nI (enc 2 π.2.1 8)) (nI ((hX π + k) % 4096)) (nI k) M) := by
        intro hq
        rw [h83]
        refine x_num_l hb hs ⟨o1, o2, o3, o4⟩ okp m f (k + 1) (by omega) (by omega) (fun j hj' => ?_) ⟨d, ?_, d2, d3⟩
        · by_cases e : j = k
          · subst e; exact ⟨hz, hq⟩
          · exact hj j (by omega)
        · rcases Nat.eq_or_lt_of_le d1 with q | q
          · subst q; exact absurd d3 hz
          · omega
      rw [hv, if_pos (nI_ge0 (by omega)), gR_t (ly_t211 hl), ly_r211_4 hl, aL_t (ly_t214 hl) (by omega) (by decide), v1]
      by_cases c1 : btN (Q (t ((hX π + k) % 4096) - 1)) = btN π
      · rw [if_pos ((lg_cmp_eq _ _).mpr (by rw [c1])), gR_t (ly_t211 hl), ly_r211_5 hl, aI_t (ly_t215 hl) (by omega) (by decide), v2]
        by_cases c2 : enc 2 (Q (t ((hX π + k) % 4096) - 1)).2.1 8 = enc 2 π.2.1 8
        · rw [if_pos (by rw [c2])]
          exact Or.inl ⟨_, hi, okq.ext okp c1 c2, rfl⟩
        · rw [if_neg (nIne (by omega) (by omega) c2)]
          exact go (fun e => c2 (by rw [e]))
      · rw [if_neg (fun z => c1 ((lN_eqq (by omega) (by omega)).mp ((lg_cmp_eq _ _).mp z)))]
        exact go (fun e => c1 (by rw [e]))
theorem x_number (hb : Bs w h L nt τ M) (hs : StsX Q n t M) (hok : StsOk w h Q n t) (okp : okN w h π) : NumR w h Q n π M (f_X8_numberOf (some 211) (lN (btN π)) (nI (enc 2 π.2.1 8)) M) := by
  unfold f_X8_numberOf
  have e := hX_s π
  unfold mxX at e
  rw [e]
  have h1 := hX_lt π
  have := x_num_l hb hs hok okp 4096 FU 0 (by omega) (by decide) (fun j hj => absurd hj (by omega)) (by
    obtain ⟨d, h1, h2⟩ := hok.2.2.2.free (by have := hok.1; omega) (hX π)
    exact ⟨d, by omega, h1, h2⟩)
  rw [Nat.add_zero, Nat.mod_eq_of_lt h1] at this
  exact this
end NUMBER
