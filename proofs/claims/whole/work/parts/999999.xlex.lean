/-! ===== tokens of the class ===== -/
theorem cS_t {β : Type} {M : Mem} {a : Nat} {K : Option β} (h : (mT M a).1 = 9) : cS M (some a) K = K := by unfold cS; exact if_pos h
theorem gS_t {β : Type} {M : Mem} {a : Nat} {K : Option Nat → Option β} (h : (mT M a).1 = 9) : gS M (some a) K = K (mR M a 0) := by unfold gS; exact if_pos h
theorem gSc_t {β : Type} {M : Mem} {a : Nat} {K : Int32 → Option β} (h : (mT M a).1 = 9) : gSc M (some a) K = K (mI M a 1) := by unfold gSc; exact if_pos h
theorem gF_t {β : Type} {M : Mem} {K : Option Nat → Option β} (h : (mT M 6).1 = 11) : gF M K = K (mR M 6 0) := by unfold gF; exact if_pos h
theorem cv_t {β : Type} {y : Int32} {K : Option β} (h : (y.toUInt32 % 65536).toInt32 = y) : cv y K = K := by unfold cv; exact if_pos h
theorem bv_t {β : Type} {y : Int32} {K : Option β} (h : y.toInt8.toInt32 = y) : bv y K = K := by unfold bv; exact if_pos h
section XLEX
variable {pl L : Nat} {tp : Nat → Nat} {ln : Nat} {M : Mem}
/-- the tape of the class -/
def TpeX (tp : Nat → Nat) (ln : Nat) (M : Mem) : Prop := ln ≤ 300 ∧ mI M 43 1 = nI ln ∧ ∀ i, i < ln → tp i < 256 ∧ mI M 44 i = nI (tp i)
abbrev lxF : List (Nat × Nat) := [(43, 5), (43, 6), (43, 7), (43, 8)]
theorem TpeX.fx {M' : Mem} {A : List Nat} {F : List (Nat × Nat)} (h : TpeX tp ln M) (fr : Fx A F M M') (h1 : 43 ∉ A ∧ (43, 1) ∉ F) (h2 : 44 ∉ A ∧ ∀ q ∈ F, q.1 ≠ 44) : TpeX tp ln M' := by
  unfold TpeX at *
  rw [fr.i h1.1 h1.2, fr.ib h2]
  exact h
theorem Lay.lx {M' : Mem} (hl : Lay pl L M) (fr : Fx [] lxF M M') : Lay pl L M' := hl.fx fr (by decide) (by decide)
theorem s_len (hl : Lay pl L M) : f_J0_length_8abf5 (some 2) M = some (nI 107, M) := by
  have t2 : (mT M 2).1 = 9 := by rw [hl.1]; rfl
  have t4 : mT M 4 = (10, 107) := by rw [hl.1]; rfl
  have r2 : mR M 2 0 = some 4 := hl.2.2.2.2.2.2.1
  have c2 : mI M 2 1 = 0 := hl.2.2.2.2.2.2.2.2.2.2.2.1 1
  unfold f_J0_length_8abf5 f_J0_coder_7d493
  rw [gS_t t2, r2, aN_t t4 (by decide) (by decide) (by decide), cS_t t2, if_neg (by decide), gSc_t t2, c2, bv_t (by decide), cA_s]
  rfl
theorem wb1_at {i : Nat} (hi : i < 107) : wb1.getD i 0 = nI (w1L.getD i 0) ∧ w1L.getD i 0 < 128 := by
  have h1 : ∀ i, i < 107 → wb1.getD i 0 = nI (w1L.getD i 0) ∧ w1L.getD i 0 < 128 := by decide +kernel
  exact h1 i hi
theorem s_and : ∀ c, c < 128 → ((nI c &&& (255 : Int32)).toUInt32 % 65536).toInt32 = nI c := by decide +kernel
theorem s_c16 : ∀ c, c < 256 → ((nI c).toUInt32 % 65536).toInt32 = nI c := by decide +kernel
theorem s_charAt {i : Nat} (hl : Lay pl L M) (hi : i < 107) : f_J0_charAt_5068e (some 2) (nI i) M = some (nI (w1L.getD i 0), M) := by
  have t2 : (mT M 2).1 = 9 := by rw [hl.1]; rfl
  have t4 : mT M 4 = (10, 107) := by rw [hl.1]; rfl
  have t6 : (mT M 6).1 = 11 := by rw [hl.1]; rfl
  have r2 : mR M 2 0 = some 4 := hl.2.2.2.2.2.2.1
  have c2 : mI M 2 1 = 0 := hl.2.2.2.2.2.2.2.2.2.2.2.1 1
  have e4 : mI M 4 i = wb1.getD i 0 := hl.2.2.2.2.2.2.2.2.2.1 i
  obtain ⟨w1, w2⟩ := wb1_at hi
  unfold f_J0_charAt_5068e f_J0_isLatin1_aae02 f_J1_charAt_3b067 f_J0_checkIndex_df160 f_J3_checkIndex_8e157
  rw [cS_t t2, if_neg (by decide), gSc_t t2, c2, if_pos rfl, tv_1, cA_s, if_neg (by decide), gS_t t2, r2, aN_t t4 (by decide) (by decide) (by decide), gF_t t6, if_neg (nI_pos (by omega)), if_pos (nI_lt hi (by decide)), cA_s, cA_s, aI_t t4 hi (by decide), e4, w1, s_and _ w2, cv_t (s_c16 _ (by omega)), cA_s, cv_t (s_c16 _ (by omega))]
/-- the letters at a place -/
theorem x_word_l {p q : Nat} (hl : Lay pl L M) (hT : TpeX tp ln M) (h5 : mI M 43 5 = nI q) (h7 : mI M 43 7 = nI p) (hpq : p ≤ q) (hq : q ≤ ln) : ∀ (k f i nb off : Nat) (sm : Bool), i + k = 107 → k < f → off ≤ i → nb ≤ i → f_X5_word_12 f (some 43) (nI nb) (nI (p + off)) (nI sm.toNat) (nI i) M = some (nI (scW (lets tp p q) (w1L.drop i) nb off sm), M)
  | k, 0, i, nb, off, sm => fun _ z => absurd z (by omega)
  | 0, f + 1, i, nb, off, sm => by
    intro hi _ _ _
    obtain rfl : i = 107 := by omega
    have t2 : (mT M 2).1 = 9 := by rw [hl.1]; rfl
    rw [u_X5_word_12, List.drop_of_length_le (by rw [w1_len]; exact Nat.le_refl _)]
    unfold b_X5_word_12
    rw [cS_t t2, s_len hl, cA_s, if_pos (by decide)]
    rfl
  | k + 1, f + 1, i, nb, off, sm => by
    intro hi hf ho hnb
    have t2 : (mT M 2).1 = 9 := by rw [hl.1]; rfl
    have h300 := hT.1
    have hil : i < w1L.length := by rw [w1_len]; omega
    have hdr : w1L.drop i = w1L.getD i 0 :: w1L.drop (i + 1) := by
      rw [List.drop_eq_getElem_cons hil, List.getD_eq_getElem?_getD, List.getElem?_eq_getElem hil]
      rfl
    have hc := (wb1_at (show i < 107 by omega)).2
    have ih := fun nb off sm h1 h2 => x_word_l hl hT h5 h7 hpq hq k f (i + 1) nb off sm (by omega) (by omega) h1 h2
    have ln1 := lets_len (tp := tp) (p := p) (q := q)
    rw [u_X5_word_12, hdr]
    unfold b_X5_word_12
    rw [cS_t t2, s_len hl, cA_s, if_neg (show ¬ nI 107 ≤ nI i from nI_ge (by omega) (by decide)), cS_t t2, s_charAt hl (by omega), cA_s]
    by_cases e : w1L.getD i 0 = 32
    · have hsc : ∀ sm, scW (lets tp p q) (w1L.getD i 0 :: w1L.drop (i + 1)) nb off sm = if sm = true ∧ off = (lets tp p q).length then nb else scW (lets tp p q) (w1L.drop (i + 1)) (nb + 1) 0 true := fun sm => by
        show (if _ then _ else _) = _
        rw [if_pos e]
      have nxt : f_X5_word_12 f (some 43) (nI (nb + 1)) (nI p) (1 : Int32) (nI (i + 1)) M = some (nI (scW (lets tp p q) (w1L.drop (i + 1)) (nb + 1) 0 true), M) := ih (nb + 1) 0 true (by omega) (by omega)
      rw [hsc, if_pos (show nI (w1L.getD i 0) = (32 : Int32) by rw [e]; rfl)]
      cases sm with
      | false => rw [if_pos (by decide), gI_t (ly_t43 hl), h7, nI_1, nI_1, nxt, if_neg (fun z => by cases z.1)]
      | true =>
        rw [if_neg (by decide), gI_t (ly_t43 hl), h5]
        by_cases y : p + off = q
        · rw [if_pos (by rw [y]), if_pos ⟨rfl, by omega⟩]
        · rw [if_neg (nIne (by omega) (by omega) y), gI_t (ly_t43 hl), h7, nI_1, nI_1, nxt, if_neg (fun z => y (by omega))]
    · have hsc : ∀ sm, scW (lets tp p q) (w1L.getD i 0 :: w1L.drop (i + 1)) nb off sm = scW (lets tp p q) (w1L.drop (i + 1)) nb (off + 1) (sm && decide (off < (lets tp p q).length) && ((lets tp p q).getD off 0 == w1L.getD i 0)) := fun sm => by
        show (if _ then _ else _) = _
        rw [if_neg e]
      have nxt : ∀ sm : Bool, f_X5_word_12 f (some 43) (nI nb) (nI (p + off + 1)) (nI sm.toNat) (nI (i + 1)) M = some (nI (scW (lets tp p q) (w1L.drop (i + 1)) nb (off + 1) sm), M) := fun sm => ih nb (off + 1) sm (by omega) (by omega)
      rw [hsc, if_neg (show ¬ nI (w1L.getD i 0) = (32 : Int32) from nIne (b := 32) (by omega) (by decide) e)]
      cases sm with
      | false => rw [if_pos (by decide), nI_1, nI_1, Bool.false_and, Bool.false_and]; exact nxt false
      | true =>
        rw [if_neg (by decide), gI_t (ly_t43 hl), h5, Bool.true_and, ln1]
        by_cases y : off < q - p
        · have htp := hT.2.2 (p + off) (by omega)
          rw [if_neg (nI_ge (by omega) (by omega)), gR_t (ly_t43 hl), ly_r43_0 hl, aI_t (ly_t44 hl) (by omega) (by decide), htp.2, decide_eq_true y, Bool.true_and, lets_at y]
          by_cases z : tp (p + off) = w1L.getD i 0
          · rw [if_pos (by rw [z]), nI_1, nI_1, beq_iff_eq.mpr z]; exact nxt true
          · rw [if_neg (nIne (by omega) (by omega) z), nI_1, nI_1, beq_eq_false_iff_ne.mpr z]; exact nxt false
        · rw [if_pos (nI_le (by omega) (by omega)), nI_1, nI_1, decide_eq_false y, Bool.false_and]; exact nxt false
theorem x_word {p q : Nat} (hl : Lay pl L M) (hT : TpeX tp ln M) (h5 : mI M 43 5 = nI q) (h7 : mI M 43 7 = nI p) (hpq : p ≤ q) (hq : q ≤ ln) : f_X5_word (some 43) M = some (nI (wdT (lets tp p q)), M) := by
  unfold f_X5_word
  rw [gI_t (ly_t43 hl), h7]
  have := x_word_l hl hT h5 h7 hpq hq 107 FU 0 0 0 true (by omega) (by decide) (by omega) (by omega)
  rw [List.drop_zero, scW_t] at this
  exact this
theorem x_isLetter {c : Nat} (hc : c < 256) : f_X5_isLetter (nI c) M = some (nI (isL c).toNat, M) := by
  unfold f_X5_isLetter isL
  by_cases h1 : 97 ≤ c
  · rw [if_neg (show ¬ nI c < (97 : Int32) from nI_nlt (b := 97) h1 (by omega)), decide_eq_true h1, Bool.true_and]
    by_cases h2 : c ≤ 122
    · rw [if_pos (show nI c ≤ (122 : Int32) from nI_le (b := 122) h2 (by decide)), tv_1, decide_eq_true h2, Bool.true_or]; rfl
    · rw [if_neg (show ¬ nI c ≤ (122 : Int32) from nI_ge (a := 122) (by omega) (by omega)), if_neg (show ¬ nI c < (65 : Int32) from nI_nlt (b := 65) (by omega) (by omega)), if_pos (show (90 : Int32) < nI c from nI_lt (a := 90) (by omega) (by omega)), tv_0, decide_eq_false h2, decide_eq_false (show ¬ c ≤ 90 by omega)]; simp; rfl
  · rw [if_pos (show nI c < (97 : Int32) from nI_lt (b := 97) (by omega) (by decide)), decide_eq_false h1, Bool.false_and, Bool.false_or]
    by_cases h3 : 65 ≤ c
    · rw [if_neg (show ¬ nI c < (65 : Int32) from nI_nlt (b := 65) h3 (by omega)), decide_eq_true h3, Bool.true_and]
      by_cases h4 : c ≤ 90
      · rw [if_neg (show ¬ (90 : Int32) < nI c from nI_nlt (a := 90) h4 (by decide)), tv_1, decide_eq_true h4]; rfl
      · rw [if_pos (show (90 : Int32) < nI c from nI_lt (a := 90) (by omega) (by omega)), tv_0, decide_eq_false h4]; rfl
    · rw [if_pos (show nI c < (65 : Int32) from nI_lt (b := 65) (by omega) (by decide)), tv_0, decide_eq_false h3]; rfl
theorem x_isDigit {c : Nat} (hc : c < 256) : f_X5_isDigit (nI c) M = some (nI (isG c).toNat, M) := by
  unfold f_X5_isDigit isG
  by_cases h1 : 48 ≤ c
  · rw [if_neg (show ¬ nI c < (48 : Int32) from nI_nlt (b := 48) h1 (by omega)), decide_eq_true h1, Bool.true_and]
    by_cases h2 : c ≤ 57
    · rw [if_neg (show ¬ (57 : Int32) < nI c from nI_nlt (a := 57) h2 (by decide)), tv_1, decide_eq_true h2]; rfl
    · rw [if_pos (show (57 : Int32) < nI c from nI_lt (a := 57) (by omega) (by omega)), tv_0, decide_eq_false h2]; rfl
  · rw [if_pos (show nI c < (48 : Int32) from nI_lt (b := 48) (by omega) (by decide)), tv_0, decide_eq_false h1]; rfl
end XLEX
