/-! ===== what can be done, in the reference ===== -/
theorem pick_some {w h m p : Nat} {π : Pos} : ∀ (R : Txt) (i k g : Nat), pickD w h π m p R i = some (k, g) → ∃ j c, k = i + j ∧ R[j]? = some c ∧ cTy c = 0 ∧ cMv c = m ∧ toS w h π m p c = some g
  | [], _, _, _, e => by cases e
  | c :: R, i, k, g, e => by
    by_cases hc : cTy c = 0 ∧ cMv c = m
    · cases ht : toS w h π m p c with
      | none =>
        rw [pickD_z ht] at e
        obtain ⟨j, d, h1, h2⟩ := pick_some R (i + 1) k g e
        exact ⟨j + 1, d, by omega, h2⟩
      | some g' =>
        rw [pickD_y hc ht] at e
        cases e
        exact ⟨0, c, rfl, rfl, hc.1, hc.2, ht⟩
    · rw [pickD_n hc] at e
      obtain ⟨j, d, h1, h2⟩ := pick_some R (i + 1) k g e
      exact ⟨j + 1, d, by omega, h2⟩
theorem worS_vl {T : Txt} {y : Nat} {nm : Nat → Int} (ok : okT T) (hn : nmOk nm) (hy : 12 ≤ y ∧ y ≤ 15) : vl (worS T y nm) := by
  unfold worS
  split
  · exact vl0
  · rename_i c hc
    have h1 := List.find?_some hc
    have h2 := List.mem_of_find?_eq_some hc
    obtain ⟨i, hi⟩ := List.mem_iff_getElem?.mp h2
    have h3 : cTy c = y := by simpa using h1
    rcases ok.2.1 i c hi with q | q | q
    · have := q.1; omega
    · exact (evV_ok hn q.2.2).1
    · have := q.1; omega
theorem bst_ok {w h m : Nat} {T : Txt} {π : Pos} (hd : okD w h) (okt : okT T) (ok : okP π) (hm : m < 8) : ∀ n, n ≤ w * h → ∀ b, bstS w h T π m n = some b → vl b.1 ∧ b.2.1 < w * h ∧ b.2.2.1 < w * h ∧ ∃ c, T[b.2.2.2]? = some c ∧ cTy c = 0 ∧ cMv c = m ∧ toS w h π m b.2.1 c = some b.2.2.1
  | 0, _, b, e => by cases e
  | n + 1, hn, b, e => by
    have ih := bst_ok hd okt ok hm n (by omega)
    have hle := hd.le
    cases hp : pickD w h π m n T 0 with
    | none => rw [bstS_n hp] at e; exact ih b e
    | some q =>
      obtain ⟨k, g⟩ := q
      rw [bstS_y hp] at e
      obtain ⟨j, c, h1, h2, h3, h4, h5⟩ := pick_some _ _ _ _ hp
      rw [Nat.zero_add] at h1
      subst h1
      have hg := toS_lt hd (by omega) h5
      have new : vl (worS T 12 (nmS π m n g)) ∧ n < w * h ∧ g < w * h ∧ ∃ c, T[k]? = some c ∧ cTy c = 0 ∧ cMv c = m ∧ toS w h π m n c = some g := ⟨worS_vl okt (nmS_ok ok hm (by omega) (by omega)) (by decide), by omega, hg, c, h2, h3, h4, h5⟩
      cases hb : bstS w h T π m n with
      | none => rw [hb] at e; cases e; exact new
      | some b' =>
        rw [hb] at e
        unfold updS at e
        dsimp only at e
        split at e
        · cases e; exact new
        · cases e; exact ih _ hb
theorem bst_nil {w h m : Nat} {π : Pos} : ∀ n, bstS w h [] π m n = none
  | 0 => rfl
  | n + 1 => by rw [bstS_n rfl]; exact bst_nil n
def bF (b : Bst) : Int32 := oI (b.map (fun q => q.2.1))
def bG (b : Bst) : Int32 := oI (b.map (fun q => q.2.2.1))
def bK (b : Bst) : Int32 := oI (b.map (fun q => q.2.2.2))
section MOD3
variable {w h L nt : Nat} {τ : Nat → Txt} {π : Pos}
theorem y_sumOf_l {t y m : Nat} {f g : Int} (ok : okN w h π) (ht : t < nt) (hy : 12 ≤ y ∧ y ≤ 15) (hm : m < 8) (hf : -1 ≤ f ∧ f ≤ 12) (hg : -1 ≤ g ∧ g ≤ 12) : ∀ (j n k : Nat) (M : Mem), k + j = (τ t).length → j < n → Bs w h L nt τ M → MPos π M → mI M 230 46 = i32 f → mI M 230 47 = i32 g → ∃ M', f_X12_sumOf_6 n (some 230) (nI t) (nI (mwd y)) (nI m) (i64 (worS ((τ t).take k) y (nmS π m f g))) (nI k) M = some (i64 (worS (τ t) y (nmS π m f g)), M') ∧ Fx [252, 253] [] M M'
  | j, 0, k, M => fun _ q => absurd q (by omega)
  | 0, n + 1, k, M => by
    intro hk _ hb hM h46 h47
    obtain ⟨o1, o2, o3⟩ := hb.2.2.2.2.2 t ht
    have h6 := hb.2.2.2.2.1
    have hl := hb.lay
    have hlen := o1.1
    have hz := o3.1
    refine ⟨M, ?_, Fx.rf⟩
    rw [u_X12_sumOf_6]
    unfold b_X12_sumOf_6
    rw [if_neg (show ¬ nI t = -1 from fun q => (nI_nm1 (by omega)).mp q), gR_t (ly_t230 hl), ly_r230_9 hl, aI_t (ly_t234 hl) (by omega) (by decide), hz, if_pos (nI_le (by omega) (by omega)), List.take_of_length_le (by omega)]
  | j + 1, n + 1, k, M => by
    intro hk hn hb hM h46 h47
    obtain ⟨o1, o2, o3⟩ := hb.2.2.2.2.2 t ht
    have h6 := hb.2.2.2.2.1
    have hl := hb.lay
    have hlen := o1.1
    have hz := o3.1
    obtain ⟨c, hc⟩ : ∃ c, (τ t)[k]? = some c := ⟨_, List.getElem?_eq_getElem (by omega)⟩
    obtain ⟨q1, q2, q3, q4, q5⟩ := o3.2 k c hc
    have hty : cTy c = 0 ∨ (12 ≤ cTy c ∧ cTy c ≤ 16) := by
      rcases o1.2.1 k c hc with q | q | q
      · exact Or.inl q.1
      · exact Or.inr ⟨q.1, by have := q.2.1; omega⟩
      · exact Or.inr ⟨by have := q.1; omega, by have := q.1; omega⟩
    have hwt := wor_take (nm := nmS π m f g) o1 hc hy
    rw [u_X12_sumOf_6]
    unfold b_X12_sumOf_6
    rw [if_neg (show ¬ nI t = -1 from fun q => (nI_nm1 (by omega)).mp q), gR_t (ly_t230 hl), ly_r230_9 hl, aI_t (ly_t234 hl) (by omega) (by decide), hz, if_neg (nI_ge (by omega) (by omega)), gR_t (ly_t230 hl), ly_r230_10 hl, show (20 : Int32) = nI 20 from rfl, pk_mul, nI_add, aI_t (ly_t235 hl) (by omega) (by decide), q1]
    by_cases e : cTy c = y
    · rw [if_pos (by rw [e]), gI_t (ly_t230 hl), gI_t (ly_t230 hl), h46, h47, cR_t (ly_t230 hl)]
      obtain ⟨M1, u1, u2, u3⟩ := y_names (f := f) (t := g) hb hM ok hm
      have hb1 := hb.fx u2 (by decide) (by decide)
      have hno := nmS_ok (f := f) (t := g) ok.1 hm hf hg
      have hne : cCd c ≠ [] := by
        rcases o1.2.1 k c hc with q | q | q
        · have := q.1; omega
        · exact wtC_ne q.2.2
        · exact wtC_ne q.2
      obtain ⟨M2, v1, v2⟩ := y_val hb1 ht hc hne hno u3
      have fr : Fx [252, 253] [] M M2 := (u2.mono (by decide) (by decide)).tr (v2.mono (by decide) (by decide))
      rw [u1, cA_s, gR_t (ly_t230 hb1.lay), ly_r230_11 hb1.lay, aI_t (ly_t236 hb1.lay) (by omega) (by decide), cR_t (ly_t230 hb1.lay), v1, cA_s, nI_1]
      rw [if_pos e] at hwt
      rw [← hwt]
      obtain ⟨M3, z1, z2⟩ := y_sumOf_l ok ht hy hm hf hg j n (k + 1) M2 (by omega) (by omega) (hb.fx fr (by decide) (by decide)) (hM.fx fr (by decide) (by decide)) (by rw [fr.i (by decide) (by decide)]; exact h46) (by rw [fr.i (by decide) (by decide)]; exact h47)
      exact ⟨M3, z1, fr.tr z2⟩
    · rw [if_neg (fun q => e (by have := (nI_eq (by unfold mwd; omega) (by unfold mwd; omega)).mp q; unfold mwd at this; omega)), nI_1]
      rw [if_neg e] at hwt
      rw [← hwt]
      exact y_sumOf_l ok ht hy hm hf hg j n (k + 1) M (by omega) (by omega) hb hM h46 h47
theorem y_sumOf {M : Mem} {x : Option Nat} {y m : Nat} {f g : Int} (hb : Bs w h L nt τ M) (hM : MPos π M) (ok : okN w h π) (hx : okX nt x) (hy : 12 ≤ y ∧ y ≤ 15) (hm : m < 8) (hf : -1 ≤ f ∧ f ≤ 12) (hg : -1 ≤ g ∧ g ≤ 12) (h46 : mI M 230 46 = i32 f) (h47 : mI M 230 47 = i32 g) : ∃ M', f_X12_sumOf (some 230) (oI x) (nI (mwd y)) (nI m) M = some (i64 (worS (tT τ x) y (nmS π m f g)), M') ∧ Fx [252, 253] [] M M' := by
  unfold f_X12_sumOf
  cases x with
  | none =>
    refine ⟨M, ?_, Fx.rf⟩
    rw [show FU = 999999999 + 1 from rfl, u_X12_sumOf_6]
    unfold b_X12_sumOf_6
    rw [oI_n, if_pos (show m1 = -1 from rfl)]
    rfl
  | some t =>
    have ht := hx t rfl
    have hlen := (hb.2.2.2.2.2 t ht).1.1
    have := y_sumOf_l ok ht hy hm hf hg (τ t).length FU 0 M (by omega) (by unfold FU; omega) hb hM h46 h47
    rw [List.take_zero] at this
    exact this
def pK (o : Option (Nat × Nat)) : Int32 := oI (o.map (fun q => q.1))
theorem y_clauseFor_l {t m p : Nat} (ok : okN w h π) (ht : t < nt) (hm : m < 8) (hp : p < w * h) : ∀ (R : Txt) (i n : Nat) (M : Mem), (τ t).drop i = R → i + R.length = (τ t).length → R.length < n → Bs w h L nt τ M → MPos π M → mI M 231 2 = nI t → ∃ M', f_X12_clauseFor_2 n (some 230) (nI m) (nI p) (nI i) M = some (pK (pickD w h π m p R i), M') ∧ Fx [252, 253] [(230, 47)] M M' ∧ ∀ k g, pickD w h π m p R i = some (k, g) → mI M' 230 47 = nI g
  | R, i, 0, M => fun _ _ q => absurd q (by omega)
  | [], i, n + 1, M => by
    intro hR hi _ hb hM hB
    have hl := hb.lay
    have h6 := hb.2.2.2.2.1
    obtain ⟨o1, o2, o3⟩ := hb.2.2.2.2.2 t ht
    have hlen := o1.1
    have hz := o3.1
    simp only [List.length_nil] at hi
    refine ⟨M, ?_, Fx.rf, fun k g e => by cases e⟩
    rw [u_X12_clauseFor_2]
    unfold b_X12_clauseFor_2
    rw [gR_t (ly_t230 hl), ly_r230_9 hl, gR_t (ly_t230 hl), ly_r230_3 hl, show (2 : Int32) = nI 2 from rfl, aI_t (ly_t231 hl) (by omega) (by decide), hB, aI_t (ly_t234 hl) (by omega) (by decide), hz, if_pos (nI_le (by omega) (by omega))]
    rfl
  | c :: R, i, n + 1, M => by
    intro hR hi hn hb hM hB
    have hl := hb.lay
    have h6 := hb.2.2.2.2.1
    obtain ⟨o1, o2, o3⟩ := hb.2.2.2.2.2 t ht
    have hlen := o1.1
    have hz := o3.1
    have hR' : (τ t).drop (i + 1) = R := by rw [← List.drop_drop, hR]; rfl
    have hc : (τ t)[i]? = some c := by
      have := List.getElem?_drop (xs := τ t) (i := i) (j := 0)
      rw [hR] at this
      simpa using this.symm
    simp only [List.length_cons] at hi hn
    obtain ⟨q1, q2, q3, q4, q5⟩ := o3.2 i c hc
    rw [u_X12_clauseFor_2]
    unfold b_X12_clauseFor_2
    rw [gR_t (ly_t230 hl), ly_r230_9 hl, gR_t (ly_t230 hl), ly_r230_3 hl, show (2 : Int32) = nI 2 from rfl, aI_t (ly_t231 hl) (by omega) (by decide), hB, aI_t (ly_t234 hl) (by omega) (by decide), hz, if_neg (nI_ge (by omega) (by omega)), gR_t (ly_t230 hl), ly_r230_3 hl, aI_t (ly_t231 hl) (by omega) (by decide), hB, gR_t (ly_t230 hl), ly_r230_12 hl, show (20 : Int32) = nI 20 from rfl, pk_mul, nI_add, aI_t (ly_t237 hl) (by omega) (by decide), q2]
    by_cases hcm : cTy c = 0 ∧ cMv c = m
    · rw [if_pos (by rw [if_pos hcm.1, hcm.2]), cR_t (ly_t230 hl)]
      obtain ⟨M1, u1, u2⟩ := y_toBy hb hM ok ht hc hcm.1 hm hp
      have hb1 := hb.fx u2 (by decide) (by decide)
      have hw := hb.1.le
      have fr : Fx [252, 253] [(230, 47)] M (sI M1 230 47 (oI (toS w h π m p c))) := (u2.mono (by decide) (by decide)).I (Or.inr (by decide))
      have hb2 := hb.fx fr (by decide) (by decide)
      rw [u1, cA_s, pI_t (ly_t230 hb1.lay), gI_t (ly_t230 hb2.lay), mI_e]
      cases hts : toS w h π m p c with
      | none =>
        rw [oI_n, if_pos (show m1 = -1 from rfl), nI_1, pickD_z hts]
        rw [hts, oI_n] at fr hb2
        obtain ⟨M3, z1, z2, z3⟩ := y_clauseFor_l ok ht hm hp R (i + 1) n _ hR' (by omega) (by omega) hb2 (hM.fx fr (by decide) (by decide)) (by rw [fr.ib (by decide)]; exact hB)
        exact ⟨M3, z1, fr.tr z2, z3⟩
      | some g =>
        have hg := toS_lt hb.1 hp hts
        rw [oI_s, if_neg (show ¬ nI g = -1 from fun q => (nI_nm1 (by omega)).mp q), pickD_y hcm hts]
        rw [hts, oI_s] at fr
        refine ⟨_, rfl, fr, ?_⟩
        intro k g' e
        cases e
        rw [mI_e]
    · have hne : ¬ ((if cTy c = 0 then nI (cMv c) else m1) = nI m) := by
        by_cases h0 : cTy c = 0
        · have hmv : cMv c < 8 := by
            rcases o1.2.1 i c hc with q | q | q
            · exact q.2.1
            · have := q.1; omega
            · have := q.1; omega
          rw [if_pos h0]
          exact nIne (by omega) (by omega) (fun e => hcm ⟨h0, e⟩)
        · rw [if_neg h0]
          exact fun q => (m1_nI (by omega)).mp q
      rw [if_neg hne, nI_1, pickD_n hcm]
      exact y_clauseFor_l ok ht hm hp R (i + 1) n M hR' (by omega) (by omega) hb hM hB
def encB (b : Bst) (l : Int64) : Prop := ∀ q, b = some q → l = i64 q.1
abbrev cA' : List Nat := [252, 253]
abbrev cF' : List (Nat × Nat) := [(230, 46), (230, 47), (230, 48)]
theorem y_cd102 {M : Mem} {b : Bst} (hb : Bs w h L nt τ M) (hf : ∀ q, b = some q → q.2.1 < 12) : ∃ M', f_X12_canDo_102 (some 230) (bF b) (bG b) (bK b) M = some (if b.isSome = true then nI 1 else nI 0, M') ∧ Fx cA' cF' M M' ∧ mI M' 230 46 = bF b ∧ mI M' 230 47 = bG b ∧ mI M' 230 48 = bK b := by
  have hl := hb.lay
  unfold f_X12_canDo_102
  refine ⟨sI (sI (sI M 230 46 (bF b)) 230 47 (bG b)) 230 48 (bK b), ?_, ((Fx.wI (Or.inr (by decide))).I (Or.inr (by decide))).I (Or.inr (by decide)), ?_, ?_, ?_⟩
  · cases b with
    | none =>
      simp (disch := first | omega | (simp (disch := omega) only [↓litm, lit, tN_n, nI_add, pk_mul, pk_sub, pk_div, nI_remN, nI_remN', nI_eq, nI_leI, nI_ltI, nI_nm1, m1_nI, m1_m1, m1_le, m1_lt, le_m1, lt_m1, oI_n, oI_s, bS_inN, bS_addN, bS_delN, not_true_eq_false, not_false_eq_true, and_true, true_and, if_true, if_false, mT_sI, mT_sL, mT_sR, mR_sI, mR_sL, mI_sL, mI_sR, mL_sI, mL_sR, mI_e, mI_na, mI_nk, mL_e, mL_na, mL_nk, inB_n, show bF none = m1 from rfl, show bG none = m1 from rfl, show bK none = m1 from rfl, Option.isSome_none]; done) | (simp (disch := omega) only [↓litm, lit, tN_n, nI_add, pk_mul, pk_sub, pk_div, nI_remN, nI_remN', nI_eq, nI_leI, nI_ltI, nI_nm1, m1_nI, m1_m1, m1_le, m1_lt, le_m1, lt_m1, oI_n, oI_s, bS_inN, bS_addN, bS_delN, not_true_eq_false, not_false_eq_true, and_true, true_and, if_true, if_false, mT_sI, mT_sL, mT_sR, mR_sI, mR_sL, mI_sL, mI_sR, mL_sI, mL_sR, mI_e, mI_na, mI_nk, mL_e, mL_na, mL_nk, inB_n, show bF none = m1 from rfl, show bG none = m1 from rfl, show bK none = m1 from rfl, Option.isSome_none]; omega)) only [↓T_230 hl, ly_r230_3 hl, ↓e_gI, ↓e_gL, ↓e_gR, ↓e_pI, ↓e_pL, ↓e_pR, ↓e_cR, ↓e_aI, ↓e_aL, ↓e_aR, ↓e_wI, ↓e_wL, ↓e_aN, ↓t_sI, ↓t_sL, ↓t_sR, ↓q_sI, ↓q_sL, ↓q_sR, ↓n_sI, ↓n_sL, ↓n_sR, ↓cA_s, tv_0, tv_1, tv_n0, tv_n1, ↓nz_y, ↓reduceIte, mT_sI, mT_sL, mT_sR, mR_sI, mR_sL, mI_sL, mI_sR, mL_sI, mL_sR, mI_e, mI_na, mI_nk, mL_e, mL_na, mL_nk, ↓litm, lit, tN_n, nI_add, pk_mul, pk_sub, pk_div, nI_remN, nI_remN', nI_eq, nI_leI, nI_ltI, nI_nm1, m1_nI, m1_m1, m1_le, m1_lt, le_m1, lt_m1, oI_n, oI_s, bS_inN, bS_addN, bS_delN, not_true_eq_false, not_false_eq_true, and_true, true_and, if_true, if_false, show bF none = m1 from rfl, show bG none = m1 from rfl, show bK none = m1 from rfl, Option.isSome_none]
      rfl
    | some q =>
      have := hf q rfl
      simp (disch := first | omega | (simp (disch := omega) only [↓litm, lit, tN_n, nI_add, pk_mul, pk_sub, pk_div, nI_remN, nI_remN', nI_eq, nI_leI, nI_ltI, nI_nm1, m1_nI, m1_m1, m1_le, m1_lt, le_m1, lt_m1, oI_n, oI_s, bS_inN, bS_addN, bS_delN, not_true_eq_false, not_false_eq_true, and_true, true_and, if_true, if_false, mT_sI, mT_sL, mT_sR, mR_sI, mR_sL, mI_sL, mI_sR, mL_sI, mL_sR, mI_e, mI_na, mI_nk, mL_e, mL_na, mL_nk, inB_n, show bF (some q) = nI q.2.1 from rfl, show bG (some q) = nI q.2.2.1 from rfl, show bK (some q) = nI q.2.2.2 from rfl, Option.isSome_some]; done) | (simp (disch := omega) only [↓litm, lit, tN_n, nI_add, pk_mul, pk_sub, pk_div, nI_remN, nI_remN', nI_eq, nI_leI, nI_ltI, nI_nm1, m1_nI, m1_m1, m1_le, m1_lt, le_m1, lt_m1, oI_n, oI_s, bS_inN, bS_addN, bS_delN, not_true_eq_false, not_false_eq_true, and_true, true_and, if_true, if_false, mT_sI, mT_sL, mT_sR, mR_sI, mR_sL, mI_sL, mI_sR, mL_sI, mL_sR, mI_e, mI_na, mI_nk, mL_e, mL_na, mL_nk, inB_n, show bF (some q) = nI q.2.1 from rfl, show bG (some q) = nI q.2.2.1 from rfl, show bK (some q) = nI q.2.2.2 from rfl, Option.isSome_some]; omega)) only [↓T_230 hl, ly_r230_3 hl, ↓e_gI, ↓e_gL, ↓e_gR, ↓e_pI, ↓e_pL, ↓e_pR, ↓e_cR, ↓e_aI, ↓e_aL, ↓e_aR, ↓e_wI, ↓e_wL, ↓e_aN, ↓t_sI, ↓t_sL, ↓t_sR, ↓q_sI, ↓q_sL, ↓q_sR, ↓n_sI, ↓n_sL, ↓n_sR, ↓cA_s, tv_0, tv_1, tv_n0, tv_n1, ↓nz_y, ↓reduceIte, mT_sI, mT_sL, mT_sR, mR_sI, mR_sL, mI_sL, mI_sR, mL_sI, mL_sR, mI_e, mI_na, mI_nk, mL_e, mL_na, mL_nk, ↓litm, lit, tN_n, nI_add, pk_mul, pk_sub, pk_div, nI_remN, nI_remN', nI_eq, nI_leI, nI_ltI, nI_nm1, m1_nI, m1_m1, m1_le, m1_lt, le_m1, lt_m1, oI_n, oI_s, bS_inN, bS_addN, bS_delN, not_true_eq_false, not_false_eq_true, and_true, true_and, if_true, if_false, show bF (some q) = nI q.2.1 from rfl, show bG (some q) = nI q.2.2.1 from rfl, show bK (some q) = nI q.2.2.2 from rfl, Option.isSome_some]
  all_goals simp (disch := first | omega | (simp (disch := omega) only [↓litm, lit, tN_n, nI_add, pk_mul, pk_sub, pk_div, nI_remN, nI_remN', nI_eq, nI_leI, nI_ltI, nI_nm1, m1_nI, m1_m1, m1_le, m1_lt, le_m1, lt_m1, oI_n, oI_s, bS_inN, bS_addN, bS_delN, not_true_eq_false, not_false_eq_true, and_true, true_and, if_true, if_false, mT_sI, mT_sL, mT_sR, mR_sI, mR_sL, mI_sL, mI_sR, mL_sI, mL_sR, mI_e, mI_na, mI_nk, mL_e, mL_na, mL_nk, inB_n]; done) | (simp (disch := omega) only [↓litm, lit, tN_n, nI_add, pk_mul, pk_sub, pk_div, nI_remN, nI_remN', nI_eq, nI_leI, nI_ltI, nI_nm1, m1_nI, m1_m1, m1_le, m1_lt, le_m1, lt_m1, oI_n, oI_s, bS_inN, bS_addN, bS_delN, not_true_eq_false, not_false_eq_true, and_true, true_and, if_true, if_false, mT_sI, mT_sL, mT_sR, mR_sI, mR_sL, mI_sL, mI_sR, mL_sI, mL_sR, mI_e, mI_na, mI_nk, mL_e, mL_na, mL_nk, inB_n]; omega)) only [↓e_gI, ↓e_gL, ↓e_gR, ↓e_pI, ↓e_pL, ↓e_pR, ↓e_cR, ↓e_aI, ↓e_aL, ↓e_aR, ↓e_wI, ↓e_wL, ↓e_aN, ↓t_sI, ↓t_sL, ↓t_sR, ↓q_sI, ↓q_sL, ↓q_sR, ↓n_sI, ↓n_sL, ↓n_sR, ↓cA_s, tv_0, tv_1, tv_n0, tv_n1, ↓nz_y, ↓reduceIte, mT_sI, mT_sL, mT_sR, mR_sI, mR_sL, mI_sL, mI_sR, mL_sI, mL_sR, mI_e, mI_na, mI_nk, mL_e, mL_na, mL_nk, ↓litm, lit, tN_n, nI_add, pk_mul, pk_sub, pk_div, nI_remN, nI_remN', nI_eq, nI_leI, nI_ltI, nI_nm1, m1_nI, m1_m1, m1_le, m1_lt, le_m1, lt_m1, oI_n, oI_s, bS_inN, bS_addN, bS_delN, not_true_eq_false, not_false_eq_true, and_true, true_and, if_true, if_false]
theorem y_canDo_l {x : Option Nat} {m : Nat} (ok : okN w h π) (hx : okX nt x) (hm : m < 8) : ∀ (j n p : Nat) (l : Int64) (M : Mem), p + j = w * h → j < n → encB (bstS w h (tT τ x) π m p) l → Bs w h L nt τ M → MPos π M → mI M 231 2 = oI x → ∃ M', f_X12_canDo_13 n (some 230) (nI m) (bF (bstS w h (tT τ x) π m p)) (bG (bstS w h (tT τ x) π m p)) (bK (bstS w h (tT τ x) π m p)) l (nI p) M = some (if (canS w h (tT τ x) π m).isSome = true then nI 1 else nI 0, M') ∧ Fx cA' cF' M M' ∧ mI M' 230 46 = bF (canS w h (tT τ x) π m) ∧ mI M' 230 47 = bG (canS w h (tT τ x) π m) ∧ mI M' 230 48 = bK (canS w h (tT τ x) π m)
  | j, 0, p, l, M => fun _ q => absurd q (by omega)
  | 0, n + 1, p, l, M => by
    intro hp _ hl5 hb hM hB
    have hl := hb.lay
    have hw := hb.1.le
    obtain rfl : p = w * h := by omega
    rw [u_X12_canDo_13]
    unfold b_X12_canDo_13
    rw [gI_t (ly_t230 hl), hb.dim.2.2.2.2.2.2.1, if_pos (Int32.le_refl _)]
    exact y_cd102 hb (fun q e => by have := (bst_ok hb.1 (hb.okT hx) ok.1 hm _ (Nat.le_refl _) q e).2.1; omega)
  | j + 1, n + 1, p, l, M => by
    intro hp hn hl5 hb hM hB
    have hl := hb.lay
    have hw := hb.1.le
    rw [u_X12_canDo_13]
    unfold b_X12_canDo_13
    rw [gI_t (ly_t230 hl), hb.dim.2.2.2.2.2.2.1, if_neg (nI_ge (by omega) (by omega)), gR_t (ly_t230 hl), ly_r230_3 hl, show (2 : Int32) = nI 2 from rfl, aI_t (ly_t231 hl) (by omega) (by decide), hB]
    cases x with
    | none =>
      rw [oI_n, if_pos (show m1 = -1 from rfl)]
      have e1 : canS w h (tT τ none) π m = none := bst_nil _
      have e2 : bstS w h (tT τ none) π m p = none := bst_nil _
      rw [e1, e2]
      exact y_cd102 hb (fun q e => by cases e)
    | some t =>
      have ht := hx t rfl
      have h6 := hb.2.2.2.2.1
      rw [oI_s] at hB
      obtain ⟨M1, u1, u2, u3⟩ := y_clauseFor_l ok ht hm (show p < w * h by omega) (τ t) 0 FU M List.drop_zero (by omega) (by have := (hb.2.2.2.2.2 t ht).1.1; unfold FU; omega) hb hM hB
      have u1' : f_X12_clauseFor (some 230) (nI m) (nI p) M = some (pK (pickD w h π m p (τ t) 0), M1) := u1
      have fr1 : Fx cA' cF' M M1 := u2.mono (by decide) (by decide)
      rw [oI_s, if_neg (show ¬ nI t = -1 from fun q => (nI_nm1 (by omega)).mp q), cR_t (ly_t230 hl), u1', cA_s]
      have okt : okT (tT τ (some t)) := hb.okT hx
      cases hpk : pickD w h π m p (τ t) 0 with
      | none =>
        have hst : bstS w h (tT τ (some t)) π m (p + 1) = bstS w h (tT τ (some t)) π m p := bstS_n hpk
        rw [show pK none = m1 from rfl, if_pos (show m1 = -1 from rfl), nI_1, ← hst]
        rw [← hst] at hl5
        obtain ⟨M2, z1, z2⟩ := y_canDo_l ok hx hm j n (p + 1) l M1 (by omega) (by omega) hl5 (hb.fx fr1 (by decide) (by decide)) (hM.fx fr1 (by decide) (by decide)) (by rw [fr1.ib (by decide)]; exact hB)
        exact ⟨M2, z1, fr1.tr z2.1, z2.2⟩
      | some kg =>
        obtain ⟨k, g⟩ := kg
        have hst : bstS w h (tT τ (some t)) π m (p + 1) = updS (bstS w h (tT τ (some t)) π m p) (worS (tT τ (some t)) 12 (nmS π m p g)) p g k := bstS_y hpk
        obtain ⟨i, c, h1, h2, h3, h4, h5⟩ := pick_some _ _ _ _ hpk
        have hk : k < 20 := by
          have q1 := (List.getElem?_eq_some_iff.mp h2).1
          have q2 := (hb.2.2.2.2.2 t ht).1.1
          omega
        have hg := toS_lt hb.1 (show p < w * h by omega) h5
        have h47 := u3 k g hpk
        have hb1 := hb.fx fr1 (by decide) (by decide)
        have fr2 : Fx cA' cF' M (sI M1 230 46 (nI p)) := fr1.I (Or.inr (by decide))
        have hb2 := hb.fx fr2 (by decide) (by decide)
        have hB2 : mI (sI M1 230 46 (nI p)) 231 2 = nI t := by rw [fr2.ib (by decide)]; exact hB
        obtain ⟨M3, v1, v2⟩ := y_sumOf (y := 12) (f := (p : Int)) (g := (g : Int)) hb2 (hM.fx fr2 (by decide) (by decide)) ok hx (by decide) hm (by omega) (by omega) (by rw [mI_e, i32_n]) (by rw [mI_nk (by decide), h47, i32_n])
        have fr3 : Fx cA' cF' M M3 := fr2.tr (v2.mono (by decide) (by decide))
        have hb3 := hb.fx fr3 (by decide) (by decide)
        have h47' : mI M3 230 47 = nI g := by rw [v2.i (by decide) (by decide), mI_nk (by decide), h47]
        have hvl : vl (worS (tT τ (some t)) 12 (nmS π m p g)) := worS_vl okt (nmS_ok ok.1 hm (by omega) (by omega)) (by decide)
        rw [show pK (some (k, g)) = nI k from rfl, if_neg (show ¬ nI k = -1 from fun q => (nI_nm1 (by omega)).mp q), pI_t (ly_t230 hb1.lay), gR_t (ly_t230 hb2.lay), ly_r230_3 hb2.lay, aI_t (ly_t231 hb2.lay) (by omega) (by decide), hB2, cR_t (ly_t230 hb2.lay)]
        rw [show f_X12_sumOf (some 230) (nI t) 1 (nI m) (sI M1 230 46 (nI p)) = _ from v1, cA_s]
        have on : ∀ l', encB (bstS w h (tT τ (some t)) π m (p + 1)) l' → ∃ M', f_X12_canDo_13 n (some 230) (nI m) (bF (bstS w h (tT τ (some t)) π m (p + 1))) (bG (bstS w h (tT τ (some t)) π m (p + 1))) (bK (bstS w h (tT τ (some t)) π m (p + 1))) l' (nI (p + 1)) M3 = some (if (canS w h (tT τ (some t)) π m).isSome = true then nI 1 else nI 0, M') ∧ Fx cA' cF' M M' ∧ mI M' 230 46 = bF (canS w h (tT τ (some t)) π m) ∧ mI M' 230 47 = bG (canS w h (tT τ (some t)) π m) ∧ mI M' 230 48 = bK (canS w h (tT τ (some t)) π m) := by
          intro l' hl'
          obtain ⟨M4, z1, z2⟩ := y_canDo_l ok hx hm j n (p + 1) l' M3 (by omega) (by omega) hl' hb3 (hM.fx fr3 (by decide) (by decide)) (by rw [fr3.ib (by decide)]; exact hB)
          exact ⟨M4, z1, fr3.tr z2.1, z2.2⟩
        cases hbs : bstS w h (tT τ (some t)) π m p with
        | none =>
          rw [hbs] at hst
          have hst' : bstS w h (tT τ (some t)) π m (p + 1) = some (worS (tT τ (some t)) 12 (nmS π m p g), p, g, k) := hst
          rw [show bF none = m1 from rfl, if_pos (show m1 = -1 from rfl), gI_t (ly_t230 hb3.lay), h47', nI_1]
          have := on (i64 (worS (tT τ (some t)) 12 (nmS π m p g))) (fun q e => by rw [hst'] at e; cases e; rfl)
          rw [hst'] at this
          exact this
        | some b =>
          have hbo := bst_ok hb.1 okt ok.1 hm p (by omega) b hbs
          have hl6 := hl5 b hbs
          rw [hbs] at hst
          rw [show bF (some b) = nI b.2.1 from rfl, if_neg (show ¬ nI b.2.1 = -1 from fun q => (nI_nm1 (by omega)).mp q), hl6]
          by_cases hlt : b.1 < worS (tT τ (some t)) 12 (nmS π m p g)
          · have hst' : bstS w h (tT τ (some t)) π m (p + 1) = some (worS (tT τ (some t)) 12 (nmS π m p g), p, g, k) := by
              rw [hst]; show (if _ then _ else _) = _; rw [if_pos hlt]
            rw [if_neg (fun q => by have := (i64_le hvl.sm.bg hbo.1.sm.bg).mp ((lg_cmp_le _ _).mp q); omega), gI_t (ly_t230 hb3.lay), h47', nI_1]
            have := on (i64 (worS (tT τ (some t)) 12 (nmS π m p g))) (fun q e => by rw [hst'] at e; cases e; rfl)
            rw [hst'] at this
            exact this
          · have hst' : bstS w h (tT τ (some t)) π m (p + 1) = some b := by
              rw [hst]; show (if _ then _ else _) = _; rw [if_neg hlt]
            rw [if_pos ((lg_cmp_le _ _).mpr ((i64_le hvl.sm.bg hbo.1.sm.bg).mpr (by omega))), nI_1]
            have := on (i64 b.1) (fun q e => by rw [hst'] at e; cases e; rfl)
            rw [hst'] at this
            exact this
theorem y_canDo {M : Mem} {x : Option Nat} {m : Nat} (hb : Bs w h L nt τ M) (hM : MPos π M) (ok : okN w h π) (hx : okX nt x) (hm : m < 8) (hB : mI M 231 2 = oI x) : ∃ M', f_X12_canDo (some 230) (nI m) M = some (if (canS w h (tT τ x) π m).isSome = true then nI 1 else nI 0, M') ∧ Fx cA' cF' M M' ∧ mI M' 230 46 = bF (canS w h (tT τ x) π m) ∧ mI M' 230 47 = bG (canS w h (tT τ x) π m) ∧ mI M' 230 48 = bK (canS w h (tT τ x) π m) := by
  have hw := hb.1.le
  exact y_canDo_l ok hx hm (w * h) FU 0 0 M (by omega) (by unfold FU; omega) (fun q e => by cases e) hb hM hB
end MOD3
