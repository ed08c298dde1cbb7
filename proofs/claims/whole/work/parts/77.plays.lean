/-! ===== the doing of a move, in the reference; a whole ply in both ===== -/
def RowAt (b n : Nat) (c : Nat → Nat) (M : Mem) : Prop := ∀ p, p < n → mI M b p = nI (c p)
theorem RowAt.put {b n i v : Nat} {c : Nat → Nat} {M : Mem} (h : RowAt b n c M) : RowAt b n (up1 c i v) (sI M b i (nI v)) := by
  intro p hp
  by_cases e : p = i
  · subst e; rw [up1_s, mI_e]
  · rw [up1_n e, mI_nk e]; exact h p hp
theorem RowAt.oth {b n a k : Nat} {v : Int32} {c : Nat → Nat} {M : Mem} (h : RowAt b n c M) (e : b ≠ a) : RowAt b n c (sI M a k v) := by
  intro p hp
  rw [mI_na e]; exact h p hp
theorem RowAt.same {b n i : Nat} {c : Nat → Nat} {M : Mem} {v : Int32} (h : RowAt b n c M) (hi : i < n) (e : v = mI M b i) : RowAt b n c (sI M b i v) := by
  intro p hp
  by_cases q : p = i
  · subst q; rw [mI_e, e]; exact h p hp
  · rw [mI_nk q]; exact h p hp
section PLAYS
variable {w h L nt : Nat} {τ : Nat → Txt} {π : Pos} {M : Mem}
abbrev pA : List Nat := [254, 255]
abbrev pF : List (Nat × Nat) := [(230, 45)]
theorem y_p203 {f g v : Nat} {c' : Nat → Nat} {M0 : Mem} (hb : Bs w h L nt τ M) (fr : Fx pA pF M0 M) (hR : RowAt 254 12 c' M) (hs : mI M 230 45 = nI π.2.2) (ht : π.2.2 < 2) (hf : f < 12) (hg : g < 12) : ∃ M', f_X12_plays_203 (some 230) (nI f) (nI g) (nI v) M = some ((), M') ∧ Fx pA pF M0 M' ∧ RowAt 254 12 (up1 (up1 c' f 0) g v) M' ∧ mI M' 230 45 = nI (1 - π.2.2) ∧ mI M' 255 = mI M 255 := by
  have hl := hb.lay
  unfold f_X12_plays_203
  refine ⟨sI (sI (sI M 254 f (nI 0)) 254 g (nI v)) 230 45 (nI (1 - π.2.2)), ?_, ((fr.I (Or.inl (by decide))).I (Or.inl (by decide))).I (Or.inr (by decide)), ?_, mI_e, ?_⟩
  · simp (disch := first | omega | (simp (disch := omega) only [↓litm, lit, tN_n, nI_add, pk_mul, pk_sub, pk_div, nI_remN, nI_remN', nI_eq, nI_leI, nI_ltI, nI_nm1, m1_nI, m1_m1, m1_le, m1_lt, le_m1, lt_m1, oI_n, oI_s, bS_inN, bS_addN, bS_delN, not_true_eq_false, not_false_eq_true, and_true, true_and, if_true, if_false, mT_sI, mT_sL, mT_sR, mR_sI, mR_sL, mI_sL, mI_sR, mL_sI, mL_sR, mI_e, mI_na, mI_nk, mL_e, mL_na, mL_nk, inB_n, hs]; done) | (simp (disch := omega) only [↓litm, lit, tN_n, nI_add, pk_mul, pk_sub, pk_div, nI_remN, nI_remN', nI_eq, nI_leI, nI_ltI, nI_nm1, m1_nI, m1_m1, m1_le, m1_lt, le_m1, lt_m1, oI_n, oI_s, bS_inN, bS_addN, bS_delN, not_true_eq_false, not_false_eq_true, and_true, true_and, if_true, if_false, mT_sI, mT_sL, mT_sR, mR_sI, mR_sL, mI_sL, mI_sR, mL_sI, mL_sR, mI_e, mI_na, mI_nk, mL_e, mL_na, mL_nk, inB_n, hs]; omega)) only [↓T_230 hl, ly_r230_43 hl, ↓A_254 hl, ↓e_gI, ↓e_gL, ↓e_gR, ↓e_pI, ↓e_pL, ↓e_pR, ↓e_cR, ↓e_aI, ↓e_aL, ↓e_aR, ↓e_wI, ↓e_wL, ↓e_aN, ↓t_sI, ↓t_sL, ↓t_sR, ↓q_sI, ↓q_sL, ↓q_sR, ↓n_sI, ↓n_sL, ↓n_sR, ↓cA_s, tv_0, tv_1, tv_n0, tv_n1, ↓nz_y, ↓reduceIte, mT_sI, mT_sL, mT_sR, mR_sI, mR_sL, mI_sL, mI_sR, mL_sI, mL_sR, mI_e, mI_na, mI_nk, mL_e, mL_na, mL_nk, ↓litm, lit, tN_n, nI_add, pk_mul, pk_sub, pk_div, nI_remN, nI_remN', nI_eq, nI_leI, nI_ltI, nI_nm1, m1_nI, m1_m1, m1_le, m1_lt, le_m1, lt_m1, oI_n, oI_s, bS_inN, bS_addN, bS_delN, not_true_eq_false, not_false_eq_true, and_true, true_and, if_true, if_false, hs]
  · exact (hR.put.put).oth (by decide)
  · rw [mI_na (by decide), mI_na (by decide), mI_na (by decide)]
theorem y_p173 {ci f g n v : Nat} {c : Cl} {c' : Nat → Nat} {M0 : Mem} (hb : Bs w h L nt τ M) (fr : Fx pA pF M0 M) (hci : ci < 120) (h8 : mI M 238 ci = nI (cAc c - 7)) (hac : 7 ≤ cAc c ∧ cAc c ≤ 10) (hd : cDr c < 4) (hR : RowAt 254 12 c' M) (hs : mI M 230 45 = nI π.2.2) (ht : π.2.2 < 2) (hf : f < 12) (hg : g < 12) (hn : n < w * h) (hq : cAc c = 9 → ∃ q, besS w h n (cDr c) = some q) : ∃ M', f_X12_plays_173 (some 230) (nI ci) (nI f) (nI g) (nI (cDr c)) (nI v) (nI n) M = some ((), M') ∧ Fx pA pF M0 M' ∧ RowAt 254 12 (up1 (up1 (if cAc c = 9 then up1 c' ((besS w h n (cDr c)).getD 0) (c' n) else c') f 0) g v) M' ∧ mI M' 230 45 = nI (1 - π.2.2) ∧ mI M' 255 = mI M 255 := by
  have hl := hb.lay
  have hle := hb.1.le
  unfold f_X12_plays_173
  rw [gR_t (ly_t230 hl), ly_r230_13 hl, aI_t (ly_t238 hl) hci (by decide), h8]
  by_cases h9 : cAc c = 9
  · obtain ⟨q, hq⟩ := hq h9
    have hq2 := besS_lt hb.1 hn hq
    have hbs := y_beside hb hn hd
    rw [hq, oI_s] at hbs
    have fr1 : Fx pA pF M0 (sI M 254 q (nI (c' n))) := fr.I (Or.inl (by decide))
    have fr2 : Fx pA pF M (sI M 254 q (nI (c' n))) := Fx.wI (Or.inl (by decide))
    rw [if_pos (by rw [h9]; rfl), gR_t (ly_t230 hl), ly_r230_43 hl, cR_t (ly_t230 hl), hbs, cA_s, gR_t (ly_t230 hl), ly_r230_43 hl, aI_t (ly_t254 hl) (by omega) (by decide), hR n (by omega), wI_t (ly_t254 hl) (by omega) (by decide), if_pos h9, hq, Option.getD_some]
    obtain ⟨M', e1, e2, e3, e4, e5⟩ := y_p203 (π := π) (v := v) (hb.fx fr2 (by decide) (by decide)) fr1 hR.put (by rw [mI_na (by decide)]; exact hs) ht hf hg
    exact ⟨M', e1, e2, e3, e4, by rw [e5, mI_na (by decide)]⟩
  · rw [if_neg (fun z => h9 (by have := (nI_eq (b := 2) (by omega) (by decide)).mp z; omega)), if_neg h9]
    exact y_p203 hb fr hR hs ht hf hg
/-- the reference does a ply -/
theorem y_plays {x : Option Nat} {no dn : Nat} {b : Int × Nat × Nat × Nat} (hb : Bs w h L nt τ M) (hM : MPos π M) (ok : okN w h π) (hx : okX nt x) (hB : mI M 231 2 = oI x) (hno : no < 8) (hdn : dn < 8) (hne : no ≠ dn) (hcn : 0 < π.2.1 dn) (hc : canS w h (tT τ x) π dn = some b) (hF : mI M 256 dn = bF (canS w h (tT τ x) π dn)) (hG : mI M 257 dn = bG (canS w h (tT τ x) π dn)) (hK : mI M 258 dn = bK (canS w h (tT τ x) π dn)) : ∃ M', f_X12_plays (some 230) (nI no) (nI dn) M = some ((), M') ∧ Fx pA pF M M' ∧ MPos (sucS w h (tT τ x) π no dn) M' := by
  have hl := hb.lay
  have hle := hb.1.le
  have okt := hb.okT hx
  have ht := ok.1.2.2.2
  obtain ⟨q1, q2, q3, c, q4, q5, q6, q7⟩ := bst_ok hb.1 okt ok.1 hdn _ (Nat.le_refl _) b hc
  obtain ⟨hcell, hgo⟩ := to_goal q7
  have hac := okt.ac q4 q5
  have hk20 : b.2.2.2 < 20 := by
    have q1 := (List.getElem?_eq_some_iff.mp q4).1
    have q2 := okt.1
    omega
  obtain ⟨t, rfl⟩ : ∃ t, x = some t := by
    cases x with
    | none => rw [show tT τ none = [] from rfl] at q4; simp at q4
    | some t => exact ⟨t, rfl⟩
  have htn := hx t rfl
  have h6 := hb.2.2.2.2.1
  obtain ⟨o1, o2, o3⟩ := hb.2.2.2.2.2 t htn
  obtain ⟨-, -, o4, -, -⟩ := o3.2 _ c q4
  obtain ⟨f8, f9, f0⟩ := o4 q5
  rw [hc] at hF hG hK
  have hF' : mI M 256 dn = nI b.2.1 := hF
  have hG' : mI M 257 dn = nI b.2.2.1 := hG
  have hK' : mI M 258 dn = nI b.2.2.2 := hK
  have hvn := hM.2.1 no hno
  have hvd := hM.2.1 dn hdn
  have hcn4 := ok.1.2.2.1 no
  have hcd4 := ok.1.2.2.1 dn
  have hact : actS w h (tT τ (some t)) π dn = perfS w h π c b.2.1 b.2.2.1 := by unfold actS; rw [hc]; dsimp only; rw [q4]
  -- the part behind the heap
  have rest : ∀ v, nI v = nI (heapB π.2.1 no dn no) → ∃ M', f_X12_plays_27 (some 230) (nI dn) (some 255) (nI no) (nI v) M = some ((), M') ∧ Fx pA pF M M' ∧ MPos (sucS w h (tT τ (some t)) π no dn) M' := by
    intro v hv
    have frA : Fx pA pF M (sI (sI M 255 no (nI v)) 255 dn (nI (π.2.1 dn - 1))) := (Fx.wI (Or.inl (by decide))).I (Or.inl (by decide))
    have hheap : ∀ m, m < 8 → mI (sI (sI M 255 no (nI v)) 255 dn (nI (π.2.1 dn - 1))) 255 m = nI (heapB π.2.1 no dn m) := by
      intro m hm
      by_cases e1 : m = dn
      · subst e1; rw [mI_e]; unfold heapB; rw [if_neg (Ne.symm hne), if_pos rfl]
      · rw [mI_nk e1]
        by_cases e2 : m = no
        · subst e2; rw [mI_e, hv]
        · rw [mI_nk e2, hM.2.1 m hm]; unfold heapB; rw [if_neg e2, if_neg e1]
    have hbA := hb.fx frA (by decide) (by decide)
    have hlA := hbA.lay
    have g8 : mI (sI (sI M 255 no (nI v)) 255 dn (nI (π.2.1 dn - 1))) 238 (20 * t + b.2.2.2) = nI (cAc c - 7) := by rw [frA.ib (by decide)]; exact f8
    have hbd : mI (sI M 255 no (nI v)) 255 dn = nI (π.2.1 dn) := by rw [mI_nk (Ne.symm hne)]; exact hvd
    have h11 : ∀ p, p < 12 → mI M 254 p = nI (π.1 p) := hM.1
    have hs := hM.2.2
    have hcd := h11 b.2.1 (by omega)
    -- in front of the branches
    have step : f_X12_plays_27 (some 230) (nI dn) (some 255) (nI no) (nI v) M = (if nI (cAc c - 7) = 0 then f_X12_plays_117 (some 230) (nI (20 * t + b.2.2.2)) (nI b.2.1) (nI b.2.2.1) (nI (cDr c)) (nI (π.1 b.2.1)) (sI (sI M 255 no (nI v)) 255 dn (nI (π.2.1 dn - 1))) else if nI (cAc c - 7) = 1 then f_X12_plays_117 (some 230) (nI (20 * t + b.2.2.2)) (nI b.2.1) (nI b.2.2.1) (nI (cDr c)) (nI (π.1 b.2.1)) (sI (sI M 255 no (nI v)) 255 dn (nI (π.2.1 dn - 1))) else if nI (cAc c - 7) = 2 then f_X12_plays_117 (some 230) (nI (20 * t + b.2.2.2)) (nI b.2.1) (nI b.2.2.1) (nI (cDr c)) (nI (π.1 b.2.1)) (sI (sI M 255 no (nI v)) 255 dn (nI (π.2.1 dn - 1))) else some ((), sI (sI (sI (sI M 255 no (nI v)) 255 dn (nI (π.2.1 dn - 1))) 254 b.2.1 (nI (1 + cDr c + 4 * π.2.2))) 230 45 (nI (1 - π.2.2)))) := by
      unfold f_X12_plays_27
      have t230 := ly_t230 hl
      have t255 := ly_t255 hl
      have r44 := ly_r230_44 hl
      rw [wI_t (ly_t255 hl) hno (by decide), gR_t (by exact t230), show mR (sI M 255 no (nI v)) 230 44 = some 255 from r44, aI_t (by exact t255) hdn (by decide), hbd, wI_t (by exact t255) hdn (by decide), show (1 : Int32) = nI 1 from rfl, pk_sub (by omega)]
      rw [gR_t (ly_t230 hlA), ly_r230_3 hlA, show (2 : Int32) = nI 2 from rfl, aI_t (ly_t231 hlA) (by omega) (by decide), frA.ib (by decide), hB, oI_s, gR_t (ly_t230 hlA), ly_r230_52 hlA, aI_t (ly_t258 hlA) hdn (by decide), frA.ib (by decide), hK', gR_t (ly_t230 hlA), ly_r230_50 hlA, aI_t (ly_t256 hlA) hdn (by decide), frA.ib (by decide), hF', gR_t (ly_t230 hlA), ly_r230_51 hlA, aI_t (ly_t257 hlA) hdn (by decide), frA.ib (by decide), hG', show (20 : Int32) = nI 20 from rfl, pk_mul, nI_add, gR_t (ly_t230 hlA), ly_r230_15 hlA, aI_t (ly_t240 hlA) (by omega) (by decide), frA.ib (by decide), f0, gR_t (ly_t230 hlA), ly_r230_43 hlA, aI_t (ly_t254 hlA) (by omega) (by decide), mI_na (by decide), mI_na (by decide), hcd, gR_t (ly_t230 hlA), ly_r230_13 hlA, aI_t (ly_t238 hlA) (by omega) (by decide), g8]
      by_cases i0 : nI (cAc c - 7) = 0
      · rw [if_pos i0, if_pos i0]
      · rw [if_neg i0, if_neg i0, gR_t (ly_t230 hlA), ly_r230_13 hlA, aI_t (ly_t238 hlA) (by omega) (by decide), g8]
        by_cases i1 : nI (cAc c - 7) = nI 1
        · rw [if_pos i1, if_pos i1]
        · rw [if_neg i1, if_neg i1, gR_t (ly_t230 hlA), ly_r230_13 hlA, aI_t (ly_t238 hlA) (by omega) (by decide), g8]
          by_cases i2 : nI (cAc c - 7) = nI 2
          · rw [if_pos i2, if_pos i2]
          · rw [if_neg i2, if_neg i2]
            simp (disch := first | omega | (simp (disch := omega) only [↓litm, lit, tN_n, nI_add, pk_mul, pk_sub, pk_div, nI_remN, nI_remN', nI_eq, nI_leI, nI_ltI, nI_nm1, m1_nI, m1_m1, m1_le, m1_lt, le_m1, lt_m1, oI_n, oI_s, bS_inN, bS_addN, bS_delN, not_true_eq_false, not_false_eq_true, and_true, true_and, if_true, if_false, mT_sI, mT_sL, mT_sR, mR_sI, mR_sL, mI_sL, mI_sR, mL_sI, mL_sR, mI_e, mI_na, mI_nk, mL_e, mL_na, mL_nk, inB_n, hs]; done) | (simp (disch := omega) only [↓litm, lit, tN_n, nI_add, pk_mul, pk_sub, pk_div, nI_remN, nI_remN', nI_eq, nI_leI, nI_ltI, nI_nm1, m1_nI, m1_m1, m1_le, m1_lt, le_m1, lt_m1, oI_n, oI_s, bS_inN, bS_addN, bS_delN, not_true_eq_false, not_false_eq_true, and_true, true_and, if_true, if_false, mT_sI, mT_sL, mT_sR, mR_sI, mR_sL, mI_sL, mI_sR, mL_sI, mL_sR, mI_e, mI_na, mI_nk, mL_e, mL_na, mL_nk, inB_n, hs]; omega)) only [↓T_230 hlA, ly_r230_43 hlA, ↓A_254 hlA, ↓e_gI, ↓e_gL, ↓e_gR, ↓e_pI, ↓e_pL, ↓e_pR, ↓e_cR, ↓e_aI, ↓e_aL, ↓e_aR, ↓e_wI, ↓e_wL, ↓e_aN, ↓t_sI, ↓t_sL, ↓t_sR, ↓q_sI, ↓q_sL, ↓q_sR, ↓n_sI, ↓n_sL, ↓n_sR, ↓cA_s, tv_0, tv_1, tv_n0, tv_n1, ↓nz_y, ↓reduceIte, mT_sI, mT_sL, mT_sR, mR_sI, mR_sL, mI_sL, mI_sR, mL_sI, mL_sR, mI_e, mI_na, mI_nk, mL_e, mL_na, mL_nk, ↓litm, lit, tN_n, nI_add, pk_mul, pk_sub, pk_div, nI_remN, nI_remN', nI_eq, nI_leI, nI_ltI, nI_nm1, m1_nI, m1_m1, m1_le, m1_lt, le_m1, lt_m1, oI_n, oI_s, bS_inN, bS_addN, bS_delN, not_true_eq_false, not_false_eq_true, and_true, true_and, if_true, if_false, hs]
    rw [step]
    have fin : ∀ M', RowAt 254 12 (perfS w h π c b.2.1 b.2.2.1) M' → mI M' 230 45 = nI (1 - π.2.2) → mI M' 255 = mI (sI (sI M 255 no (nI v)) 255 dn (nI (π.2.1 dn - 1))) 255 → MPos (sucS w h (tT τ (some t)) π no dn) M' := by
      intro M' a1 a2 a3
      refine ⟨fun p hp => ?_, fun m hm => ?_, a2⟩
      · show _ = nI (actS w h (tT τ (some t)) π dn p)
        rw [hact]; exact a1 p hp
      · rw [a3]; exact hheap m hm
    have hRA : RowAt 254 12 π.1 (sI (sI M 255 no (nI v)) 255 dn (nI (π.2.1 dn - 1))) := fun p hp => by rw [mI_na (by decide), mI_na (by decide)]; exact h11 p hp
    have hsA : mI (sI (sI M 255 no (nI v)) 255 dn (nI (π.2.1 dn - 1))) 230 45 = nI π.2.2 := by rw [mI_na (by decide), mI_na (by decide)]; exact hs
    by_cases h10 : cAc c = 10
    · rw [h10, if_neg (by decide), if_neg (by decide), if_neg (by decide)]
      refine ⟨_, rfl, (frA.I (Or.inl (by decide))).I (Or.inr (by decide)), fin _ ?_ mI_e ?_⟩
      · unfold perfS
        rw [if_pos h10]
        exact hRA.put.oth (by decide)
      · rw [mI_na (by decide), mI_na (by decide)]
    · obtain ⟨n, h1, h2, h3, h4, h5⟩ := goal_near hb.1 q2 hgo h10
      have k9 := ok.1.1 n
      generalize hMA : sI (sI M 255 no (nI v)) 255 dn (nI (π.2.1 dn - 1)) = MA at *
      have hbs := y_beside hbA q2 hac.2.2.2
      rw [h1, oI_s] at hbs
      have main : ∃ M', f_X12_plays_117 (some 230) (nI (20 * t + b.2.2.2)) (nI b.2.1) (nI b.2.2.1) (nI (cDr c)) (nI (π.1 b.2.1)) MA = some ((), M') ∧ Fx pA pF M M' ∧ MPos (sucS w h (tT τ (some t)) π no dn) M' := by
        unfold f_X12_plays_117
        rw [cR_t (ly_t230 hlA), hbs, cA_s, gR_t (ly_t230 hlA), ly_r230_13 hlA, aI_t (ly_t238 hlA) (by omega) (by decide), g8]
        have hq9 : cAc c = 9 → ∃ q, besS w h n (cDr c) = some q := fun e => by
          obtain ⟨-, q, hq, -⟩ := h5 (by omega)
          exact ⟨q, hq⟩
        have hgn : cAc c = 9 → b.2.2.1 = n := fun e => by
          obtain ⟨-, q, -, -, -, -, hq⟩ := h5 (by omega)
          exact hq (by omega)
        by_cases h8 : cAc c = 8
        · have hz := (h5 (by omega)).1
          rw [if_pos (by rw [h8]; rfl), gR_t (ly_t230 hlA), ly_r230_43 hlA, gR_t (ly_t230 hlA), ly_r230_43 hlA, aI_t (ly_t254 hlA) (by omega) (by decide), hRA n (by omega), nz_4, gI_t (ly_t230 hlA), hsA, show (1 : Int32) = nI 1 from rfl, show (4 : Int32) = nI 4 from rfl, pk_sub (by omega), pk_div (by omega) (by decide) (by decide)]
          by_cases es : (π.1 n - 1) / 4 = π.2.2
          · have frB : Fx pA pF M (sI MA 254 n (nI (π.1 n))) := frA.I (Or.inl (by decide))
            rw [if_pos (by rw [es]), gR_t (ly_t230 hlA), ly_r230_43 hlA, aI_t (ly_t254 hlA) (by omega) (by decide), hRA n (by omega), wI_t (ly_t254 hlA) (by omega) (by decide)]
            obtain ⟨M', e1, e2, e3, e4, e5⟩ := y_p173 (c := c) (π := π) (v := π.1 b.2.1) (ci := 20 * t + b.2.2.2) (hb.fx frB (by decide) (by decide)) frB (by omega) (by rw [mI_na (by decide)]; exact g8) ⟨hac.1, hac.2.1⟩ hac.2.2.2 (hRA.same (i := n) (by omega) (hRA n (by omega)).symm) (by rw [mI_na (by decide)]; exact hsA) ht (show b.2.1 < 12 by omega) (show b.2.2.1 < 12 by omega) h2 hq9
            refine ⟨M', e1, e2, fin M' ?_ e4 (by rw [e5, mI_na (by decide)])⟩
            unfold perfS
            rw [if_neg h10, if_neg (show ¬ cAc c = 9 by omega), h1, Option.getD_some, if_neg (fun q => q.2 es)]
            rw [if_neg (show ¬ cAc c = 9 by omega)] at e3
            exact e3
          · have frB : Fx pA pF M (sI MA 254 n (nI 0)) := frA.I (Or.inl (by decide))
            rw [if_neg (nIne (by omega) (by omega) es), show (0 : Int32) = nI 0 from rfl, wI_t (ly_t254 hlA) (by omega) (by decide)]
            obtain ⟨M', e1, e2, e3, e4, e5⟩ := y_p173 (c := c) (π := π) (v := π.1 b.2.1) (ci := 20 * t + b.2.2.2) (hb.fx frB (by decide) (by decide)) frB (by omega) (by rw [mI_na (by decide)]; exact g8) ⟨hac.1, hac.2.1⟩ hac.2.2.2 hRA.put (by rw [mI_na (by decide)]; exact hsA) ht (show b.2.1 < 12 by omega) (show b.2.2.1 < 12 by omega) h2 hq9
            refine ⟨M', e1, e2, fin M' ?_ e4 (by rw [e5, mI_na (by decide)])⟩
            unfold perfS
            rw [if_neg h10, if_neg (show ¬ cAc c = 9 by omega), h1, Option.getD_some, if_pos ⟨h8, es⟩]
            rw [if_neg (show ¬ cAc c = 9 by omega)] at e3
            exact e3
        · rw [if_neg (fun z => h8 (by have := (nI_eq (b := 1) (by omega) (by decide)).mp z; omega))]
          obtain ⟨M', e1, e2, e3, e4, e5⟩ := y_p173 (c := c) (π := π) (v := π.1 b.2.1) (ci := 20 * t + b.2.2.2) hbA frA (by omega) g8 ⟨hac.1, hac.2.1⟩ hac.2.2.2 hRA hsA ht (show b.2.1 < 12 by omega) (show b.2.2.1 < 12 by omega) h2 hq9
          refine ⟨M', e1, e2, fin M' ?_ e4 e5⟩
          unfold perfS
          rw [if_neg h10, h1, Option.getD_some]
          by_cases h9 : cAc c = 9
          · rw [if_pos h9] at e3 ⊢
            rw [hgn h9] at e3 ⊢
            exact e3
          · rw [if_neg h9] at e3 ⊢
            rw [if_neg (fun q => h8 q.1)]
            exact e3
      rcases (show cAc c = 7 ∨ cAc c = 8 ∨ cAc c = 9 by omega) with e | e | e
      · rw [if_pos (by rw [e]; rfl)]; exact main
      · rw [if_neg (by rw [e]; decide), if_pos (by rw [e]; rfl)]; exact main
      · rw [if_neg (by rw [e]; decide), if_neg (by rw [e]; decide), if_pos (by rw [e]; rfl)]; exact main
  unfold f_X12_plays
  rw [gR_t (ly_t230 hl), ly_r230_44 hl, gR_t (ly_t230 hl), ly_r230_44 hl, aI_t (ly_t255 hl) hno (by decide), hvn]
  by_cases h3 : π.2.1 no = 3
  · rw [if_pos (by rw [h3]; rfl)]
    exact rest 3 (by unfold heapB; rw [if_pos rfl, h3]; rfl)
  · rw [if_neg (show ¬ nI (π.2.1 no) = (3 : Int32) from nIne (b := 3) (by omega) (by decide) h3), gR_t (ly_t230 hl), ly_r230_44 hl, aI_t (ly_t255 hl) hno (by decide), hvn, nI_1]
    exact rest _ (by unfold heapB; rw [if_pos rfl, if_pos (by omega)])
end PLAYS
