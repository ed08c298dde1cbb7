/-! ===== the line of the class, on ===== -/
theorem lbV_bd {ra ta rb tb : Nat} (ha : ta ≤ 2000) (hb : tb ≤ 2000) : lbV ra ta rb tb = 100000 ∨ lbV ra ta rb tb ≤ 2000 := by
  unfold lbV
  by_cases h1 : ra = 2
  · simp only [if_pos h1]
    split <;> omega
  · simp only [if_neg h1]
    split <;> omega
theorem wbV_bd {ra ta rb tb : Nat} (ha : ta ≤ 2000) (hb : tb ≤ 2000) : wbV ra ta rb tb = 100000 ∨ wbV ra ta rb tb ≤ 2000 := by
  unfold wbV
  by_cases h1 : ra = 1 ∧ rb = 1
  · rw [if_pos h1]
    split <;> omega
  · rw [if_neg h1]
    omega
theorem nI_p1 {u : Nat} (hu : 1 ≤ u) : nI u - (1 : Int32) = nI (u - 1) := by
  obtain ⟨k, rfl⟩ : ∃ k, u = k + 1 := ⟨u - 1, by omega⟩
  exact nI_pred k
section XLINE2
variable {w h L nt : Nat} {τ : Nat → Txt} {n : Nat} {op : Nat → Chi} {tg : Nat → Nat} {O : Pos → Chi} {S : Pos → Nat → Nat → Pos} {Q : Nat → Pos} {R U : Pos → Nat} {M : Mem}
theorem nvP_bd {π : Pos} {no a b : Nat} (hU : ∀ π, U π ≤ 2000) : nvP S R U π no a b = 100000 ∨ nvP S R U π no a b ≤ 2000 := by
  unfold nvP
  split
  · exact lbV_bd (hU _) (hU _)
  · exact wbV_bd (hU _) (hU _)
def xnl (S : Pos → Nat → Nat → Pos) (R U : Pos → Nat) (π : Pos) (q m : Nat) : Nat := cvt (nvP S R U π m (ot1 q m) (ot2 q m))
theorem xnl_le {π : Pos} {q m : Nat} (hU : ∀ π, U π ≤ 2000) : xnl S R U π q m ≤ 1000000 := by
  have := nvP_bd (S := S) (R := R) (π := π) (no := m) (a := ot1 q m) (b := ot2 q m) hU
  unfold xnl cvt
  split <;> omega
theorem x_ol_l {i q : Nat} {wn : Bool} (hb : Bs w h L nt τ M) (hO : OpX n op tg M) (hG : Grf O S Q n op tg) (hV : VlX Q n R U M) (hn : n ≤ 2000) (hi : i < n) (hr : R (Q i) = 1 ∨ R (Q i) = 2) (hq : q ∈ TQ) (ho : inq (op i) q = true) : ∀ (k f m c : Nat), m + k = 8 → k < f → c ≤ 1000000 → f_X0_offerLength_31 f (some 220) (nI i) (nI (bS (tch q) 8)) (nI wn.toNat) (nI c) (nI m) M = some (nI (((List.range' m k).filter (tch q)).foldl (fun c m => mnX (!wn) c (xnl S R U (Q i) q m)) c), M)
  | k, 0, m, c, _, hf, _ => absurd hf (by omega)
  | 0, f + 1, m, c, hm, _, _ => by
    obtain rfl : m = 8 := by omega
    rw [u_X0_offerLength_31]
    unfold b_X0_offerLength_31
    rw [if_pos (by decide)]
    rfl
  | k + 1, f + 1, m, c, hm, hf, hc => by
    have hl := hb.lay
    have ih := fun c hc => x_ol_l (wn := wn) hb hO hG hV hn hi hr hq ho k f (m + 1) c (by omega) (by omega) hc
    rw [u_X0_offerLength_31, List.range'_succ]
    unfold b_X0_offerLength_31
    rw [if_neg (show ¬ (8 : Int32) ≤ nI m from nI_ge (b := 8) (by omega) (by decide)), nI_1]
    cases ht : tch q m with
    | false =>
      rw [if_pos ((bS_in (by decide) (by omega)).mpr ht), List.filter_cons_of_neg (by simp [ht])]
      exact ih c hc
    | true =>
      have hx := xnl_le (S := S) (R := R) (U := U) (π := Q i) (q := q) (m := m) hV.2.2
      have hle : mnX (!wn) c (xnl S R U (Q i) q m) ≤ 1000000 := by
        unfold mnX
        cases wn with
        | true => rw [if_neg (by decide)]; split <;> omega
        | false => rw [if_pos (show (!false) = true from rfl)]; split <;> omega
      rw [if_neg (fun z => by rw [bS_in (by decide) (by omega), ht] at z; cases z), cR_t (ly_t220 hl), x_noLength hb hO hG hV hn hi hr hq ho (tch_or.mp ht), cA_s, List.filter_cons_of_pos ht, List.foldl_cons, ← ih _ hle]
      show (if nI wn.toNat = 0 then f_X0_offerLength_31 f (some 220) (nI i) (nI (bS (tch q) 8)) (nI wn.toNat) (if nI (xnl S R U (Q i) q m) < nI c then nI (xnl S R U (Q i) q m) else nI c) (nI (m + 1)) M else f_X0_offerLength_31 f (some 220) (nI i) (nI (bS (tch q) 8)) (nI wn.toNat) (if nI c < nI (xnl S R U (Q i) q m) then nI (xnl S R U (Q i) q m) else nI c) (nI (m + 1)) M) = _
      unfold mnX
      cases wn with
      | false =>
        rw [if_pos (by decide), if_pos (show (!false) = true from rfl)]
        congr 1
        by_cases z : xnl S R U (Q i) q m < c
        · rw [if_pos (nI_lt z (by omega)), if_pos z]
        · rw [if_neg (nI_nlt (by omega) (by omega)), if_neg z]
      | true =>
        rw [if_neg (by decide), if_neg (show ¬ (!true) = true by decide)]
        congr 1
        by_cases z : c < xnl S R U (Q i) q m
        · rw [if_pos (nI_lt z (by omega)), if_pos z]
        · rw [if_neg (nI_nlt (by omega) (by omega)), if_neg z]
theorem ot_x {q : Nat} (hq : q ∈ TQ) : ot1 q (qx q) = qy q ∧ ot2 q (qx q) = qz q ∧ ot1 q (qy q) = qx q ∧ ot2 q (qy q) = qz q ∧ ot1 q (qz q) = qx q ∧ ot2 q (qz q) = qy q := by
  obtain ⟨hq1, hq2⟩ := TQ_tri q hq
  obtain ⟨t1, t2, t3⟩ := tri_lt hq2 hq1
  unfold ot1 ot2
  refine ⟨if_pos rfl, if_neg (by omega), if_neg (by omega), if_neg (by omega), if_neg (by omega), if_pos rfl⟩
theorem x_offerLength {i q : Nat} (hb : Bs w h L nt τ M) (hO : OpX n op tg M) (hG : Grf O S Q n op tg) (hV : VlX Q n R U M) (hn : n ≤ 2000) (hi : i < n) (hr : R (Q i) = 1 ∨ R (Q i) = 2) (hq : q ∈ TQ) (ho : inq (op i) q = true) : f_X0_offerLength (some 220) (nI i) (nI (bS (tch q) 8)) M = some (nI (cvt (ofP S R U (Q i) q)), M) := by
  have hl := hb.lay
  obtain ⟨e1, e2, e3, e4, e5, e6⟩ := ot_x hq
  unfold f_X0_offerLength
  rw [gR_t (ly_t220 hl), ly_r220_0 hl, aI_t (ly_t221 hl) (by omega) (by decide), (hV.1 i hi).1]
  have b1 := nvP_bd (S := S) (R := R) (π := Q i) (no := qx q) (a := qy q) (b := qz q) hV.2.2
  have b2 := nvP_bd (S := S) (R := R) (π := Q i) (no := qy q) (a := qx q) (b := qz q) hV.2.2
  have b3 := nvP_bd (S := S) (R := R) (π := Q i) (no := qz q) (a := qx q) (b := qy q) hV.2.2
  rcases hr with hr1 | hr1
  · have := x_ol_l (wn := true) hb hO hG hV hn hi (Or.inl hr1) hq ho 8 FU 0 0 (by omega) (by decide) (by omega)
    rw [(TQ_fx q hq).1] at this
    rw [if_pos (by rw [hr1]; rfl), if_neg (by decide)]
    refine Eq.trans this ?_
    congr 3
    unfold ofP wiP
    unfold nvP at b1 b2 b3
    rw [if_pos hr1] at b1 b2 b3 ⊢
    simp only [List.foldl_cons, List.foldl_nil, mnX, xnl, e1, e2, e3, e4, e5, e6, nvP, if_pos hr1, Bool.not_true, Bool.false_eq_true, if_false]
    unfold cvt
    repeat' split
    all_goals omega
  · have := x_ol_l (wn := false) hb hO hG hV hn hi (Or.inr hr1) hq ho 8 FU 0 1000000 (by omega) (by decide) (by omega)
    rw [(TQ_fx q hq).1] at this
    have hn1 : ¬ R (Q i) = 1 := by omega
    rw [if_neg (ne_1 (by omega) hn1), if_pos rfl]
    refine Eq.trans this ?_
    congr 3
    unfold ofP loP
    unfold nvP at b1 b2 b3
    rw [if_neg hn1] at b1 b2 b3 ⊢
    simp only [List.foldl_cons, List.foldl_nil, mnX, xnl, e1, e2, e3, e4, e5, e6, nvP, if_neg hn1, Bool.not_false, if_true]
    unfold cvt
    repeat' split
    all_goals omega
theorem x_lo_l {i : Nat} (hb : Bs w h L nt τ M) (hO : OpX n op tg M) (hG : Grf O S Q n op tg) (hV : VlX Q n R U M) (hn : n ≤ 2000) (hi : i < n) (hr : R (Q i) = 1 ∨ R (Q i) = 2) (hU : 1 ≤ U (Q i)) : ∀ (k f j : Nat), j + k = 56 → k < f → f_X0_lineOffer_2 f (some 220) (nI i) (nI j) M = some (bitsO ((TQ.drop j).find? (fun q => inq (O (Q i)) q && (ofP S R U (Q i) q == U (Q i) - 1))), M)
  | k, 0, j, _, hf => absurd hf (by omega)
  | 0, f + 1, j, hj, _ => by
    obtain rfl : j = 56 := by omega
    rw [u_X0_lineOffer_2, List.drop_of_length_le (by rw [TQ_len]; omega)]
    unfold b_X0_lineOffer_2
    rw [if_pos (by decide)]
    rfl
  | k + 1, f + 1, j, hj, hf => by
    have hl := hb.lay
    have hq := TQ_mem (show j < 56 by omega)
    have hq' := TQ_tri _ hq
    have ih := x_lo_l hb hO hG hV hn hi hr hU k f (j + 1) (by omega) (by omega)
    have hUl := hV.2.2 (Q i)
    rw [u_X0_lineOffer_2, TQ_drop (by omega)]
    unfold b_X0_lineOffer_2
    rw [if_neg (show ¬ (56 : Int32) ≤ nI j from nI_ge (b := 56) (by omega) (by decide)), gR_t (ly_t220 hl), ly_r220_3 hl, gR_t (ly_t45 hl), ly_r45_0 hl, aI_t (ly_t46 hl) (by omega) (by decide), bits_at hb (by omega), gR_t (ly_t220 hl), ly_r220_2 hl, gR_t (ly_t211 hl), ly_r211_0 hl, aI_t (ly_t212 hl) (by omega) (by decide), hO.1 i hi, nI_1 j, List.find?_cons, ← hG.1 i hi]
    cases hc : inq (op i) (TQ.getD j 0) with
    | false =>
      rw [if_neg (fun z => by rw [(tch_sub hq'.1).mp z] at hc; cases hc), Bool.false_and]
      rw [hG.1 i hi]
      exact ih
    | true =>
      rw [if_pos ((tch_sub hq'.1).mpr hc), cR_t (ly_t220 hl), x_offerLength hb hO hG hV hn hi hr hq hc, cA_s, gR_t (ly_t220 hl), ly_r220_1 hl, aI_t (ly_t222 hl) (by omega) (by decide), (hV.1 i hi).2 (by omega), nI_p1 hU, Bool.true_and]
      by_cases z : ofP S R U (Q i) (TQ.getD j 0) = U (Q i) - 1
      · rw [if_pos (by rw [(cvt_eq (by omega)).mpr z]), beq_iff_eq.mpr z]
        rfl
      · have hcv : cvt (ofP S R U (Q i) (TQ.getD j 0)) < 2 ^ 31 := by
          have e := ofP
          unfold cvt
          split
          · decide
          · unfold ofP wiP loP
            have b1 := lbV_bd (ra := R (S (Q i) (qx (TQ.getD j 0)) (qy (TQ.getD j 0)))) (rb := R (S (Q i) (qx (TQ.getD j 0)) (qz (TQ.getD j 0)))) (hV.2.2 (S (Q i) (qx (TQ.getD j 0)) (qy (TQ.getD j 0)))) (hV.2.2 (S (Q i) (qx (TQ.getD j 0)) (qz (TQ.getD j 0))))
            have b2 := lbV_bd (ra := R (S (Q i) (qy (TQ.getD j 0)) (qx (TQ.getD j 0)))) (rb := R (S (Q i) (qy (TQ.getD j 0)) (qz (TQ.getD j 0)))) (hV.2.2 (S (Q i) (qy (TQ.getD j 0)) (qx (TQ.getD j 0)))) (hV.2.2 (S (Q i) (qy (TQ.getD j 0)) (qz (TQ.getD j 0))))
            have b3 := lbV_bd (ra := R (S (Q i) (qz (TQ.getD j 0)) (qx (TQ.getD j 0)))) (rb := R (S (Q i) (qz (TQ.getD j 0)) (qy (TQ.getD j 0)))) (hV.2.2 (S (Q i) (qz (TQ.getD j 0)) (qx (TQ.getD j 0)))) (hV.2.2 (S (Q i) (qz (TQ.getD j 0)) (qy (TQ.getD j 0))))
            have c1 := wbV_bd (ra := R (S (Q i) (qx (TQ.getD j 0)) (qy (TQ.getD j 0)))) (rb := R (S (Q i) (qx (TQ.getD j 0)) (qz (TQ.getD j 0)))) (hV.2.2 (S (Q i) (qx (TQ.getD j 0)) (qy (TQ.getD j 0)))) (hV.2.2 (S (Q i) (qx (TQ.getD j 0)) (qz (TQ.getD j 0))))
            unfold lbP wbP
            split <;> omega
        rw [if_neg (nIne hcv (by omega) (fun y => z ((cvt_eq (by omega)).mp y))), beq_eq_false_iff_ne.mpr z, hG.1 i hi]
        exact ih
theorem x_lineOffer {i : Nat} (hb : Bs w h L nt τ M) (hO : OpX n op tg M) (hG : Grf O S Q n op tg) (hV : VlX Q n R U M) (hn : n ≤ 2000) (hi : i < n) (hr : R (Q i) = 1 ∨ R (Q i) = 2) (hf : LnF O S R U (Q i)) : f_X0_lineOffer (some 220) (nI i) M = some (nI (bS (tch (lnQ O S R U (Q i))) 8), M) := by
  have h1 := x_lo_l hb hO hG hV hn hi hr hf.1 56 FU 0 (by omega) (by decide)
  rw [List.drop_zero] at h1
  have h2 := lnQ_f hf
  refine Eq.trans h1 ?_
  unfold lnQ at h2 ⊢
  cases hfd : TQ.find? (fun q => inq (O (Q i)) q && (ofP S R U (Q i) q == U (Q i) - 1)) with
  | none =>
    rw [hfd] at h2
    exact absurd h2.1 (by decide +kernel)
  | some q => rfl
theorem find_fl {p r : Nat → Bool} : ∀ l : List Nat, (l.filter p).find? r = l.find? (fun m => p m && r m)
  | [] => rfl
  | m :: l => by
    cases hp : p m with
    | true => rw [List.filter_cons_of_pos hp, List.find?_cons, List.find?_cons, hp, Bool.true_and, find_fl l]
    | false => rw [List.filter_cons_of_neg (by rw [hp]; decide), List.find?_cons, hp, Bool.false_and]; exact find_fl l
theorem x_ln_l {i q : Nat} (hb : Bs w h L nt τ M) (hO : OpX n op tg M) (hG : Grf O S Q n op tg) (hV : VlX Q n R U M) (hn : n ≤ 2000) (hi : i < n) (hr : R (Q i) = 1 ∨ R (Q i) = 2) (hU : 1 ≤ U (Q i)) (hq : q ∈ TQ) (ho : inq (op i) q = true) : ∀ (k f m : Nat), m + k = 8 → k < f → f_X0_lineNo_2 f (some 220) (nI i) (nI (bS (tch q) 8)) (nI m) M = some (nI (((List.range' m k).find? (fun m => tch q m && (nvP S R U (Q i) m (ot1 q m) (ot2 q m) == U (Q i) - 1))).getD 0), M)
  | k, 0, m, _, hf => absurd hf (by omega)
  | 0, f + 1, m, hm, _ => by
    obtain rfl : m = 8 := by omega
    rw [u_X0_lineNo_2]
    unfold b_X0_lineNo_2
    rw [if_pos (by decide)]
    rfl
  | k + 1, f + 1, m, hm, hf => by
    have hl := hb.lay
    have ih := x_ln_l hb hO hG hV hn hi hr hU hq ho k f (m + 1) (by omega) (by omega)
    have hUl := hV.2.2 (Q i)
    rw [u_X0_lineNo_2, List.range'_succ, List.find?_cons]
    unfold b_X0_lineNo_2
    rw [if_neg (show ¬ (8 : Int32) ≤ nI m from nI_ge (b := 8) (by omega) (by decide)), nI_1]
    cases ht : tch q m with
    | false => rw [if_pos ((bS_in (by decide) (by omega)).mpr ht), Bool.false_and]; exact ih
    | true =>
      have hx := xnl_le (S := S) (R := R) (U := U) (π := Q i) (q := q) (m := m) hV.2.2
      rw [if_neg (fun z => by rw [bS_in (by decide) (by omega), ht] at z; cases z), cR_t (ly_t220 hl), x_noLength hb hO hG hV hn hi hr hq ho (tch_or.mp ht), cA_s, gR_t (ly_t220 hl), ly_r220_1 hl, aI_t (ly_t222 hl) (by omega) (by decide), (hV.1 i hi).2 (by omega), nI_p1 hU, Bool.true_and]
      by_cases z : nvP S R U (Q i) m (ot1 q m) (ot2 q m) = U (Q i) - 1
      · rw [if_pos (by rw [(cvt_eq (by omega)).mpr z]), beq_iff_eq.mpr z]
        rfl
      · rw [if_neg (nIne (by unfold xnl at hx; omega) (by omega) (fun y => z ((cvt_eq (by omega)).mp y))), beq_eq_false_iff_ne.mpr z]
        exact ih
theorem x_lineNo {i q : Nat} (hb : Bs w h L nt τ M) (hO : OpX n op tg M) (hG : Grf O S Q n op tg) (hV : VlX Q n R U M) (hn : n ≤ 2000) (hi : i < n) (hr : R (Q i) = 1 ∨ R (Q i) = 2) (hU : 1 ≤ U (Q i)) (hq : q ∈ TQ) (ho : inq (op i) q = true) (hof : ofP S R U (Q i) q = U (Q i) - 1) : f_X0_lineNo (some 220) (nI i) (nI (bS (tch q) 8)) M = some (nI (lnN S R U (Q i) q), M) := by
  have h1 := x_ln_l hb hO hG hV hn hi hr hU hq ho 8 FU 0 (by omega) (by decide)
  obtain ⟨hq1, hq2⟩ := TQ_tri q hq
  obtain ⟨t1, t2, t3⟩ := tri_lt hq2 hq1
  obtain ⟨e1, e2, e3, e4, e5, e6⟩ := ot_x hq
  rw [← find_fl, (TQ_fx q hq).1] at h1
  refine Eq.trans h1 ?_
  congr 3
  have h2 := lnN_f (S := S) (U := U) hr hof
  unfold lnN at h2 ⊢
  rw [List.find?_cons, List.find?_cons, List.find?_cons, List.find?_nil, e1, e2, e3, e4, e5, e6]
  by_cases z1 : nvP S R U (Q i) (qx q) (qy q) (qz q) = U (Q i) - 1
  · rw [if_pos z1, beq_iff_eq.mpr z1]; rfl
  · rw [if_neg z1, beq_eq_false_iff_ne.mpr z1]
    rw [if_neg z1] at h2
    by_cases z2 : nvP S R U (Q i) (qy q) (qx q) (qz q) = U (Q i) - 1
    · rw [if_pos z2, beq_iff_eq.mpr z2]; rfl
    · rw [if_neg z2, beq_eq_false_iff_ne.mpr z2]
      rw [if_neg z2, e5, e6] at h2
      rcases h2 with ⟨h2, -⟩ | h2
      · rw [beq_iff_eq.mpr h2]; rfl
      · omega
end XLINE2
