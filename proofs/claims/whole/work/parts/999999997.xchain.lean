/-! ===== the class chains a text's clauses ===== -/
section XCHAIN
variable {pl L r : Nat}
theorem m1_dn {k : Nat} : nI (k + 1) - (1 : Int32) = nI k := by rw [show (1 : Int32) = nI 1 from rfl, pk_sub (by omega), Nat.add_sub_cancel]
theorem fMd_d {m k : Nat} {T : Txt} {c : Cl} (h : T[k]? = some c) : fMd m (T.drop k) k = if cTy c = 0 ∧ cMv c = m then some k else fMd m (T.drop (k + 1)) (k + 1) := by
  obtain ⟨hk, he⟩ := List.getElem?_eq_some_iff.mp h
  rw [List.drop_eq_getElem_cons hk, he]
  rfl
theorem x_chain7 {T : Txt} (hr : isRA r) (hT : T.length ≤ 20) (hty : ∀ (i : Nat) (c : Cl), T[i]? = some c → cTy c ≤ 16 ∧ (cTy c = 0 → cMv c < 8)) : ∀ (k f : Nat) (M : Mem), k ≤ T.length → k < f → Lay pl L M → (∀ (i : Nat) (c : Cl), T[i]? = some c → mI M (r + 5 + i) 1 = nI (cTy c) ∧ (cTy c = 0 → mI M (r + 5 + i) 2 = nI (cMv c))) → (∀ m, m < 8 → mR M (r + 2) m = adr r (fMd m (T.drop k) k)) → (∀ (i : Nat) (c : Cl), k ≤ i → T[i]? = some c → cTy c = 0 → mR M (r + 5 + i) 8 = adr r (fMd (cMv c) (T.drop (i + 1)) (i + 1))) → ∃ M', f_X6_chain_7 f (some r) (nI k - (1 : Int32)) M = some ((), M') ∧ Fg r M M' ∧ mI M' = mI M ∧ (∀ m, m < 8 → mR M' (r + 2) m = adr r (fMd m T 0)) ∧ (∀ (i : Nat) (c : Cl), T[i]? = some c → cTy c = 0 → mR M' (r + 5 + i) 8 = adr r (fMd (cMv c) (T.drop (i + 1)) (i + 1))) ∧ ∀ b j, b ≠ r + 2 → j ≠ 8 → mR M' b j = mR M b j
  | k, 0, M => fun _ z => absurd z (by omega)
  | 0, f + 1, M => by
    intro _ _ hl h1 h2 h3
    refine ⟨M, ?_, Fg.rf, rfl, h2, fun i c => h3 i c (by omega), fun _ _ _ _ => rfl⟩
    rw [show f_X6_chain_7 (f + 1) = b_X6_chain_7 (f_X6_chain_7 f) from rfl]
    unfold b_X6_chain_7
    rw [if_pos (by decide)]
  | k + 1, f + 1, M => by
    intro hk hf hl h1 h2 h3
    obtain ⟨c, hc⟩ : ∃ c, T[k]? = some c := ⟨T[k]'(by omega), List.getElem?_eq_getElem (by omega)⟩
    obtain ⟨q1, q2⟩ := h1 k c hc
    obtain ⟨y1, y2⟩ := hty k c hc
    obtain ⟨t1, t2, t3, t4, t5, t6⟩ := ly_ra hl hr
    have r0 : mR M r 0 = some (r + 1) := (hl.2.2.2.2.1 r hr).1
    have r1 : mR M r 1 = some (r + 2) := (hl.2.2.2.2.1 r hr).2.1
    have rk1 : mR M (r + 1) k = some (r + 5 + k) := (hl.2.2.2.2.1 r hr).2.2.2.2 k (by omega)
    rw [m1_dn, show f_X6_chain_7 (f + 1) = b_X6_chain_7 (f_X6_chain_7 f) from rfl]
    unfold b_X6_chain_7
    rw [if_neg (nI_pos (by omega)), gR_t t1, r0, aR_t t2 (by omega) (by decide), rk1, gI_t (t6 k (by omega)), q1, show nI k + (-1 : Int32) = nI k - (1 : Int32) by rw [Int32.sub_eq_add_neg]]
    by_cases e : cTy c = 0
    · have hm := y2 e
      have f1 : Fg r M (sR M (r + 5 + k) 8 (mR M (r + 2) (cMv c))) := Fg.wR (Or.inr (Or.inr (Or.inr ⟨by omega, by omega, rfl⟩)))
      have f2 : Fg r M (sR (sR M (r + 5 + k) 8 (mR M (r + 2) (cMv c))) (r + 2) (cMv c) (some (r + 5 + k))) := f1.tr (Fg.wR (Or.inr (Or.inl rfl)))
      have hl1 := hl.fg hr f1
      obtain ⟨u1, -, u3, -, -, u6⟩ := ly_ra hl1 hr
      have r1' : mR (sR M (r + 5 + k) 8 (mR M (r + 2) (cMv c))) r 1 = some (r + 2) := (hl1.2.2.2.2.1 r hr).2.1
      obtain ⟨M', b1, b2, b3, b4, b5, b6⟩ := x_chain7 hr hT hty k f _ (by omega) (by omega) (hl.fg hr f2) h1 (fun m hm' => by
        rw [mR_s, fMd_d hc]
        by_cases z : m = cMv c
        · rw [if_pos ⟨rfl, z⟩, if_pos ⟨e, z.symm⟩]; rfl
        · rw [if_neg (fun q => z q.2), mR_s, if_neg (by omega), if_neg (fun q => z q.2.symm)]
          exact h2 m hm') (fun i d hi hd he => by
        rw [mR_s, if_neg (by omega), mR_s]
        by_cases z : i = k
        · subst z
          rw [if_pos ⟨rfl, rfl⟩]
          rw [hc] at hd
          cases hd
          exact h2 _ hm
        · rw [if_neg (by omega)]
          exact h3 i d (by omega) hd he)
      refine ⟨M', ?_, f2.tr b2, b3, b4, b5, fun b j hb hj => by rw [b6 b j hb hj, mR_s, if_neg (by omega), mR_s, if_neg (by omega)]⟩
      rw [if_pos (show nI (cTy c) = (0 : Int32) by rw [e]; rfl), gI_t (t6 k (by omega)), q2 e, x_isMove hm, cA_s, if_neg (by decide), gR_t t1, r1, gI_t (t6 k (by omega)), q2 e, aR_t t3 hm (by decide), pR_t (t6 k (by omega)), gR_t u1, r1', gI_t (u6 k (by omega)), show mI (sR M (r + 5 + k) 8 (mR M (r + 2) (cMv c))) (r + 5 + k) 2 = nI (cMv c) from q2 e, wR_t u3 hm (by decide) (fun b hb => by cases hb; exact u6 k (by omega))]
      exact b1
    · obtain ⟨M', b1, b2, b3, b4, b5, b6⟩ := x_chain7 hr hT hty k f M (by omega) (by omega) hl h1 (fun m hm' => by
        rw [fMd_d hc, if_neg (fun q => e q.1)]
        exact h2 m hm') (fun i d hi hd he => by
        by_cases z : i = k
        · subst z
          rw [hc] at hd
          cases hd
          exact absurd he e
        · exact h3 i d (by omega) hd he)
      refine ⟨M', ?_, b2, b3, b4, b5, b6⟩
      rw [if_neg (ne_0 (by omega) e)]
      exact b1
theorem x_chain {tp : Nat → Nat} {ln a : Nat} {T : Txt} {c : List Nat} {M : Mem} (hr : isRA r) (h : TxX pl L r tp ln T a c M) (hT : okT T) (hc : c.length ≤ 300) : ∃ M', f_X6_chain (some r) M = some ((), M') ∧ Fg r M M' ∧ mI M' = mI M ∧ RulesAt r T M' := by
  obtain ⟨hC, h4, hO, h5, h6⟩ := h
  have hl := hC.1
  obtain ⟨t1, t2, t3, t4, t5, t6⟩ := ly_ra hl hr
  have hty : ∀ (i : Nat) (c : Cl), T[i]? = some c → cTy c ≤ 16 ∧ (cTy c = 0 → cMv c < 8) := fun i c hc => by
    rcases hT.2.1 i c hc with q | q | q
    · exact ⟨by omega, fun _ => q.2.1⟩
    · exact ⟨by omega, fun z => by omega⟩
    · exact ⟨by omega, fun z => by omega⟩
  obtain ⟨M', b1, b2, b3, b4, b5, b6⟩ := x_chain7 (T := T) hr hT.1 hty T.length FU M (Nat.le_refl _) (by have := hT.1; unfold FU; omega) hl (fun i d hd => ⟨(hO i d hd).1, fun z => ((hO i d hd).2.1 z).1⟩) (fun m hm => by rw [h5 m hm, List.drop_length]; rfl) (fun i d hi hd => by rw [List.getElem?_eq_none (by omega)] at hd; cases hd)
  refine ⟨M', ?_, b2, b3, by rw [b3]; exact h4, fun i d hd => ?_, b4, fun y hy => by rw [b6 _ _ (by omega) (by omega)]; exact h6 y hy⟩
  · unfold f_X6_chain
    rw [gI_t t1, h4]
    exact b1
  · obtain ⟨q1, q2, cs, q3, q4, q5, q6⟩ := hO i d hd
    have hi : i < 20 := by
      obtain ⟨hk, -⟩ := List.getElem?_eq_some_iff.mp hd
      have := hT.1
      omega
    refine ⟨by rw [b3]; exact q1, fun z => ?_, cs, by rw [b2.1]; exact t1, by rw [b6 _ _ (by omega) (by omega)]; exact (hl.2.2.2.2.1 r hr).2.2.2.1, by rw [b2.1]; exact t5, by rw [b2.1]; exact t6 i hi, by rw [b3]; exact q3, by rw [b3]; exact q4, by omega, fun j hj => ?_⟩
    · obtain ⟨z1, z2, z3, z4⟩ := q2 z
      rw [b3]
      exact ⟨z1, z2, z3, z4, b5 i d hd z⟩
    · rw [b3, hC.2.2.2.2.2.2 _ (by omega), q6 j hj]
end XCHAIN
