/-! ===== the class reads all clauses of a text ===== -/
section XTX
variable {pl L r : Nat} {tp : Nat → Nat} {ln : Nat} {M M' : Mem}
theorem x_clause {T : Txt} {a : Nat} {c : List Nat} (hr : isRA r) (h : TxX pl L r tp ln T a c M) (hT : T.length ≤ 20) (hc : c.length ≤ a) (ha : a ≤ ln) : XcR pl L r tp ln T c M (f_X5_clause (some 43) M) (pCl tp ln T a) := by
  have htk := tTk_le (tp := tp) (ln := ln) (a := a)
  have hC := h.1
  have h300 := hC.2.1.1
  unfold f_X5_clause
  rw [gI_t (ly_t43 hC.1), hC.2.2.2.2.1.2.1]
  by_cases e : tTk tp ln a = 0 ∨ (12 ≤ tTk tp ln a ∧ tTk tp ln a ≤ 16)
  · have h28 := x_c28 hr h hT hc ha e
    by_cases e0 : tTk tp ln a = 0
    · rw [if_pos (show nI (tTk tp ln a) = (0 : Int32) by rw [e0]; rfl)]; exact h28
    rw [if_neg (ne_0 (by omega) e0)]
    by_cases e16 : tTk tp ln a = 16
    · rw [if_pos (show nI (tTk tp ln a) = (16 : Int32) by rw [e16]; rfl)]; exact h28
    rw [if_neg (show ¬ nI (tTk tp ln a) = (16 : Int32) from nIne (b := 16) (by omega) (by decide) e16), x_isSingle htk, cA_s, decide_eq_true (show 12 ≤ tTk tp ln a by omega), decide_eq_true (show tTk tp ln a ≤ 15 by omega), if_neg (by decide)]
    exact h28
  · have hs : (decide (12 ≤ tTk tp ln a) && decide (tTk tp ln a ≤ 15)) = false := by
      rw [← Bool.not_eq_true, Bool.and_eq_true, decide_eq_true_eq, decide_eq_true_eq]
      omega
    obtain ⟨M1, b1, b2, b3⟩ := x_fail_c (k := 1) hr hC (by omega) (by decide)
    rw [show pCl tp ln T a = .inl (1, a) from if_neg e, if_neg (ne_0 (by omega) (by omega)), if_neg (show ¬ nI (tTk tp ln a) = (16 : Int32) from nIne (b := 16) (by omega) (by decide) (by omega)), x_isSingle htk, cA_s, hs, if_pos (show nI false.toNat = (0 : Int32) from rfl), cR_t (ly_t43 hC.1)]
    exact ⟨M1, by rw [show f_X5_fail (some 43) (1 : Int32) M = _ from b1, cA_s], b2.fg, b3⟩
def TxO (pl L r : Nat) (tp : Nat → Nat) (ln : Nat) (M : Mem) (x : Option (Unit × Mem)) (res : (Nat × Nat) ⊕ Txt) : Prop := match res with
  | .inl e => ∃ M1, x = some ((), sI M1 43 1 (0 : Int32)) ∧ Fg r M M1 ∧ FlX pl L r tp ln e.1 (tSt tp ln e.2) M1
  | .inr T' => ∃ M1 a' c', x = (cA (f_X6_chain (some r) M1) fun _ M4 => pI M4 (some 43) 5 1 (0 : Int32) fun M5 => some ((), M5)) ∧ Fg r M M1 ∧ TxX pl L r tp ln T' a' c' M1 ∧ okT T' ∧ c'.length ≤ 300
theorem x_tx (hr : isRA r) : ∀ (n f i a : Nat) (T : Txt) (c : List Nat) (M : Mem), i + n = 301 → n < f → ln < a + n → TxX pl L r tp ln T a c M → okT T → c.length ≤ a → a ≤ ln → TxO pl L r tp ln M (f_X5_read_33 f (some 43) (nI i) M) (pTx tp ln n a T)
  | n, 0, i, a, T, c, M => fun _ z => absurd z (by omega)
  | 0, f + 1, i, a, T, c, M => fun _ _ z _ _ _ ha => absurd z (by omega)
  | n + 1, f + 1, i, a, T, c, M => by
    intro hi hf hl h hT hc ha
    have htk := tTk_le (tp := tp) (ln := ln) (a := a)
    have hC := h.1
    obtain ⟨t1, -⟩ := ly_ra hC.1 hr
    rw [show f_X5_read_33 (f + 1) = b_X5_read_33 (f_X5_read_33 f) from rfl]
    unfold b_X5_read_33
    rw [if_neg (show ¬ (300 : Int32) < nI i from nI_nlt (a := 300) (by omega) (by decide)), gI_t (ly_t43 hC.1), hC.2.2.2.1.1, if_pos (show nI 0 = (0 : Int32) from rfl), gI_t (ly_t43 hC.1), hC.2.2.2.2.1.2.1]
    show TxO pl L r tp ln M _ (if tTk tp ln a = 35 then _ else _)
    by_cases e : tTk tp ln a = 35
    · rw [if_pos e, if_pos (show nI (tTk tp ln a) = (35 : Int32) by rw [e]; rfl), gI_t (ly_t43 hC.1), hC.2.2.2.1.1, if_pos (show nI 0 = (0 : Int32) from rfl), gR_t (ly_t43 hC.1), hC.2.2.1, cR_t t1]
      exact ⟨M, a, c, rfl, Fg.rf, h, hT, by have := hC.2.1.1; omega⟩
    · rw [if_neg e, if_neg (show ¬ nI (tTk tp ln a) = (35 : Int32) from nIne (b := 35) (by omega) (by decide) e), cR_t (ly_t43 hC.1)]
      have hcl := x_clause hr h hT.1 hc ha
      cases hp : pCl tp ln T a with
      | inl q =>
        rw [hp] at hcl
        obtain ⟨M1, b1, b2, b3⟩ := hcl
        refine ⟨M1, ?_, b2, b3⟩
        obtain ⟨f', rfl⟩ : ∃ f', f = f' + 1 := ⟨f - 1, by omega⟩
        rw [b1, cA_s, nI_1, show f_X5_read_33 (f' + 1) = b_X5_read_33 (f_X5_read_33 f') from rfl]
        unfold b_X5_read_33
        by_cases z : 300 < i + 1
        · rw [if_pos (show (300 : Int32) < nI (i + 1) from nI_lt (a := 300) z (by omega)), gI_t (ly_t43 b3.1), if_neg b3.nz, pI_t (ly_t43 b3.1)]
        · rw [if_neg (show ¬ (300 : Int32) < nI (i + 1) from nI_nlt (a := 300) (by omega) (by decide)), gI_t (ly_t43 b3.1), if_neg b3.nz, gI_t (ly_t43 b3.1), if_neg b3.nz, pI_t (ly_t43 b3.1)]
      | inr q =>
        rw [hp] at hcl
        obtain ⟨M1, b1, b2, b3⟩ := hcl
        obtain ⟨g1, g2, g3, g4, g5, g6, g7⟩ := pCl_ok ha hp
        have ih := x_tx hr n f (i + 1) q.1 (T ++ [q.2]) (c ++ cCd q.2) M1 (by omega) (by omega) (by omega) b3 (hT.snoc g4 g3 g6) (by rw [List.length_append]; omega) g2
        rw [b1, cA_s, nI_1]
        show TxO pl L r tp ln M _ (pTx tp ln n q.1 (T ++ [q.2]))
        cases hr2 : pTx tp ln n q.1 (T ++ [q.2]) with
        | inl e' =>
          rw [hr2] at ih
          obtain ⟨M2, y1, y2, y3⟩ := ih
          exact ⟨M2, y1, b2.tr y2, y3⟩
        | inr T' =>
          rw [hr2] at ih
          obtain ⟨M2, a2, c2, y1, y2, y3, y4⟩ := ih
          exact ⟨M2, a2, c2, y1, b2.tr y2, y3, y4⟩
end XTX
