/-! ===== the reference reads all clauses of a text ===== -/
section YTX
variable {pl L : Nat} {tp : Nat → Nat} {ln : Nat}
def TxR (pl L : Nat) (tp : Nat → Nat) (ln a : Nat) (M : Mem) (res : (Nat × Nat) ⊕ Txt) : Prop := match res with
  | .inl e => ∃ s M', s + 2 * a ≤ 2 * ln + 4 ∧ Rn s M M' ∧ Fx zA2 zF2 M M' ∧ FlM pl L e.1 (tSt tp ln e.2) tp ln M'
  | .inr T' => ∃ s M' O' a', s + 2 * a ≤ 2 * ln ∧ Rn s M M' ∧ Fx zA2 zF2 M M' ∧ CfM pl L tp ln 4 a' 0 [] [] O' M' ∧ tTk tp ln a' = 35 ∧ NwM T' O' M' ∧ okT T' ∧ O'.length ≤ 300
theorem y_tx (h300 : ln ≤ 300) : ∀ (n a : Nat) (T : Txt) (O : List (Nat × Nat)) (M : Mem), ln < a + n → CfM pl L tp ln 4 a 0 [] [] O M → NwM T O M → okT T → a ≤ ln → O.length ≤ a → TxR pl L tp ln a M (pTx tp ln n a T)
  | 0, a, T, O, M => fun z _ _ _ ha => absurd z (by omega)
  | n + 1, a, T, O, M => by
    intro hf h hN hT ha hO
    show TxR pl L tp ln a M (if tTk tp ln a = 35 then _ else _)
    by_cases e : tTk tp ln a = 35
    · rw [if_pos e]
      exact ⟨0, M, O, a, by omega, Rn.rf, Fx.rf, h, e, hN, hT, by omega⟩
    · rw [if_neg e]
      have hc := y_cl h300 h hN hT ha hO e
      cases hp : pCl tp ln T a with
      | inl q =>
        rw [hp] at hc
        obtain ⟨s, M', x1, x2, x3, x4⟩ := hc
        exact ⟨s, M', x1, x2, x3, x4⟩
      | inr q =>
        rw [hp] at hc
        obtain ⟨s, M1, O1, x1, x2, x3, x4, x5, x6⟩ := hc
        obtain ⟨g1, g2, g3, g4, g5, g6, g7⟩ := pCl_ok ha hp
        have ih := y_tx h300 n q.1 (T ++ [q.2]) O1 M1 (by omega) x4 x5 (hT.snoc g4 g3 g6) g2 x6
        show TxR pl L tp ln a M (pTx tp ln n q.1 (T ++ [q.2]))
        cases hr : pTx tp ln n q.1 (T ++ [q.2]) with
        | inl e' =>
          rw [hr] at ih
          obtain ⟨s2, M2, y1, y2, y3, y4⟩ := ih
          exact ⟨s + s2, M2, by omega, x2.tr y2, x3.tr y3, y4⟩
        | inr T' =>
          rw [hr] at ih
          obtain ⟨s2, M2, O2, a2, y1, y2, y3, y4, y5, y6, y7, y8⟩ := ih
          exact ⟨s + s2, M2, O2, a2, by omega, x2.tr y2, x3.tr y3, y4, y5, y6, y7, y8⟩
/-- the fault is told -/
theorem y_fin_f {k p : Nat} {M : Mem} (h : FlM pl L k p tp ln M) (f : Nat) : f_X12_text_75 (f + 1) (some 230) M = some (-1, sI (sI M 230 7 (nI k)) 230 8 (nI p)) := by
  have f1 : Fx [] [(230, 7)] M (sI M 230 7 (nI k)) := Fx.wI (Or.inr (by decide))
  have f2 : Fx [] [(230, 7), (230, 8)] M (sI (sI M 230 7 (nI k)) 230 8 (nI p)) := (Fx.wI (Or.inr (by decide))).I (Or.inr (by decide))
  have hl1 := h.1.fx f1 (by decide) (by decide)
  have hl2 := h.1.fx f2 (by decide) (by decide)
  rw [u_X12_text_75]
  unfold b_X12_text_75
  rw [gI_t (ly_t230 h.1), h.2.2.1, if_neg h.pos.1]
  unfold f_X12_text_167
  rw [gI_t (ly_t230 h.1), h.2.2.1, pI_t (ly_t230 h.1), gI_t (ly_t230 hl1), mI_nk (by decide), h.2.2.2.1, pI_t (ly_t230 hl1), gI_t (ly_t230 hl2), mI_nk (by decide), mI_nk (by decide), h.2.2.1, if_neg h.pos.2.2]
/-- all is read -/
theorem y_fin_g {a : Nat} {O : List (Nat × Nat)} {M : Mem} (h : CfM pl L tp ln 4 a 0 [] [] O M) (ht : tTk tp ln a = 35) (h24 : mI M 230 24 = m1) (f : Nat) : f_X12_text_75 (f + 1) (some 230) M = f_X12_text_167 (some 230) M := by
  rw [u_X12_text_75]
  unfold b_X12_text_75
  rw [gI_t (ly_t230 h.1), h.2.2.2.1.1, if_pos (show nI 0 = (0 : Int32) from rfl), gI_t (ly_t230 h.1), h.2.2.2.2.1, if_pos (show nI 4 = (4 : Int32) from rfl), gI_t (ly_t230 h.1), h.srt, ht, if_pos (show nI (srt 35) = (0 : Int32) from rfl)]
end YTX
