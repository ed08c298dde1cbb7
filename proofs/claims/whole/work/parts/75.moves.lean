/-! ===== all moves, in the reference ===== -/
section MOD4
variable {w h L nt : Nat} {τ : Nat → Txt} {π : Pos}
/-- what the reference has laid out of a position -/
def LaidAt (C : Nat → Bst) (χ : Chi) (n : Nat) (M : Mem) : Prop := mI M 230 49 = nI (bS (fun m => decide (m < n) && χ m) 8) ∧ ∀ m, m < n → mI M 256 m = bF (C m) ∧ mI M 257 m = bG (C m) ∧ mI M 258 m = bK (C m)
theorem LaidAt.fx {C : Nat → Bst} {χ : Chi} {n : Nat} {M M' : Mem} {A : List Nat} {F : List (Nat × Nat)} (h' : LaidAt C χ n M) (fr : Fx A F M M') (hA : 230 ∉ A ∧ 256 ∉ A ∧ 257 ∉ A ∧ 258 ∉ A) (hF : ∀ q ∈ F, q ≠ (230, 49) ∧ q.1 ≠ 256 ∧ q.1 ≠ 257 ∧ q.1 ≠ 258) : LaidAt C χ n M' := by
  unfold LaidAt at *
  rw [fr.i hA.1 (fun q => (hF _ q).1 rfl), fr.ib ⟨hA.2.1, fun q hq => (hF q hq).2.1⟩, fr.ib ⟨hA.2.2.1, fun q hq => (hF q hq).2.2.1⟩, fr.ib ⟨hA.2.2.2, fun q hq => (hF q hq).2.2.2⟩]
  exact h'
theorem y_moves_l {x : Option Nat} (ok : okN w h π) (hx : okX nt x) : ∀ (j n m : Nat) (M : Mem), m + j = 8 → j < n → Bs w h L nt τ M → MPos π M → mI M 231 2 = oI x → LaidAt (canS w h (tT τ x) π) (ablS w h (tT τ x) π) m M → ∃ M', f_X12_laysMoves_7 n (some 230) (nI m) M = some ((), M') ∧ Fx mA mF M M' ∧ LaidAt (canS w h (tT τ x) π) (ablS w h (tT τ x) π) 8 M'
  | j, 0, m, M => fun _ q => absurd q (by omega)
  | 0, n + 1, m, M => by
    intro hm _ hb hM hB hL
    obtain rfl : m = 8 := by omega
    refine ⟨M, ?_, Fx.rf, hL⟩
    rw [u_X12_laysMoves_7]
    unfold b_X12_laysMoves_7
    rw [if_pos (by decide)]
  | j + 1, n + 1, m, M => by
    intro hm hn hb hM hB hL
    have hl := hb.lay
    have hm8 : m < 8 := by omega
    obtain ⟨M1, u1, u2, u3, u4, u5⟩ := y_canDo hb hM ok hx hm8 hB
    have fr1 : Fx mA mF M M1 := u2.mono (by decide) (by decide)
    have hb1 := hb.fx fr1 (by decide) (by decide)
    have hl1 := hb1.lay
    have hL1 := hL.fx u2 (by decide) (by decide)
    have hv := (hM.fx fr1 (by decide) (by decide)).2.1 m hm8
    have hc4 := ok.1.2.2.1 m
    sorry
end MOD4
