/-! ===== the reference keeps a text ===== -/
def KT (nt b j : Nat) : Prop := (b = 234 ∧ j = nt) ∨ (235 ≤ b ∧ b ≤ 240 ∧ 20 * nt ≤ j ∧ j < 20 * nt + 20) ∨ ((b = 241 ∨ b = 242) ∧ 400 * nt ≤ j ∧ j < 400 * nt + 400)
section YKEEP
variable {pl L nt : Nat}
theorem Lay.wz {M : Mem} {o k : Nat} {v : Int32} (hl : Lay pl L M) (ho : 200 ≤ o) : Lay pl L (sI M o k v) := by
  obtain ⟨l1, l2, l3, l4, l5, l6, l7, l8, l9, l10, l11, l12, l13⟩ := hl
  exact ⟨l1, l2, l3, l4, l5, fun r' hr' i hi => by
    rw [mI_na (by rcases ra_cases hr' with h | ⟨t, ht, h⟩ <;> omega)]; exact l6 r' hr' i hi, l7, l8, fun k => by rw [mI_na (by omega)]; exact l9 k, fun k => by rw [mI_na (by omega)]; exact l10 k, fun k => by rw [mI_na (by omega)]; exact l11 k, fun k => by rw [mI_na (by omega)]; exact l12 k, fun k => by rw [mI_na (by omega)]; exact l13 k⟩
theorem y_k154 {O : List (Nat × Nat)} (hnt : nt < 6) (hO : O.length ≤ 300) : ∀ (k f i : Nat) (M : Mem), i + k = O.length → k < f → Lay pl L M → mI M 230 38 = nI O.length → OuA M O → (∀ j p, j < i → O[j]? = some p → mI M 241 (400 * nt + j) = nI p.1 ∧ mI M 242 (400 * nt + j) = nI p.2) → ∃ M', f_X12_keepsText_154 f (some 230) (nI nt) (nI i) M = some ((), M') ∧ Fq (fun b j => (b = 241 ∨ b = 242) ∧ 400 * nt ≤ j ∧ j < 400 * nt + 400) M M' ∧ Lay pl L M' ∧ ∀ j p, O[j]? = some p → mI M' 241 (400 * nt + j) = nI p.1 ∧ mI M' 242 (400 * nt + j) = nI p.2
  | k, 0, i, M => fun _ z => absurd z (by omega)
  | 0, f + 1, i, M => by
    intro hi _ hl h38 hOu h
    refine ⟨M, ?_, Fq.rf, hl, fun j p hj => h j p ?_ hj⟩
    · rw [show f_X12_keepsText_154 (f + 1) = b_X12_keepsText_154 (f_X12_keepsText_154 f) from rfl]
      unfold b_X12_keepsText_154
      rw [gI_t (ly_t230 hl), h38, if_pos (nI_le (by omega) (by omega))]
    · obtain ⟨hk, -⟩ := List.getElem?_eq_some_iff.mp hj
      omega
  | k + 1, f + 1, i, M => by
    intro hi hf hl h38 hOu h
    obtain ⟨p, hp⟩ : ∃ p, O[i]? = some p := ⟨O[i]'(by omega), List.getElem?_eq_getElem (by omega)⟩
    obtain ⟨o1, o2⟩ := hOu i p hp
    have hl1 : Lay pl L (sI M 241 (400 * nt + i) (nI p.1)) := hl.wz (by decide)
    have hl2 : Lay pl L (sI (sI M 241 (400 * nt + i) (nI p.1)) 242 (400 * nt + i) (nI p.2)) := hl1.wz (by decide)
    have e1 : (400 : Int32) * nI nt + nI i = nI (400 * nt + i) := by rw [show (400 : Int32) = nI 400 from rfl, pk_mul, nI_add]
    obtain ⟨M', b1, b2, b3, b4⟩ := y_k154 hnt hO k f (i + 1) _ (by omega) (by omega) hl2 (by rw [mI_na (by decide), mI_na (by decide)]; exact h38) (fun j q hj => by rw [mI_na (b := 250) (by decide), mI_na (b := 250) (by decide), mI_na (b := 251) (by decide), mI_na (b := 251) (by decide)]; exact hOu j q hj) (fun j q hj hq => by
      by_cases z : j = i
      · subst z
        rw [hp] at hq
        cases hq
        exact ⟨by rw [mI_na (by decide), mI_e], mI_e⟩
      · rw [mI_nk (by omega), mI_nk (by omega), mI_nk (by omega), mI_nk (by omega)]
        exact h j q (by omega) hq)
    refine ⟨M', ?_, ((Fq.w ⟨Or.inl rfl, by omega, by omega⟩).tr (Fq.w ⟨Or.inr rfl, by omega, by omega⟩)).tr b2, b3, b4⟩
    rw [show f_X12_keepsText_154 (f + 1) = b_X12_keepsText_154 (f_X12_keepsText_154 f) from rfl]
    unfold b_X12_keepsText_154
    rw [gI_t (ly_t230 hl), h38, if_neg (nI_ge (by omega) (by omega)), gR_t (ly_t230 hl), ly_r230_16 hl, gR_t (ly_t230 hl), ly_r230_39 hl, aI_t (ly_t250 hl) (by omega) (by decide), o1, e1, wI_t (ly_t241 hl) (by omega) (by decide), gR_t (ly_t230 hl1), ly_r230_17 hl1, gR_t (ly_t230 hl1), ly_r230_40 hl1, aI_t (ly_t251 hl1) (by omega) (by decide), mI_na (by decide), o2, wI_t (ly_t242 hl1) (by omega) (by decide), nI_1]
    exact b1
end YKEEP
