/-! ===== the reference decides all ===== -/
section MRES
variable {w h L nt : Nat} {τ : Nat → Txt} {n : Nat} {op : Nat → Chi} {tg : Nat → Nat} {O : Pos → Chi} {S : Pos → Nat → Nat → Pos} {Q : Nat → Pos}
theorem FoM.fx {M M' : Mem} {A : List Nat} {F : List (Nat × Nat)} (hF : FoM n op tg M) (fr : Fx A F M M') (h1 : 263 ∉ A ∧ ∀ q ∈ F, q.1 ≠ 263) (h2 : 264 ∉ A ∧ ∀ q ∈ F, q.1 ≠ 264) : FoM n op tg M' := by
  unfold FoM at *
  rw [fr.ib h1, fr.ib h2]
  exact hF
abbrev lrA : List Nat := [265, 266, 268]
/-- while the states below j are settled on a level -/
def LrI (O : Pos → Chi) (S : Pos → Nat → Nat → Pos) (Q : Nat → Pos) (n t j : Nat) (M : Mem) : Prop :=
  ∀ i, i < n → mI M 265 i = nI (rsS O S t (Q i)) ∧ (rsS O S t (Q i) ≠ 0 → mI M 266 i = nI (tiS O S t (Q i))) ∧ (i < j → rsS O S (t + 1) (Q i) ≠ 0 → mI M 266 i = nI (tiS O S (t + 1) (Q i))) ∧ mI M 268 i = nI (if i < j then rsS O S (t + 1) (Q i) else rsS O S t (Q i))
theorem LrI.rs {t j : Nat} {M : Mem} (ht : t ≤ 100000) (hI : LrI O S Q n t j M) : RsM n (fun i => rsS O S t (Q i)) (fun i => tiS O S t (Q i)) M := fun i hi => ⟨(hI i hi).1, rs_le t _, fun z => ⟨(hI i hi).2.1 z, by have := tm_le (O := O) (S := S) t (Q i); show tiS O S t (Q i) ≤ 100000; omega⟩⟩
theorem y_lr91 (hn : n ≤ 2000) (hG : Grf O S Q n op tg) {t : Nat} (ht : t ≤ 2001) {M0 : Mem} (g : Option Nat → Int32 → Int32 → Mem → Option (Int32 × Mem)) : ∀ (k f j : Nat) (mo : Bool) (M : Mem), j + k = n → k < f → Bs w h L nt τ M → FoM n op tg M → mI M 230 58 = nI n → LrI O S Q n t j M → (mo = true ↔ ∃ i, i < j ∧ rsS O S (t + 1) (Q i) ≠ rsS O S t (Q i)) → Fx lrA [] M0 M → ∃ M' mo', f_X12_laysResults_91 g f (some 230) (nI mo.toNat) (nI (t + 1)) (nI j) M = f_X12_laysResults_139 g FU (some 230) (nI (Bool.toNat mo')) (nI (t + 1)) (nI 0) M' ∧ LrI O S Q n t n M' ∧ (mo' = true ↔ ∃ i, i < n ∧ rsS O S (t + 1) (Q i) ≠ rsS O S t (Q i)) ∧ Fx lrA [] M0 M'
  | k, 0, j, mo, M => fun _ z => absurd z (by omega)
  | 0, f + 1, j, mo, M => by
    intro hj _ hb hF hs hI hmo fr
    obtain rfl : j = n := by omega
    have hl := hb.lay
    refine ⟨M, mo, ?_, hI, hmo, fr⟩
    rw [u_X12_laysResults_91]
    unfold b_X12_laysResults_91
    rw [gI_t (ly_t230 hl), hs, if_pos (Int32.le_refl _)]
    rfl
  | k + 1, f + 1, j, mo, M => by
    intro hj hf hb hF hs hI hmo fr
    have hl := hb.lay
    have hj' : j < n := by omega
    rw [u_X12_laysResults_91]
    unfold b_X12_laysResults_91
    rw [gI_t (ly_t230 hl), hs, if_neg (nI_ge (by omega) (by omega)), gR_t (ly_t230 hl), ly_r230_62 hl, aI_t (ly_t265 hl) (by omega) (by decide), (hI j hj').1]
    by_cases h0 : rsS O S t (Q j) = 0
    · have hR := hI.rs (by omega)
      have hset := y_settles (t := t + 1) hb hF hR hn hj' (by omega)
      have hdc := stl_dc (rr := fun i => rsS O S t (Q i)) (tm := fun i => tiS O S t (Q i)) (v := rsS O S t) (B := t + 1) hG hj' (by omega) (fun _ _ => rfl) (fun i _ _ => by have := tm_le (O := O) (S := S) t (Q i); show tiS O S t (Q i) < t + 1; omega)
      rw [← rs_sy h0] at hdc
      -- one more
      have step : ∀ (v : Nat), rsS O S (t + 1) (Q j) = v → v ≠ 0 → ∃ M' mo', f_X12_laysResults_91 g f (some 230) (nI true.toNat) (nI (t + 1)) (nI (j + 1)) (sI (sI M 266 j (nI (t + 1))) 268 j (nI v)) = f_X12_laysResults_139 g FU (some 230) (nI (Bool.toNat mo')) (nI (t + 1)) (nI 0) M' ∧ LrI O S Q n t n M' ∧ (mo' = true ↔ ∃ i, i < n ∧ rsS O S (t + 1) (Q i) ≠ rsS O S t (Q i)) ∧ Fx lrA [] M0 M' := by
        intro v hv hvn
        have f1 : Fx [266, 268] [] M (sI (sI M 266 j (nI (t + 1))) 268 j (nI v)) := (Fx.wI (Or.inl (by decide))).I (Or.inl (by decide))
        refine y_lr91 hn hG ht g k f (j + 1) true _ (by omega) (by omega) (hb.fx f1 (by decide) (by decide)) (hF.fx f1 (by decide) (by decide)) (by rw [f1.ib (by decide)]; exact hs) (fun i hi => ?_) ⟨fun _ => ⟨j, by omega, by rw [h0, hv]; exact hvn⟩, fun _ => rfl⟩ (fr.tr (f1.mono (by decide) (by decide)))
        obtain ⟨q1, q2, q3, q4⟩ := hI i hi
        rw [f1.ib (b := 265) (by decide), mI_na (show 266 ≠ 268 by decide)]
        by_cases e : i = j
        · subst e
          rw [mI_e, mI_e, if_pos (by omega), hv]
          exact ⟨q1, fun z => absurd h0 z, fun _ _ => by rw [tm_sy h0], rfl⟩
        · rw [mI_nk e, mI_nk e, mI_na (show 268 ≠ 266 by decide), q4]
          refine ⟨q1, q2, fun z => q3 (by omega), ?_⟩
          congr 1
          by_cases z : i < j
          · rw [if_pos z, if_pos (by omega)]
          · rw [if_neg z, if_neg (by omega)]
      rw [if_pos (show nI (rsS O S t (Q j)) = 0 by rw [h0]; rfl), cR_t (ly_t230 hl), hset]
      unfold stl
      cases hw : TQ.any (fun q => inq (op j) q && wiQ (fun i => rsS O S t (Q i)) (fun i => tiS O S t (Q i)) tg j (t + 1) q) with
      | true =>
        rw [hw, if_pos rfl] at hdc
        rw [if_pos rfl, cA_s, nI_1]
        cases mo with
        | true => rw [if_neg (by decide)]; exact step 1 hdc (by decide)
        | false => rw [if_pos (by decide), if_neg (by decide)]; exact step 1 hdc (by decide)
      | false =>
        rw [hw, if_neg (by decide)] at hdc
        rw [if_neg (show ¬ false = true by decide)]
        cases hlo : TQ.all (fun q => !inq (op j) q || loQ (fun i => rsS O S t (Q i)) (fun i => tiS O S t (Q i)) tg j (t + 1) q) with
        | true =>
          rw [hlo, if_pos rfl] at hdc
          rw [if_pos rfl, cA_s, nI_1]
          cases mo with
          | true => rw [if_neg (by decide)]; exact step 2 hdc (by decide)
          | false => rw [if_pos (by decide), if_neg (by decide)]; exact step 2 hdc (by decide)
        | false =>
          rw [hlo, if_neg (by decide)] at hdc
          rw [if_neg (show ¬ false = true by decide), cA_s, nI_1]
          have same : ∃ M' mo', f_X12_laysResults_91 g f (some 230) (nI mo.toNat) (nI (t + 1)) (nI (j + 1)) M = f_X12_laysResults_139 g FU (some 230) (nI (Bool.toNat mo')) (nI (t + 1)) (nI 0) M' ∧ LrI O S Q n t n M' ∧ (mo' = true ↔ ∃ i, i < n ∧ rsS O S (t + 1) (Q i) ≠ rsS O S t (Q i)) ∧ Fx lrA [] M0 M' := by
            refine y_lr91 hn hG ht g k f (j + 1) mo M (by omega) (by omega) hb hF hs (fun i hi => ?_) ?_ fr
            · obtain ⟨q1, q2, q3, q4⟩ := hI i hi
              refine ⟨q1, q2, fun z y => ?_, ?_⟩
              · by_cases e : i = j
                · subst e; exact absurd hdc y
                · exact q3 (by omega) y
              · rw [q4]
                congr 1
                by_cases e : i = j
                · subst e; rw [if_neg (by omega), if_pos (by omega), hdc, h0]
                · by_cases z : i < j
                  · rw [if_pos z, if_pos (by omega)]
                  · rw [if_neg z, if_neg (by omega)]
            · rw [hmo]
              constructor
              · rintro ⟨i, a, b⟩; exact ⟨i, by omega, b⟩
              · rintro ⟨i, a, b⟩
                by_cases e : i = j
                · subst e; rw [hdc, h0] at b; exact absurd rfl b
                · exact ⟨i, by omega, b⟩
          cases mo with
          | true => rw [if_neg (by decide)]; exact same
          | false => rw [if_pos (by decide), if_pos rfl]; exact same
    · rw [if_neg (ne_0 (by have := rs_le (O := O) (S := S) t (Q j); omega) h0), nI_1]
      have hk := rs_sn (S := S) h0
      refine y_lr91 hn hG ht g k f (j + 1) mo M (by omega) (by omega) hb hF hs (fun i hi => ?_) ?_ fr
      · obtain ⟨q1, q2, q3, q4⟩ := hI i hi
        refine ⟨q1, q2, fun z y => ?_, ?_⟩
        · by_cases e : i = j
          · subst e; rw [tm_sn h0]; exact q2 h0
          · exact q3 (by omega) y
        · rw [q4]
          congr 1
          by_cases e : i = j
          · subst e; rw [if_neg (by omega), if_pos (by omega), hk]
          · by_cases z : i < j
            · rw [if_pos z, if_pos (by omega)]
            · rw [if_neg z, if_neg (by omega)]
      · rw [hmo]
        constructor
        · rintro ⟨i, a, b⟩; exact ⟨i, by omega, b⟩
        · rintro ⟨i, a, b⟩
          by_cases e : i = j
          · subst e; exact absurd hk b
          · exact ⟨i, by omega, b⟩
theorem y_lr139 {v : Nat → Nat} (hn : n ≤ 2000) {mo : Int32} {t : Nat} {M0 : Mem} (g : Option Nat → Int32 → Int32 → Mem → Option (Int32 × Mem)) : ∀ (k f j : Nat) (M : Mem), j + k = n → k < f → Bs w h L nt τ M → mI M 230 58 = nI n → (∀ i, i < n → mI M 268 i = nI (v i)) → (∀ i, i < j → mI M 265 i = nI (v i)) → Fx [265] [] M0 M → ∃ M', f_X12_laysResults_139 g f (some 230) mo (nI (t + 1)) (nI j) M = g (some 230) mo (nI (t + 1 + 1)) M' ∧ (∀ i, i < n → mI M' 265 i = nI (v i)) ∧ Fx [265] [] M0 M'
  | k, 0, j, M => fun _ z => absurd z (by omega)
  | 0, f + 1, j, M => by
    intro hj _ hb hs hv hw fr
    obtain rfl : j = n := by omega
    have hl := hb.lay
    refine ⟨M, ?_, hw, fr⟩
    rw [u_X12_laysResults_139]
    unfold b_X12_laysResults_139
    rw [gI_t (ly_t230 hl), hs, if_pos (Int32.le_refl _), nI_1]
  | k + 1, f + 1, j, M => by
    intro hj hf hb hs hv hw fr
    have hl := hb.lay
    have f1 : Fx [265] [] M (sI M 265 j (nI (v j))) := Fx.wI (Or.inl (by decide))
    rw [u_X12_laysResults_139]
    unfold b_X12_laysResults_139
    rw [gI_t (ly_t230 hl), hs, if_neg (nI_ge (by omega) (by omega)), gR_t (ly_t230 hl), ly_r230_62 hl, gR_t (ly_t230 hl), ly_r230_65 hl, aI_t (ly_t268 hl) (by omega) (by decide), hv j (by omega), wI_t (ly_t265 hl) (by omega) (by decide), nI_1]
    refine y_lr139 hn g k f (j + 1) _ (by omega) (by omega) (hb.fx f1 (by decide) (by decide)) (by rw [f1.ib (by decide)]; exact hs) (fun i hi => by rw [f1.ib (by decide)]; exact hv i hi) (fun i hi => ?_) (fr.tr f1)
    by_cases e : i = j
    · subst e; exact mI_e
    · rw [mI_nk e]; exact hw i (by omega)
theorem y_lr83 (hn : n ≤ 2000) (hG : Grf O S Q n op tg) (hst : ∀ i, i < n → rsS O S 2001 (Q i) = rsS O S 2000 (Q i)) {M0 : Mem} : ∀ (k f t : Nat) (b : Bool) (M : Mem), t + k = 2001 → k < f → Bs w h L nt τ M → FoM n op tg M → mI M 230 58 = nI n → LrI O S Q n t 0 M → (b = true → t = 0 ∨ ∃ i, i < n ∧ rsS O S t (Q i) ≠ rsS O S (t - 1) (Q i)) → (b = false → 0 < t ∧ ∀ i, i < n → rsS O S t (Q i) = rsS O S (t - 1) (Q i)) → Fx lrA [] M0 M → ∃ M', f_X12_laysResults_83 f (some 230) (nI b.toNat) (nI (t + 1)) M = some (nI 1, M') ∧ Fx lrA [] M0 M' ∧ RsM n (fun i => rsS O S 2000 (Q i)) (fun i => tiS O S 2000 (Q i)) M'
  | k, 0, t, b, M => fun _ z => absurd z (by omega)
  | k, f + 1, t, false, M => by
    intro ht hf hb hF hs hI _ hbf fr
    obtain ⟨t0, hno⟩ := hbf rfl
    obtain ⟨u, rfl⟩ : ∃ u, t = u + 1 := ⟨t - 1, by omega⟩
    rw [Nat.add_sub_cancel] at hno
    have hsb := rs_stab (O := O) (S := S) (fun π => ∃ i, i < n ∧ Q i = π) (fun π no dn hp h1 h2 he => by
      obtain ⟨i, hi, rfl⟩ := hp
      obtain ⟨-, g1, g2⟩ := hG.ex hi h1 h2 he
      exact ⟨_, g1, g2⟩) (t := u) (fun π hp => by
      obtain ⟨i, hi, rfl⟩ := hp
      exact hno i hi)
    refine ⟨M, ?_, fr, fun i hi => ?_⟩
    · rw [u_X12_laysResults_83]
      unfold b_X12_laysResults_83
      rw [if_pos (by decide), tv_1]
      rfl
    · obtain ⟨q1, q2, -, -⟩ := hI i hi
      have e0 : rsS O S 2000 (Q i) = rsS O S u (Q i) := by
        have := hsb (2000 - u) (Q i) ⟨i, hi, rfl⟩
        rwa [show u + (2000 - u) = 2000 by omega] at this
      have e1 := hno i hi
      refine ⟨?_, rs_le _ _, fun z => ?_⟩
      · show mI M 265 i = nI (rsS O S 2000 (Q i))
        rw [q1, e0, e1]
      · have z : rsS O S 2000 (Q i) ≠ 0 := z
        rw [e0] at z
        have z1 : rsS O S (u + 1) (Q i) ≠ 0 := by rw [e1]; exact z
        have a1 : tiS O S 2000 (Q i) = tiS O S u (Q i) := tm_up z (by omega)
        have a2 : tiS O S (u + 1) (Q i) = tiS O S u (Q i) := tm_up z (by omega)
        have a3 := tm_le (O := O) (S := S) 2000 (Q i)
        refine ⟨?_, by show tiS O S 2000 (Q i) ≤ 100000; omega⟩
        show mI M 266 i = nI (tiS O S 2000 (Q i))
        rw [q2 z1, a1, a2]
  | k, f + 1, t, true, M => by
    intro ht hf hb hF hs hI hbt _ fr
    have ht2 : t < 2001 := by
      rcases hbt rfl with z | ⟨i, hi, z⟩
      · omega
      · apply Classical.byContradiction
        intro y
        obtain rfl : t = 2001 := by omega
        exact z (hst i hi)
    match k, ht, hf with
    | 0, ht, _ => exact absurd ht (by omega)
    | k + 1, ht, hf =>
    obtain ⟨M1, mo, a1, a2, a3, a4⟩ := y_lr91 (w := w) (h := h) (L := L) (nt := nt) (τ := τ) hn hG (t := t) (by omega) (M0 := M) (f_X12_laysResults_83 f) n FU 0 false M (by omega) (by unfold FU; omega) hb hF hs hI ⟨fun z => (by cases z), fun ⟨i, z, _⟩ => absurd z (by omega)⟩ Fx.rf
    have hb1 := hb.fx a4 (by decide) (by decide)
    obtain ⟨M2, c1, c2, c3⟩ := y_lr139 (w := w) (h := h) (L := L) (nt := nt) (τ := τ) (v := fun i => rsS O S (t + 1) (Q i)) (mo := nI mo.toNat) (t := t) hn (M0 := M1) (f_X12_laysResults_83 f) n FU 0 M1 (by omega) (by unfold FU; omega) hb1 (by rw [a4.ib (by decide)]; exact hs) (fun i hi => by rw [(a2 i hi).2.2.2, if_pos hi]) (fun i hi => absurd hi (by omega)) Fx.rf
    have f2 : Fx lrA [] M M2 := a4.tr (c3.mono (by decide) (by decide))
    obtain ⟨M', z1, z2⟩ := y_lr83 hn hG hst k f (t + 1) mo M2 (by omega) (by omega) (hb.fx f2 (by decide) (by decide)) (hF.fx f2 (by decide) (by decide)) (by rw [f2.ib (by decide)]; exact hs) (fun i hi => by
      obtain ⟨-, -, q3, q4⟩ := a2 i hi
      refine ⟨c2 i hi, fun z => by rw [c3.ib (by decide)]; exact q3 hi z, fun z => absurd z (by omega), ?_⟩
      rw [c3.ib (by decide), q4, if_pos hi, if_neg (by omega)]) (fun z => Or.inr (by rw [Nat.add_sub_cancel]; exact a3.mp z)) (fun z => ⟨by omega, fun i hi => by
      rw [Nat.add_sub_cancel]
      apply Classical.byContradiction
      intro y
      rw [a3.mpr ⟨i, hi, y⟩] at z
      cases z⟩) (fr.tr f2)
    refine ⟨M', ?_, z2⟩
    rw [u_X12_laysResults_83]
    unfold b_X12_laysResults_83
    rw [if_neg (by decide)]
    refine Eq.trans a1 (Eq.trans c1 z1)
theorem y_lr11 (hn : n ≤ 2000) (hG : Grf O S Q n op tg) (hst : ∀ i, i < n → rsS O S 2001 (Q i) = rsS O S 2000 (Q i)) {M0 : Mem} : ∀ (k f j : Nat) (M : Mem), j + k = n → k < f → Bs w h L nt τ M → FoM n op tg M → mI M 230 58 = nI n → (∀ i, i < j → mI M 265 i = nI (rsS O S 0 (Q i)) ∧ (rsS O S 0 (Q i) ≠ 0 → mI M 266 i = nI 0) ∧ mI M 268 i = nI (rsS O S 0 (Q i))) → Fx lrA [] M0 M → ∃ M', f_X12_laysResults_11 f (some 230) (nI j) M = some (nI 1, M') ∧ Fx lrA [] M0 M' ∧ RsM n (fun i => rsS O S 2000 (Q i)) (fun i => tiS O S 2000 (Q i)) M'
  | k, 0, j, M => fun _ z => absurd z (by omega)
  | 0, f + 1, j, M => by
    intro hj _ hb hF hs hV fr
    obtain rfl : j = n := by omega
    have hl := hb.lay
    rw [u_X12_laysResults_11]
    unfold b_X12_laysResults_11
    rw [gI_t (ly_t230 hl), hs, if_pos (Int32.le_refl _)]
    exact y_lr83 hn hG hst 2001 FU 0 true M (by omega) (by decide) hb hF hs (fun i hi => ⟨(hV i hi).1, (hV i hi).2.1, fun z => absurd z (by omega), by rw [if_neg (by omega)]; exact (hV i hi).2.2⟩) (fun _ => Or.inl rfl) (fun z => by cases z) fr
  | k + 1, f + 1, j, M => by
    intro hj hf hb hF hs hV fr
    have hl := hb.lay
    have hj' : j < n := by omega
    have go : ∀ (a b : Nat), (a = rsS O S 0 (Q j)) → (rsS O S 0 (Q j) ≠ 0 → b = 0) → ∃ M', f_X12_laysResults_11 f (some 230) (nI (j + 1)) (sI (sI (sI M 265 j (nI a)) 266 j (nI b)) 268 j (nI a)) = some (nI 1, M') ∧ Fx lrA [] M0 M' ∧ RsM n (fun i => rsS O S 2000 (Q i)) (fun i => tiS O S 2000 (Q i)) M' := by
      intro a b ha hb0
      have f1 : Fx lrA [] M (sI (sI (sI M 265 j (nI a)) 266 j (nI b)) 268 j (nI a)) := ((Fx.wI (Or.inl (by decide))).I (Or.inl (by decide))).I (Or.inl (by decide))
      refine y_lr11 hn hG hst k f (j + 1) _ (by omega) (by omega) (hb.fx f1 (by decide) (by decide)) (hF.fx f1 (by decide) (by decide)) (by rw [f1.ib (by decide)]; exact hs) (fun i hi => ?_) (fr.tr f1)
      rw [mI_na (show 265 ≠ 268 by decide), mI_na (show 265 ≠ 266 by decide), mI_na (show 266 ≠ 268 by decide)]
      by_cases e : i = j
      · subst e
        rw [mI_e, mI_e, mI_e, ha]
        exact ⟨rfl, fun z => by rw [hb0 z], rfl⟩
      · rw [mI_nk e, mI_nk e, mI_na (show 266 ≠ 265 by decide), mI_nk e, mI_na (show 268 ≠ 266 by decide), mI_na (show 268 ≠ 265 by decide)]
        exact hV i (by omega)
    have o1 := hF.1 j hj'
    rw [u_X12_laysResults_11]
    unfold b_X12_laysResults_11 f_X12_laysResults_38
    rw [gI_t (ly_t230 hl), hs, if_neg (nI_ge (by omega) (by omega)), gR_t (ly_t230 hl), ly_r230_62 hl, gR_t (ly_t230 hl), ly_r230_60 hl, aI_t (ly_t263 hl) (by omega) (by decide), o1]
    have key : ∀ (a : Nat), ∃ hb1 : Bs w h L nt τ (sI M 265 j (nI a)), mI (sI M 265 j (nI a)) 263 j = nI (bS (op j) 8) ∧ ∀ b : Nat, Bs w h L nt τ (sI (sI M 265 j (nI a)) 266 j (nI b)) ∧ mI (sI (sI M 265 j (nI a)) 266 j (nI b)) 265 j = nI a := by
      intro a
      have f1 : Fx lrA [] M (sI M 265 j (nI a)) := Fx.wI (Or.inl (by decide))
      exact ⟨hb.fx f1 (by decide) (by decide), by rw [mI_na (by decide)]; exact o1, fun b => ⟨hb.fx (f1.I (Or.inl (by decide))) (by decide) (by decide), by rw [mI_na (by decide), mI_e]⟩⟩
    cases hz : any8 (op j) with
    | false =>
      have hc : nI (bS (op j) 8) = 0 := bS_z.mpr hz
      obtain ⟨hb1, e1, hb2⟩ := key 1
      obtain ⟨hb3, e2⟩ := hb2 0
      rw [if_pos hc, show (1 : Int32) = nI 1 from rfl, wI_t (ly_t265 hl) (by omega) (by decide), gR_t (ly_t230 hb1.lay), ly_r230_63 hb1.lay, gR_t (ly_t230 hb1.lay), ly_r230_60 hb1.lay, aI_t (ly_t263 hb1.lay) (by omega) (by decide), e1, if_pos hc, show (0 : Int32) = nI 0 from rfl, wI_t (ly_t266 hb1.lay) (by omega) (by decide), gR_t (ly_t230 hb3.lay), ly_r230_65 hb3.lay, gR_t (ly_t230 hb3.lay), ly_r230_62 hb3.lay, aI_t (ly_t265 hb3.lay) (by omega) (by decide), e2, wI_t (ly_t268 hb3.lay) (by omega) (by decide), show nI j + nI 1 = nI (j + 1) from nI_1 j]
      exact go 1 0 (by rw [rs_0, ← hG.1 j hj', if_pos hz]) (fun _ => rfl)
    | true =>
      have hc : ¬ nI (bS (op j) 8) = 0 := fun z => by rw [bS_z.mp z] at hz; cases hz
      obtain ⟨hb1, e1, hb2⟩ := key 0
      obtain ⟨hb3, e2⟩ := hb2 100000
      have r0 : rsS O S 0 (Q j) = 0 := by rw [rs_0, ← hG.1 j hj', if_neg (by rw [hz]; decide)]
      rw [if_neg hc, show wI M (some 265) 2 (nI j) (0 : Int32) = wI M (some 265) 2 (nI j) (nI 0) from rfl, wI_t (ly_t265 hl) (by omega) (by decide), gR_t (ly_t230 hb1.lay), ly_r230_63 hb1.lay, gR_t (ly_t230 hb1.lay), ly_r230_60 hb1.lay, aI_t (ly_t263 hb1.lay) (by omega) (by decide), e1, if_neg hc, show (100000 : Int32) = nI 100000 from rfl, wI_t (ly_t266 hb1.lay) (by omega) (by decide), gR_t (ly_t230 hb3.lay), ly_r230_65 hb3.lay, gR_t (ly_t230 hb3.lay), ly_r230_62 hb3.lay, aI_t (ly_t265 hb3.lay) (by omega) (by decide), e2, wI_t (ly_t268 hb3.lay) (by omega) (by decide), nI_1]
      exact go 0 100000 r0.symm (fun z => absurd r0 z)
end MRES
