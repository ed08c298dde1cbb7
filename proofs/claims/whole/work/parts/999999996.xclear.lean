/-! ===== the class clears a text's place ===== -/
section XCLEAR
variable {pl L r : Nat} {tp : Nat → Nat} {ln : Nat}
theorem x_clear33 (hr : isRA r) : ∀ (k f i : Nat) (M : Mem), i + k = 4 → k < f → Lay pl L M → (∀ y, y < i → mR M (r + 3) y = none) → ∃ M', f_X6_clear_33 f (some r) (nI i) M = some ((), M') ∧ Fg r M M' ∧ mI M' = mI M ∧ (∀ y, y < 4 → mR M' (r + 3) y = none) ∧ ∀ b j, b ≠ r + 3 → mR M' b j = mR M b j
  | k, 0, i, M => fun _ z => absurd z (by omega)
  | 0, f + 1, i, M => by
    intro hi _ hl h
    obtain ⟨t1, -, -, t4, -⟩ := ly_ra hl hr
    obtain rfl : i = 4 := by omega
    have r2 : mR M r 2 = some (r + 3) := (hl.2.2.2.2.1 r hr).2.2.1
    refine ⟨M, ?_, Fg.rf, rfl, h, fun _ _ _ => rfl⟩
    rw [show f_X6_clear_33 (f + 1) = b_X6_clear_33 (f_X6_clear_33 f) from rfl]
    unfold b_X6_clear_33
    rw [gR_t t1, r2, aN_t t4 (by decide) (by decide) (by decide), if_pos (Int32.le_refl _)]
  | k + 1, f + 1, i, M => by
    intro hi hf hl h
    obtain ⟨t1, -, -, t4, -⟩ := ly_ra hl hr
    have r2 : mR M r 2 = some (r + 3) := (hl.2.2.2.2.1 r hr).2.2.1
    have fr : Fg r M (sR M (r + 3) i none) := Fg.wR (Or.inr (Or.inr (Or.inl rfl)))
    obtain ⟨M', b1, b2, b3, b4, b5⟩ := x_clear33 hr k f (i + 1) (sR M (r + 3) i none) (by omega) (by omega) (hl.fg hr fr) (fun y hy => by
      rw [mR_s]
      by_cases z : y = i
      · rw [if_pos ⟨rfl, z⟩]
      · rw [if_neg (fun q => z q.2)]; exact h y (by omega))
    refine ⟨M', ?_, fr.tr b2, b3, b4, fun b j hb => by rw [b5 b j hb, mR_s, if_neg (fun q => hb q.1)]⟩
    rw [show f_X6_clear_33 (f + 1) = b_X6_clear_33 (f_X6_clear_33 f) from rfl]
    unfold b_X6_clear_33
    rw [gR_t t1, r2, aN_t t4 (by decide) (by decide) (by decide), if_neg (nI_ge (by omega) (by decide)), gR_t t1, r2, wR_t t4 (by omega) (by decide) (fun b hb => by cases hb), nI_1]
    exact b1
theorem x_clear12 (hr : isRA r) : ∀ (k f i : Nat) (M : Mem), i + k = 8 → k < f → Lay pl L M → (∀ m, m < i → mR M (r + 2) m = none) → ∃ M', f_X6_clear_12 f (some r) (nI i) M = some ((), M') ∧ Fg r M M' ∧ mI M' = mI M ∧ (∀ m, m < 8 → mR M' (r + 2) m = none) ∧ (∀ y, y < 4 → mR M' (r + 3) y = none) ∧ ∀ b j, b ≠ r + 2 → b ≠ r + 3 → mR M' b j = mR M b j
  | k, 0, i, M => fun _ z => absurd z (by omega)
  | 0, f + 1, i, M => by
    intro hi _ hl h
    obtain rfl : i = 8 := by omega
    obtain ⟨M', b1, b2, b3, b4, b5⟩ := x_clear33 hr 4 FU 0 M (by omega) (by decide) hl (fun y hy => absurd hy (by omega))
    refine ⟨M', ?_, b2, b3, fun m hm => by rw [b5 _ _ (by omega)]; exact h m hm, b4, fun b j _ hb => b5 b j hb⟩
    rw [show f_X6_clear_12 (f + 1) = b_X6_clear_12 (f_X6_clear_12 f) from rfl]
    unfold b_X6_clear_12
    rw [if_pos (by decide)]
    exact b1
  | k + 1, f + 1, i, M => by
    intro hi hf hl h
    obtain ⟨t1, -, t3, -⟩ := ly_ra hl hr
    have r1 : mR M r 1 = some (r + 2) := (hl.2.2.2.2.1 r hr).2.1
    have fr : Fg r M (sR M (r + 2) i none) := Fg.wR (Or.inr (Or.inl rfl))
    obtain ⟨M', b1, b2, b3, b4, b5, b6⟩ := x_clear12 hr k f (i + 1) (sR M (r + 2) i none) (by omega) (by omega) (hl.fg hr fr) (fun y hy => by
      rw [mR_s]
      by_cases z : y = i
      · rw [if_pos ⟨rfl, z⟩]
      · rw [if_neg (fun q => z q.2)]; exact h y (by omega))
    refine ⟨M', ?_, fr.tr b2, b3, b4, b5, fun b j h2 h3 => by rw [b6 b j h2 h3, mR_s, if_neg (fun q => h2 q.1)]⟩
    rw [show f_X6_clear_12 (f + 1) = b_X6_clear_12 (f_X6_clear_12 f) from rfl]
    unfold b_X6_clear_12
    rw [if_neg (show ¬ (8 : Int32) ≤ nI i from nI_ge (b := 8) (by omega) (by decide)), gR_t t1, r1, wR_t t3 (by omega) (by decide) (fun b hb => by cases hb), nI_1]
    exact b1
/-- the class begins to read and reads on -/
theorem x_read {M : Mem} (hr : isRA r) (hl : Lay pl L M) (hT : TpeX tp ln M) : TxO pl L r tp ln M (f_X5_read (some 43) (some r) M) (pTx tp ln 301 0 []) := by
  have h43 := ra_43 hr
  have hb := ra_blk hr hr (i := 2) (by omega)
  have hb3 := ra_blk hr hr (i := 3) (by omega)
  have f1 : Fg r M (sR M 43 4 (some r)) := Fg.wR (Or.inl ⟨rfl, rfl⟩)
  have f2 : Fg r M (sI (sI (sR M 43 4 (some r)) r 4 (nI 0)) r 5 (nI 0)) := (f1.tr (Fg.wI (Or.inr (Or.inl ⟨rfl, Or.inl rfl⟩)))).tr (Fg.wI (Or.inr (Or.inl ⟨rfl, Or.inr rfl⟩)))
  have hl1 := hl.fg hr f1
  have hl1' := hl.fg hr (f1.tr (Fg.wI (v := nI 0) (Or.inr (Or.inl ⟨rfl, Or.inl rfl⟩))))
  have hl2 := hl.fg hr f2
  obtain ⟨t1, -⟩ := ly_ra hl1 hr
  obtain ⟨t1', -⟩ := ly_ra hl1' hr
  obtain ⟨M3, b1, b2, b3, b4, b5, b6⟩ := x_clear12 hr 8 FU 0 _ (by omega) (by decide) hl2 (fun m hm => absurd hm (by omega))
  have f3 : Fg r M M3 := f2.tr b2
  have f4 : Fg r M (sI M3 43 2 (nI 0)) := f3.tr (Fg.wI (Or.inl ⟨rfl, by decide, by decide⟩))
  have f5 : Fg r M (sI (sI M3 43 2 (nI 0)) 43 3 m1) := f4.tr (Fg.wI (Or.inl ⟨rfl, by decide, by decide⟩))
  have f6 : Fg r M (sI (sI (sI M3 43 2 (nI 0)) 43 3 m1) 43 5 (nI 0)) := f5.tr (Fg.wI (Or.inl ⟨rfl, by decide, by decide⟩))
  have hl6 := hl.fg hr f6
  have m3 : ∀ b j, b ≠ r → mI M3 b j = mI M b j := fun b j hbr => by rw [b3, mI_na hbr, mI_na hbr]; rfl
  have hT6 : TpeX tp ln (sI (sI (sI M3 43 2 (nI 0)) 43 3 m1) 43 5 (nI 0)) := ⟨hT.1, by rw [mI_nk (by decide), mI_nk (by decide), mI_nk (by decide), m3 _ _ (by omega)]; exact hT.2.1, fun i hi => ⟨(hT.2.2 i hi).1, by rw [mI_na (by decide), mI_na (by decide), mI_na (by decide), m3 _ _ (by omega)]; exact (hT.2.2 i hi).2⟩⟩
  obtain ⟨M7, d1, d2, d3⟩ := x_advanceT hl6 hT6 (a := 0) mI_e (by omega)
  have c7 : TxX pl L r tp ln [] 0 [] M7 := by
    refine ⟨⟨hl6.lx d2, hT6.fx d2 (by decide) (by decide), ?_, ⟨?_, ?_⟩, d3, ?_, fun j hj => absurd hj (by simp)⟩, ?_, fun i d hd => by simp at hd, fun m hm => ?_, fun y hy => ?_⟩
    · rw [d2.2.2.1]
      show mR M3 43 4 = some r
      rw [b6 43 4 (by omega) (by omega)]
      show mR (sR M 43 4 (some r)) 43 4 = some r
      rw [mR_s, if_pos ⟨rfl, rfl⟩]
    · rw [d2.i (by simp) (by decide), mI_nk (by decide), mI_nk (by decide), mI_e]
    · rw [d2.i (by simp) (by decide), mI_nk (by decide), mI_e]
    · rw [d2.i (by simp) (by simp <;> omega), mI_na (by omega), mI_na (by omega), mI_na (by omega), b3, mI_e]; try rfl
    · rw [d2.i (by simp) (by simp <;> omega), mI_na (by omega), mI_na (by omega), mI_na (by omega), b3, mI_nk (by decide), mI_e]; try rfl
    · rw [d2.2.2.1]; exact b4 m hm
    · rw [d2.2.2.1]; exact b5 y hy
  have okn : okT [] := ⟨by simp, fun i c hc => by simp at hc, fun i j c d hc => by simp at hc⟩
  have h300 := hT.1
  have rd := x_tx hr 301 FU 0 0 [] [] M7 (by omega) (by decide) (by omega) c7 okn (by simp) (by omega)
  have f7 : Fg r M M7 := f6.tr (XFr.lx (r := r) d2).fg
  have start : f_X5_read (some 43) (some r) M = f_X5_read_33 FU (some 43) (nI 0) M7 := by
    unfold f_X5_read f_X6_clear
    rw [show (0 : Int32) = nI 0 from rfl, pR_t (ly_t43 hl), gR_t (ly_t43 hl1), mR_s, if_pos ⟨rfl, rfl⟩, cR_t t1, pI_t t1, pI_t t1', b1, cA_s, pI_t (ly_t43 (hl.fg hr f3)), pI_t (ly_t43 (hl.fg hr f4)), show (-1 : Int32) = m1 from rfl, pI_t (ly_t43 (hl.fg hr f5)), cR_t (ly_t43 hl6), d1, cA_s]
  rw [start]
  cases hr2 : pTx tp ln 301 0 [] with
  | inl e =>
    rw [hr2] at rd
    obtain ⟨M8, y1, y2, y3⟩ := rd
    exact ⟨M8, y1, f7.tr y2, y3⟩
  | inr T' =>
    rw [hr2] at rd
    obtain ⟨M8, a2, c2, y1, y2, y3, y4⟩ := rd
    exact ⟨M8, a2, c2, y1, f7.tr y2, y3, y4⟩
end XCLEAR
