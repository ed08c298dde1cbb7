/-! ===== the class adds a clause, and reads it ===== -/
section XCLAUSE4
variable {pl L r : Nat} {tp : Nat → Nat} {ln : Nat} {M M' : Mem}
theorem ClX.w4 {a : Nat} {c : List Nat} {v : Int32} (hr : isRA r) (h : ClX pl L r tp ln a c M) : ClX pl L r tp ln a c (sI M r 4 v) := by
  obtain ⟨c1, c2, c3, c4, c5, c6, c7⟩ := h
  have h43 := ra_43 hr
  have n43 : 43 ≠ r := by omega
  have n44 : 44 ≠ r := by omega
  refine ⟨c1.wo (by omega) (by decide), ⟨c2.1, by rw [mI_na n43]; exact c2.2.1, fun i hi => ⟨(c2.2.2 i hi).1, by rw [mI_na n44]; exact (c2.2.2 i hi).2⟩⟩, c3, ⟨by rw [mI_na n43]; exact c4.1, by rw [mI_na n43]; exact c4.2⟩, ?_, by rw [mI_nk (by decide)]; exact c6, fun j hj => by rw [mI_na (by omega)]; exact c7 j hj⟩
  unfold TkX at *
  rw [mI_na n43]
  exact c5
theorem ClX.wr {a y : Nat} {c : List Nat} {v : Option Nat} (hr : isRA r) (h : ClX pl L r tp ln a c M) : ClX pl L r tp ln a c (sR M (r + 3) y v) := by
  obtain ⟨c1, c2, c3, c4, c5, c6, c7⟩ := h
  have hb := ra_blk hr hr (i := 3) (by omega)
  exact ⟨c1.fg hr (Fg.wR (Or.inr (Or.inr (Or.inl rfl)))), c2, by rw [mR_s, if_neg (by omega)]; exact c3, c4, c5, c6, c7⟩
theorem x_add {T : Txt} {a t : Nat} {c : List Nat} (hr : isRA r) (h : TxX pl L r tp ln T a c M) (ht : t ≤ 36) (hT : T.length < 20) : ∃ M', f_X6_add (some r) (nI t) M = some (some (r + 5 + T.length), M') ∧ Fg r M M' ∧ ClX pl L r tp ln a c M' ∧ mI M' r 4 = nI (T.length + 1) ∧ mI M' (r + 5 + T.length) 1 = nI t ∧ mI M' (r + 5 + T.length) 6 = nI c.length ∧ (∀ i k, i < T.length → mI M' (r + 5 + i) k = mI M (r + 5 + i) k) ∧ (∀ m, mR M' (r + 2) m = mR M (r + 2) m) ∧ ∀ y, y < 4 → mR M' (r + 3) y = if t = 12 + y then some (r + 5 + T.length) else mR M (r + 3) y := by
  obtain ⟨t1, t2, t3, t4, t5, t6⟩ := ly_ra h.1.1 hr
  have hb0 := ra_43 hr
  have r0 : mR M r 0 = some (r + 1) := (h.1.1.2.2.2.2.1 r hr).1
  have r1 : mR M (r + 1) T.length = some (r + 5 + T.length) := (h.1.1.2.2.2.2.1 r hr).2.2.2.2 _ hT
  have c1 : ClX pl L r tp ln a c (sI M r 4 (nI (T.length + 1))) := h.1.w4 hr
  have c2 : ClX pl L r tp ln a c (sI (sI M r 4 (nI (T.length + 1))) (r + 5 + T.length) 1 (nI t)) := c1.wo hr hT (by decide)
  have c3 : ClX pl L r tp ln a c (sI (sI (sI M r 4 (nI (T.length + 1))) (r + 5 + T.length) 1 (nI t)) (r + 5 + T.length) 6 (nI c.length)) := c2.wo hr hT (by decide)
  obtain ⟨u1, -, -, -, -, u6⟩ := ly_ra c1.1 hr
  obtain ⟨v1, -, -, -, -, v6⟩ := ly_ra c2.1 hr
  obtain ⟨w1, w2, w3, w4, w5, w6⟩ := ly_ra c3.1 hr
  have fr : Fg r M (sI (sI (sI M r 4 (nI (T.length + 1))) (r + 5 + T.length) 1 (nI t)) (r + 5 + T.length) 6 (nI c.length)) := ((Fg.wI (Or.inr (Or.inl ⟨rfl, Or.inl rfl⟩))).tr (Fg.wI (Or.inr (Or.inr (Or.inr ⟨by omega, by omega, by decide⟩))))).tr (Fg.wI (Or.inr (Or.inr (Or.inr ⟨by omega, by omega, by decide⟩))))
  have m4 : mI (sI (sI (sI M r 4 (nI (T.length + 1))) (r + 5 + T.length) 1 (nI t)) (r + 5 + T.length) 6 (nI c.length)) r 4 = nI (T.length + 1) := by rw [mI_nk (by decide), mI_nk (by decide), mI_e]
  have m1' : mI (sI (sI (sI M r 4 (nI (T.length + 1))) (r + 5 + T.length) 1 (nI t)) (r + 5 + T.length) 6 (nI c.length)) (r + 5 + T.length) 1 = nI t := by rw [mI_nk (by decide), mI_e]
  have m6 : mI (sI (sI (sI M r 4 (nI (T.length + 1))) (r + 5 + T.length) 1 (nI t)) (r + 5 + T.length) 6 (nI c.length)) (r + 5 + T.length) 6 = nI c.length := mI_e
  have mo : ∀ i k, i < T.length → mI (sI (sI (sI M r 4 (nI (T.length + 1))) (r + 5 + T.length) 1 (nI t)) (r + 5 + T.length) 6 (nI c.length)) (r + 5 + i) k = mI M (r + 5 + i) k := fun i k hi => by rw [mI_na (by omega), mI_na (by omega), mI_na (by omega)]
  have mr : mR (sI (sI (sI M r 4 (nI (T.length + 1))) (r + 5 + T.length) 1 (nI t)) (r + 5 + T.length) 6 (nI c.length)) = mR M := rfl
  have start : f_X6_add (some r) (nI t) M = cA (f_X6_isSingle (nI t) (sI (sI (sI M r 4 (nI (T.length + 1))) (r + 5 + T.length) 1 (nI t)) (r + 5 + T.length) 6 (nI c.length))) (fun v7 M4 => if v7 = 0 then some (some (r + 5 + T.length), M4) else gR M4 (some r) 6 2 fun v8 => wR M4 v8 6 (nI t - (12 : Int32)) (some (r + 5 + T.length)) fun M5 => some (some (r + 5 + T.length), M5)) := by
    unfold f_X6_add
    rw [gI_t t1, h.2.1, if_pos (show nI T.length < (20 : Int32) from nI_lt (b := 20) hT (by decide)), gR_t t1, r0, gI_t t1, h.2.1, aR_t t2 hT (by decide), r1, gI_t t1, h.2.1, nI_1, pI_t t1, pI_t (u6 _ hT), gI_t v1, mI_na (by omega), mI_nk (by decide), h.1.2.2.2.2.2.1, pI_t (v6 _ hT)]
  generalize sI (sI (sI M r 4 (nI (T.length + 1))) (r + 5 + T.length) 1 (nI t)) (r + 5 + T.length) 6 (nI c.length) = M3 at c3 fr m4 m1' m6 mo mr start w1 w2 w3 w4 w5 w6
  rw [start, x_isSingle ht, cA_s]
  by_cases e : 12 ≤ t ∧ t ≤ 15
  · have r2 : mR M3 r 2 = some (r + 3) := (c3.1.2.2.2.2.1 r hr).2.2.1
    refine ⟨sR M3 (r + 3) (t - 12) (some (r + 5 + T.length)), ?_, fr.tr (Fg.wR (Or.inr (Or.inr (Or.inl rfl)))), c3.wr hr, m4, m1', m6, mo, fun m => by rw [mR_s, if_neg (by omega), mr], fun y hy => ?_⟩
    · rw [decide_eq_true e.1, decide_eq_true e.2, if_neg (by decide), gR_t w1, r2, show (12 : Int32) = nI 12 from rfl, pk_sub e.1, wR_t w4 (by omega) (by decide) (fun b hb => by cases hb; exact w6 _ hT)]
    · rw [mR_s, mr]
      by_cases z : t = 12 + y
      · rw [if_pos ⟨rfl, by omega⟩, if_pos z]
      · rw [if_neg (fun q => z (by omega)), if_neg z]
  · have : (decide (12 ≤ t) && decide (t ≤ 15)) = false := by
      rw [← Bool.not_eq_true, Bool.and_eq_true, decide_eq_true_eq, decide_eq_true_eq]; exact e
    refine ⟨M3, ?_, fr, c3, m4, m1', m6, mo, fun m => by rw [mr], fun y hy => ?_⟩
    · rw [this, if_pos (by decide)]
    · rw [mr, if_neg (by omega)]
theorem x_addN {T : Txt} {a t : Nat} {c : List Nat} (hr : isRA r) (h : TxX pl L r tp ln T a c M) (hT : T.length = 20) : f_X6_add (some r) (nI t) M = some (none, M) := by
  obtain ⟨t1, -⟩ := ly_ra h.1.1 hr
  unfold f_X6_add
  rw [gI_t t1, h.2.1, hT, if_neg (by decide)]
end XCLAUSE4
