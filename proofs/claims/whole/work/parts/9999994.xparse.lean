/-! ===== the class reads sums and eithers ===== -/
def XP (r b j : Nat) : Prop := (b = 43 ∧ (j = 2 ∨ j = 3 ∨ j = 5 ∨ j = 6 ∨ j = 7 ∨ j = 8)) ∨ b = r + 4 ∨ (b = r ∧ j = 5)
def XFr (r : Nat) (M M' : Mem) : Prop := mT M' = mT M ∧ mZ M' = mZ M ∧ mR M' = mR M ∧ ∀ b j, ¬ XP r b j → mI M' b j = mI M b j ∧ mL M' b j = mL M b j
section XPARSE
variable {pl L r : Nat} {tp : Nat → Nat} {ln : Nat} {M M' M'' : Mem}
theorem XFr.rf : XFr r M M := ⟨rfl, rfl, rfl, fun _ _ _ => ⟨rfl, rfl⟩⟩
theorem XFr.tr (h : XFr r M M') (h' : XFr r M' M'') : XFr r M M'' := ⟨h'.1.trans h.1, h'.2.1.trans h.2.1, h'.2.2.1.trans h.2.2.1, fun b j hb => ⟨((h'.2.2.2 b j hb).1).trans (h.2.2.2 b j hb).1, ((h'.2.2.2 b j hb).2).trans (h.2.2.2 b j hb).2⟩⟩
theorem XFr.i (h : XFr r M M') {b j : Nat} (hb : ¬ XP r b j) : mI M' b j = mI M b j := (h.2.2.2 b j hb).1
theorem XFr.lx (h : Fx [] lxF M M') : XFr r M M' := ⟨h.1, h.2.1, h.2.2.1, fun b j hb => h.2.2.2 b j (by simp) (fun z => hb (by
  simp only [List.mem_cons, Prod.mk.injEq, List.not_mem_nil, or_false] at z
  unfold XP
  omega))⟩
theorem XFr.w {a k : Nat} {v : Int32} (hh : XP r a k) : XFr r M (sI M a k v) := ⟨rfl, rfl, rfl, fun b j hb => ⟨by
  rw [mI_s, if_neg]
  rintro ⟨rfl, rfl⟩
  exact hb hh, rfl⟩⟩
theorem XFr.I {a k : Nat} {v : Int32} (h : XFr r M M') (hh : XP r a k) : XFr r M (sI M' a k v) := h.tr (XFr.w hh)
theorem ra_cases {r : Nat} (hr : isRA r) : r = 18 ∨ ∃ t, t < 6 ∧ r = 50 + 25 * t := by
  rcases hr with h | ⟨t, ht, h⟩
  · exact Or.inl h
  · exact Or.inr ⟨t, ht, h⟩
theorem ra_blk {r r' i : Nat} (hr : isRA r) (hr' : isRA r') (hi : i < 25) : (r' + i = r + 4 → r' = r ∧ i = 4) ∧ (r' + i = r → r' = r ∧ i = 0) ∧ r' + i ≠ 43 ∧ r' + i ≠ 44 ∧ 18 ≤ r' := by
  rcases ra_cases hr with h | ⟨t, ht, h⟩ <;> rcases ra_cases hr' with h' | ⟨u, hu, h'⟩ <;> omega
theorem Lay.xf (hr : isRA r) (hl : Lay pl L M) (fr : XFr r M M') : Lay pl L M' := by
  obtain ⟨l1, l2, l3, l4, l5, l6, l7, l8, l9, l10, l11, l12, l13⟩ := hl
  have e := fr.2.2.1
  have h18 : 18 ≤ r := by rcases ra_cases hr with h | ⟨t, ht, h⟩ <;> omega
  have low : ∀ b j, b < 18 → mI M' b j = mI M b j := fun b j hb => fr.i (by unfold XP; omega)
  refine ⟨by rw [fr.1]; exact l1, by rw [fr.2.1]; exact l2, by rw [e]; exact l3, by rw [e]; exact l4, by rw [e]; exact l5, fun r' hr' i hi => ?_, by rw [e]; exact l7, by rw [e]; exact l8, fun k => by rw [low 1 k (by omega)]; exact l9 k, fun k => by rw [low 4 k (by omega)]; exact l10 k, fun k => by rw [low 5 k (by omega)]; exact l11 k, fun k => by rw [low 2 k (by omega)]; exact l12 k, fun k => by rw [low 3 k (by omega)]; exact l13 k⟩
  rw [fr.i (by
    have := ra_blk hr hr' (i := 5 + i) (by omega)
    unfold XP
    omega)]
  exact l6 r' hr' i hi
theorem TpeX.xf (hr : isRA r) (h : TpeX tp ln M) (fr : XFr r M M') : TpeX tp ln M' := by
  have h18 : r ≠ 43 ∧ r ≠ 44 ∧ r + 4 ≠ 43 ∧ r + 4 ≠ 44 := by rcases ra_cases hr with h | ⟨t, ht, h⟩ <;> omega
  refine ⟨h.1, ?_, fun i hi => ⟨(h.2.2 i hi).1, ?_⟩⟩
  · rw [fr.i (by unfold XP; omega)]; exact h.2.1
  · rw [fr.i (by unfold XP; omega)]; exact (h.2.2 i hi).2
/-- the class stands at a token, with so much code behind it -/
def ClX (pl L r : Nat) (tp : Nat → Nat) (ln a : Nat) (c : List Nat) (M : Mem) : Prop := Lay pl L M ∧ TpeX tp ln M ∧ mR M 43 4 = some r ∧ (mI M 43 2 = nI 0 ∧ mI M 43 3 = m1) ∧ TkX tp ln a M ∧ mI M r 5 = nI c.length ∧ ∀ j, j < c.length → mI M (r + 4) j = nI (c.getD j 0)
/-- the class has found a fault -/
def FlX (pl L r : Nat) (tp : Nat → Nat) (ln f p : Nat) (M : Mem) : Prop := Lay pl L M ∧ TpeX tp ln M ∧ mR M 43 4 = some r ∧ (0 < f ∧ f < 10) ∧ mI M 43 2 = nI f ∧ mI M 43 3 = nI p ∧ ∃ n, n ≤ 300 ∧ mI M r 5 = nI n
theorem ra_43 (hr : isRA r) : r ≠ 43 ∧ r ≠ 44 ∧ r + 4 ≠ 43 ∧ r + 4 ≠ 44 ∧ 18 ≤ r := by rcases ra_cases hr with h | ⟨t, ht, h⟩ <;> omega
theorem x_emit_c {a v : Nat} {c : List Nat} (hr : isRA r) (hC : ClX pl L r tp ln a c M) (hc : c.length < 300) : ∃ M', f_X6_emit (some r) (nI v) M = some ((), M') ∧ XFr r M M' ∧ ClX pl L r tp ln a (c ++ [v]) M' := by
  obtain ⟨c1, c2, c3, c4, c5, c6, c7⟩ := hC
  obtain ⟨t1, t2, t3, t4, t5, t6⟩ := ly_ra c1 hr
  have r3 : mR M r 3 = some (r + 4) := (c1.2.2.2.2.1 r hr).2.2.2.1
  have h43 := ra_43 hr
  have f1 : XFr r M (sI M (r + 4) c.length (nI v)) := XFr.w (Or.inr (Or.inl rfl))
  have f2 : XFr r M (sI (sI M (r + 4) c.length (nI v)) r 5 (nI (c.length + 1))) := f1.I (Or.inr (Or.inr ⟨rfl, rfl⟩))
  obtain ⟨k1, k2, k3, k4⟩ := c5
  refine ⟨_, ?_, f2, c1.xf hr f2, c2.xf hr f2, c3, ?_, ⟨?_, ?_, ?_, fun z => ?_⟩, ?_, fun j hj => ?_⟩
  · unfold f_X6_emit
    rw [gI_t t1, c6, gR_t t1, r3, aN_t t5 (by decide) (by decide) (by decide), if_neg (nI_ge hc (by decide)), gR_t t1, r3, gI_t t1, c6, wI_t t5 hc (by decide), gI_t (M := sI M (r + 4) c.length (nI v)) t1, mI_na (by omega), c6, nI_1, pI_t (M := sI M (r + 4) c.length (nI v)) t1]
  · exact ⟨by rw [mI_na (by omega), mI_na (by omega)]; exact c4.1, by rw [mI_na (by omega), mI_na (by omega)]; exact c4.2⟩
  · rw [mI_na (by omega), mI_na (by omega)]; exact k1
  · rw [mI_na (by omega), mI_na (by omega)]; exact k2
  · rw [mI_na (by omega), mI_na (by omega)]; exact k3
  · rw [mI_na (by omega), mI_na (by omega)]; exact k4 z
  · rw [mI_e, List.length_append]; rfl
  · rw [List.length_append] at hj
    simp only [List.length_singleton] at hj
    rw [mI_na (by omega), getD_app]
    by_cases e : j = c.length
    · subst e; rw [mI_e, if_neg (by omega), if_pos rfl]
    · rw [mI_nk e, if_pos (by omega)]; exact c7 j (by omega)
theorem x_emit_f {f p : Nat} {v : Int32} (hr : isRA r) (hF : FlX pl L r tp ln f p M) : ∃ M', f_X6_emit (some r) v M = some ((), M') ∧ XFr r M M' ∧ FlX pl L r tp ln f p M' := by
  obtain ⟨c1, c2, c3, c4, c5, c6, n, n1, n2⟩ := id hF
  obtain ⟨t1, t2, t3, t4, t5, t6⟩ := ly_ra c1 hr
  have r3 : mR M r 3 = some (r + 4) := (c1.2.2.2.2.1 r hr).2.2.2.1
  have h43 := ra_43 hr
  unfold f_X6_emit
  rw [gI_t t1, n2, gR_t t1, r3, aN_t t5 (by decide) (by decide) (by decide)]
  by_cases hn : n < 300
  · have f1 : XFr r M (sI M (r + 4) n v) := XFr.w (Or.inr (Or.inl rfl))
    have f2 : XFr r M (sI (sI M (r + 4) n v) r 5 (nI (n + 1))) := f1.I (Or.inr (Or.inr ⟨rfl, rfl⟩))
    refine ⟨_, ?_, f2, c1.xf hr f2, c2.xf hr f2, c3, c4, ?_, ?_, n + 1, by omega, mI_e⟩
    · rw [if_neg (nI_ge hn (by decide)), gR_t t1, r3, gI_t t1, n2, wI_t t5 hn (by decide), gI_t (M := sI M (r + 4) n v) t1, mI_na (by omega), n2, nI_1, pI_t (M := sI M (r + 4) n v) t1]
    · rw [mI_na (by omega), mI_na (by omega)]; exact c5
    · rw [mI_na (by omega), mI_na (by omega)]; exact c6
  · refine ⟨M, ?_, XFr.rf, hF⟩
    rw [if_pos (nI_le (by omega) (by omega))]
theorem x_adv_c {a : Nat} {c : List Nat} (hr : isRA r) (hC : ClX pl L r tp ln a c M) (ha : a ≤ ln) : ∃ M', f_X5_advance (some 43) M = some ((), M') ∧ XFr r M M' ∧ ClX pl L r tp ln (tNx tp ln a) c M' := by
  obtain ⟨c1, c2, c3, c4, c5, c6, c7⟩ := hC
  have h43 := ra_43 hr
  obtain ⟨M1, a1, a2, a3⟩ := x_advanceT c1 c2 c5.1 (tNx_b ha).1
  refine ⟨M1, a1, XFr.lx a2, c1.lx a2, c2.fx a2 (by decide) (by decide), by rw [a2.2.2.1]; exact c3, ⟨by rw [a2.i (by simp) (by decide)]; exact c4.1, by rw [a2.i (by simp) (by decide)]; exact c4.2⟩, a3, ?_, fun j hj => ?_⟩
  · rw [a2.i (by simp) (by simp; omega)]; exact c6
  · rw [a2.i (by simp) (by simp; omega)]; exact c7 j hj
theorem x_fail_c {a k : Nat} {c : List Nat} (hr : isRA r) (hC : ClX pl L r tp ln a c M) (hc : c.length ≤ 300) (hk : 0 < k ∧ k < 10) : ∃ M', f_X5_fail (some 43) (nI k) M = some ((), M') ∧ XFr r M M' ∧ FlX pl L r tp ln k (tSt tp ln a) M' := by
  obtain ⟨c1, c2, c3, c4, c5, c6, c7⟩ := hC
  have h43 := ra_43 hr
  have f1 : XFr r M (sI M 43 2 (nI k)) := XFr.w (Or.inl ⟨rfl, by omega⟩)
  have f2 : XFr r M (sI (sI M 43 2 (nI k)) 43 3 (nI (tSt tp ln a))) := f1.I (Or.inl ⟨rfl, by omega⟩)
  have hl1 := c1.xf hr f1
  refine ⟨_, ?_, f2, c1.xf hr f2, c2.xf hr f2, c3, hk, ?_, mI_e, c.length, hc, ?_⟩
  · unfold f_X5_fail
    rw [gI_t (ly_t43 c1), c4.1, if_pos (show nI 0 = (0 : Int32) from rfl), pI_t (ly_t43 c1), gI_t (ly_t43 hl1), mI_nk (by decide), c5.2.2.1, pI_t (ly_t43 hl1)]
  · rw [mI_nk (by decide), mI_e]
  · rw [mI_na (by omega), mI_na (by omega)]; exact c6
theorem FlX.nz {f p : Nat} (hF : FlX pl L r tp ln f p M) : ¬ mI M 43 2 = 0 := by rw [hF.2.2.2.2.1]; exact ne_0 (by have := hF.2.2.2.1; omega) (by have := hF.2.2.2.1; omega)
theorem x_fail_f {f p : Nat} {k : Int32} (hF : FlX pl L r tp ln f p M) : f_X5_fail (some 43) k M = some ((), M) := by
  unfold f_X5_fail
  rw [gI_t (ly_t43 hF.1), if_neg hF.nz]
theorem x_expect_f {f p : Nat} {k : Int32} (hF : FlX pl L r tp ln f p M) : f_X5_expect (some 43) k M = some ((), M) := by
  unfold f_X5_expect
  rw [gI_t (ly_t43 hF.1), if_neg hF.nz]
theorem x_expect_y {a : Nat} {c : List Nat} (hr : isRA r) (hC : ClX pl L r tp ln a c M) (ha : a ≤ ln) : ∃ M', f_X5_expect (some 43) (nI (tTk tp ln a)) M = some ((), M') ∧ XFr r M M' ∧ ClX pl L r tp ln (tNx tp ln a) c M' := by
  obtain ⟨M1, a1, a2, a3⟩ := x_adv_c hr hC ha
  refine ⟨M1, ?_, a2, a3⟩
  unfold f_X5_expect
  rw [gI_t (ly_t43 hC.1), hC.2.2.2.1.1, if_pos (show nI 0 = (0 : Int32) from rfl), gI_t (ly_t43 hC.1), hC.2.2.2.2.1.2.1, if_pos rfl, cR_t (ly_t43 hC.1), a1, cA_s]
theorem x_expect_n {a t : Nat} {c : List Nat} (hr : isRA r) (hC : ClX pl L r tp ln a c M) (hc : c.length ≤ 300) (ht : t < 100) (hne : tTk tp ln a ≠ t) : ∃ M', f_X5_expect (some 43) (nI t) M = some ((), M') ∧ XFr r M M' ∧ FlX pl L r tp ln 1 (tSt tp ln a) M' := by
  obtain ⟨M1, a1, a2, a3⟩ := x_fail_c (k := 1) hr hC hc (by decide)
  have := tTk_le (tp := tp) (ln := ln) (a := a)
  refine ⟨M1, ?_, a2, a3⟩
  unfold f_X5_expect
  rw [gI_t (ly_t43 hC.1), hC.2.2.2.1.1, if_pos (show nI 0 = (0 : Int32) from rfl), gI_t (ly_t43 hC.1), hC.2.2.2.2.1.2.1, if_neg (nIne (by omega) (by omega) hne), cR_t (ly_t43 hC.1), show f_X5_fail (some 43) (1 : Int32) M = _ from a1, cA_s]
theorem x_mayOpen_y {o : Nat} (ho : o < 8) : f_X5_mayOpen (some 43) (nI o) M = some (1, M) := by
  unfold f_X5_mayOpen
  rw [if_pos (show nI o < (8 : Int32) from nI_lt (b := 8) ho (by decide)), if_neg (show ¬ (8 : Int32) ≤ nI o from nI_ge (b := 8) ho (by decide)), tv_1]
theorem x_mayOpen_n {a : Nat} {c : List Nat} (hr : isRA r) (hC : ClX pl L r tp ln a c M) (hc : c.length ≤ 300) : ∃ M', f_X5_mayOpen (some 43) (nI 8) M = some (0, M') ∧ XFr r M M' ∧ FlX pl L r tp ln 3 (tSt tp ln a) M' := by
  obtain ⟨M1, a1, a2, a3⟩ := x_fail_c (k := 3) hr hC hc (by decide)
  refine ⟨M1, ?_, a2, a3⟩
  unfold f_X5_mayOpen
  rw [if_neg (by decide), cR_t (ly_t43 hC.1), show f_X5_fail (some 43) (3 : Int32) M = _ from a1, cA_s, if_pos (by decide), tv_0]
theorem x_levelOf : ∀ t, t ≤ 36 → ∀ M : Mem, f_X5_levelOf (nI t) M = some (if lvO t = 9 then -1 else nI (lvO t), M) := by
  intro t ht M
  rcases (show t = 0 ∨ t = 1 ∨ t = 2 ∨ t = 3 ∨ t = 4 ∨ t = 5 ∨ t = 6 ∨ t = 7 ∨ t = 8 ∨ t = 9 ∨ t = 10 ∨ t = 11 ∨ t = 12 ∨ t = 13 ∨ t = 14 ∨ t = 15 ∨ t = 16 ∨ t = 17 ∨ t = 18 ∨ t = 19 ∨ t = 20 ∨ t = 21 ∨ t = 22 ∨ t = 23 ∨ t = 24 ∨ t = 25 ∨ t = 26 ∨ t = 27 ∨ t = 28 ∨ t = 29 ∨ t = 30 ∨ t = 31 ∨ t = 32 ∨ t = 33 ∨ t = 34 ∨ t = 35 ∨ t = 36 by omega) with rfl | rfl | rfl | rfl | rfl | rfl | rfl | rfl | rfl | rfl | rfl | rfl | rfl | rfl | rfl | rfl | rfl | rfl | rfl | rfl | rfl | rfl | rfl | rfl | rfl | rfl | rfl | rfl | rfl | rfl | rfl | rfl | rfl | rfl | rfl | rfl | rfl
  all_goals rfl
/-- with a fault nothing is read any more -/
theorem x_rec_f {f p : Nat} (hF : FlX pl L r tp ln f p M) : (∀ (d : Nat) (i1 i2 : Int32), f_X5_rec (d + 1) 1 (some 43) i1 i2 M = some ((), M)) ∧ (∀ (d : Nat) (i1 i2 : Int32), f_X5_rec (d + 1) 2 (some 43) i1 i2 M = some ((), M)) ∧ ∀ (d l : Nat) (i2 : Int32), 4 ≤ d → l ≤ 5 → f_X5_rec d 0 (some 43) (nI l) i2 M = some ((), M) := by
  have hl := hF.1
  have h1 : ∀ (d : Nat) (i1 i2 : Int32), f_X5_rec (d + 1) 1 (some 43) i1 i2 M = some ((), M) := fun d i1 i2 => by
    show (if (1 : Nat) = 0 then _ else if (1 : Nat) = 1 then _ else _) = _
    rw [if_neg (by decide), if_pos rfl]
    unfold b_X5_ask
    rw [gI_t (ly_t43 hl), if_neg hF.nz]
  have h2 : ∀ (d : Nat) (i1 i2 : Int32), f_X5_rec (d + 1) 2 (some 43) i1 i2 M = some ((), M) := fun d i1 i2 => by
    show (if (2 : Nat) = 0 then _ else if (2 : Nat) = 1 then _ else _) = _
    rw [if_neg (by decide), if_neg (by decide)]
    unfold b_X5_one
    rw [gI_t (ly_t43 hl), if_neg hF.nz]
  have lp : ∀ (self : Nat → Option Nat → Int32 → Int32 → Mem → Option (Unit × Mem)) (i1 i2 : Int32), f_X5_level_36 self FU (some 43) i1 i2 0 M = some ((), M) := fun self i1 i2 => by
    rw [show FU = 999999999 + 1 from rfl, u_X5_level_36]
    unfold b_X5_level_36
    rw [if_neg (by decide), gI_t (ly_t43 hl), if_neg hF.nz]
  have l5 : ∀ (d : Nat) (i2 : Int32), f_X5_rec (d + 2) 0 (some 43) (nI 5) i2 M = some ((), M) := fun d i2 => by
    show (if (0 : Nat) = 0 then _ else _) = _
    rw [if_pos rfl]
    unfold b_X5_level
    rw [if_neg (by decide), if_neg (by decide), cR_t (ly_t43 hl), h2, cA_s]
  have l2 : ∀ (d : Nat) (i2 : Int32), f_X5_rec (d + 2) 0 (some 43) (nI 2) i2 M = some ((), M) := fun d i2 => by
    show (if (0 : Nat) = 0 then _ else _) = _
    rw [if_pos rfl]
    unfold b_X5_level
    rw [if_pos (by decide), cR_t (ly_t43 hl), h1, cA_s]
  have up : ∀ (d l : Nat) (i2 : Int32), l < 5 → l ≠ 2 → f_X5_rec d 0 (some 43) (nI (l + 1)) i2 M = some ((), M) → f_X5_rec (d + 1) 0 (some 43) (nI l) i2 M = some ((), M) := fun d l i2 hl5 hl2 hh => by
    show (if (0 : Nat) = 0 then _ else _) = _
    rw [if_pos rfl]
    unfold b_X5_level
    rw [if_neg (show ¬ nI l = (2 : Int32) from ne_2 (by omega) hl2), if_pos (show nI l < (5 : Int32) from nI_lt (b := 5) hl5 (by decide)), cR_t (ly_t43 hl), nI_1, hh, cA_s]
    exact lp _ _ _
  refine ⟨h1, h2, fun d l i2 hd hl5 => ?_⟩
  obtain ⟨e, rfl⟩ : ∃ e, d = e + 4 := ⟨d - 4, by omega⟩
  rcases (show l = 0 ∨ l = 1 ∨ l = 2 ∨ l = 3 ∨ l = 4 ∨ l = 5 by omega) with rfl | rfl | rfl | rfl | rfl | rfl
  · exact up _ 0 _ (by decide) (by decide) (up _ 1 _ (by decide) (by decide) (l2 _ _))
  · exact up _ 1 _ (by decide) (by decide) (l2 _ _)
  · exact l2 _ _
  · exact up _ 3 _ (by decide) (by decide) (up _ 4 _ (by decide) (by decide) (l5 _ _))
  · exact up _ 4 _ (by decide) (by decide) (l5 _ _)
  · exact l5 _ _
end XPARSE
