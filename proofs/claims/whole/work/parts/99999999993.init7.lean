/-! ===== the two objects at the start ===== -/
def s0 : Std := ((fun _ => 0, fun _ => 0, 0), none, none, none, 0, 0, fun _ => 0)
theorem lkp_no {α : Type} {a k lo : Nat} : ∀ {t : List (Nat × Nat × α)}, (t.all (fun q => q.1 != a || decide (q.2.1 < lo))) = true → lo ≤ k → lkp t a k = none
  | [], _, _ => rfl
  | q :: r, h, hk => by
    rw [List.all_cons, Bool.and_eq_true, Bool.or_eq_true, bne_iff_ne, decide_eq_true_eq] at h
    show (if _ then _ else _) = _
    rw [if_neg (fun z => by rcases h.1 with y | y <;> omega)]
    exact lkp_no h.2 hk
def whL : List (Nat × Nat) := [(2, 1), (2, 2), (2, 3), (3, 1), (3, 2), (3, 3), (4, 1), (4, 2), (4, 3)]
theorem whL_m {w h : Nat} (hd : okD w h) : (w, h) ∈ whL := by
  obtain ⟨d1, d2, d3, d4⟩ := hd
  have hw : w = 2 ∨ w = 3 ∨ w = 4 := by omega
  have hh : h = 1 ∨ h = 2 ∨ h = 3 := by omega
  rcases hw with rfl | rfl | rfl <;> rcases hh with rfl | rfl | rfl <;> decide
theorem tr_a : ∀ q ∈ xrefs, lkp tRY q.1 q.2.1 = some (some q.2.2) ∧ 8 ≤ q.1 ∧ q.1 < 270 := by decide +kernel
theorem tr_b : ∀ t, t < 6 → lkp tRY 17 t = some (some (rA t)) := by decide +kernel
theorem tr_c : (∀ t, t < 6 → lkp tRY (rA t) 0 = some (some (rA t + 1)) ∧ lkp tRY (rA t) 1 = some (some (rA t + 2)) ∧ lkp tRY (rA t) 2 = some (some (rA t + 3)) ∧ lkp tRY (rA t) 3 = some (some (rA t + 4)) ∧ ∀ i, i < 20 → lkp tRY (rA t + 1) i = some (some (rA t + 5 + i))) ∧ lkp tRY 18 0 = some (some 19) ∧ lkp tRY 18 1 = some (some 20) ∧ lkp tRY 18 2 = some (some 21) ∧ lkp tRY 18 3 = some (some 22) ∧ ∀ i, i < 20 → lkp tRY 19 i = some (some (23 + i)) := by decide +kernel
theorem tr_d : lkp tRY 211 11 = some none ∧ (∀ m, m < 8 → lkp tRY 20 m = none) ∧ ∀ y, y < 4 → lkp tRY 21 y = none := by decide +kernel
theorem ti_a : ∀ q ∈ whL, (∀ t, t < 6 → ∀ i, i < 20 → lkp (tIY q.1 q.2) (rA t + 5 + i) 0 = some (nI i)) ∧ ∀ i, i < 20 → lkp (tIY q.1 q.2) (23 + i) 0 = some (nI i) := by decide +kernel
theorem ti_b : ∀ q ∈ whL, (∀ p, p < q.1 * q.2 → ∀ d, d < 4 → lkp (tIY q.1 q.2) 208 (p * 4 + d) = some (oI (besS q.1 q.2 p d))) ∧ ∀ i, i < 56 → lkp (tIY q.1 q.2) 46 i = some (nI (trT.getD i 0)) := by decide +kernel
theorem ti_c : ∀ q ∈ whL, lkp (tIY q.1 q.2) 8 0 = some (nI q.1) ∧ lkp (tIY q.1 q.2) 8 1 = some (nI q.2) ∧ lkp (tIY q.1 q.2) 203 4 = some (nI (q.1 * q.2)) ∧ lkp (tIY q.1 q.2) 230 0 = some (nI q.1) ∧ lkp (tIY q.1 q.2) 230 1 = some (nI q.2) ∧ lkp (tIY q.1 q.2) 230 2 = some (nI (q.1 * q.2)) ∧ lkp (tIY q.1 q.2) 18 4 = some 0 ∧ lkp (tIY q.1 q.2) 10 1 = some 0 ∧ lkp (tIY q.1 q.2) 10 2 = some 0 ∧ lkp (tIY q.1 q.2) 14 1 = some 0 ∧ lkp (tIY q.1 q.2) 14 2 = some 0 ∧ lkp (tIY q.1 q.2) 11 0 = some m1 ∧ lkp (tIY q.1 q.2) 11 1 = some m1 ∧ lkp (tIY q.1 q.2) 15 0 = some m1 ∧ lkp (tIY q.1 q.2) 15 1 = some m1 ∧ lkp (tIY q.1 q.2) 9 3 = some 0 ∧ lkp (tIY q.1 q.2) 9 4 = some 0 ∧ lkp (tIY q.1 q.2) 9 5 = some m1 ∧ lkp (tIY q.1 q.2) 13 3 = some 0 ∧ lkp (tIY q.1 q.2) 13 4 = some 0 ∧ lkp (tIY q.1 q.2) 13 5 = some m1 := by decide +kernel
theorem ti_d : ∀ q ∈ whL, lkp (tIY q.1 q.2) 231 2 = some m1 ∧ lkp (tIY q.1 q.2) 231 3 = some m1 ∧ lkp (tIY q.1 q.2) 231 4 = some m1 ∧ lkp (tIY q.1 q.2) 231 0 = none ∧ lkp (tIY q.1 q.2) 231 1 = none ∧ lkp (tIY q.1 q.2) 43 1 = some 0 ∧ lkp (tIY q.1 q.2) 43 2 = some m1 ∧ lkp (tIY q.1 q.2) 43 3 = some m1 ∧ lkp (tIY q.1 q.2) 230 6 = none ∧ lkp (tIY q.1 q.2) 230 7 = some m1 ∧ lkp (tIY q.1 q.2) 230 8 = some m1 ∧ ((tIY q.1 q.2).all (fun e => e.1 != 231 || decide (e.2.1 < 5))) = true ∧ ((tIY q.1 q.2).all (fun e => e.1 != 12 || decide (e.2.1 < 0))) = true ∧ ((tIY q.1 q.2).all (fun e => e.1 != 16 || decide (e.2.1 < 0))) = true := by decide +kernel
set_option maxRecDepth 20000 in
theorem tyL_len {pl : Nat} : (tyL pl).length = 262 := rfl
theorem ty_end {pl L a : Nat} (ha : 270 ≤ a) : TYF pl L a = (0, 0) := by
  have hl : (tyL pl).length = 262 := tyL_len
  unfold TYF
  rw [if_neg (by omega), List.getD_eq_getElem?_getD, List.getElem?_eq_none (by rw [hl]; omega)]
  rfl
theorem p0_l : lN (enc 4 (fun _ => 0) 12) = 0 := by decide +kernel
theorem p0_i : nI (enc 2 (fun _ => 0) 8) = 0 := by decide +kernel
section INIT7
variable {L w h : Nat} {xs : Nat → Int32} {fr : Option Nat} {M : Mem}
theorem st_lay (hd : okD w h) (hS : St (w * h) L 270 tRY (tIY w h) (M0 L xs fr) M) : Lay (w * h) L M := by
  obtain ⟨h1, h2, h3, h4, -, -⟩ := hS
  obtain ⟨i1, i2⟩ := ti_a (w, h) (whL_m hd)
  have gR : ∀ {a k : Nat} {v : Option Nat}, 8 ≤ a → a < 270 → lkp tRY a k = some v → mR M a k = v := fun ha hz e => by rw [(h4 _ _ ha hz).1, e]; rfl
  have gI : ∀ {a k : Nat} {v : Int32}, 8 ≤ a → a < 270 → lkp (tIY w h) a k = some v → mI M a k = v := fun ha hz e => by rw [(h4 _ _ ha hz).2.1, e]; rfl
  refine ⟨?_, h1, fun q hq => ?_, fun t ht => gR (by decide) (by decide) (tr_b t ht), fun r hr => ?_, fun r hr i hi => ?_, ?_, ?_, ?_, ?_, ?_, ?_, ?_⟩
  · funext a
    rw [h2 a]
    by_cases e : a < 270
    · rw [if_pos e]
    · rw [if_neg e, ty_end (by omega)]
  · obtain ⟨q1, q2, q3⟩ := tr_a q hq
    exact gR q2 q3 q1
  · rcases hr with rfl | ⟨t, ht, rfl⟩
    · obtain ⟨-, q1, q2, q3, q4, q5⟩ := tr_c
      exact ⟨gR (by decide) (by decide) q1, gR (by decide) (by decide) q2, gR (by decide) (by decide) q3, gR (by decide) (by decide) q4, fun i hi => gR (by decide) (by decide) (q5 i hi)⟩
    · obtain ⟨q1, q2, q3, q4, q5⟩ := tr_c.1 t ht
      have e : rA t = 50 + 25 * t := rfl
      exact ⟨gR (by omega) (by omega) q1, gR (by omega) (by omega) q2, gR (by omega) (by omega) q3, gR (by omega) (by omega) q4, fun i hi => gR (by omega) (by omega) (q5 i hi)⟩
  · rcases hr with rfl | ⟨t, ht, rfl⟩
    · exact gI (by omega) (by omega) (i2 i hi)
    · have e : rA t = 50 + 25 * t := rfl
      exact gI (by omega) (by omega) (i1 t ht i hi)
  · rw [(h3 2 (by decide)).2]; rfl
  · rw [(h3 3 (by decide)).2]; rfl
  · intro k; rw [(h3 1 (by decide)).1]; rfl
  · intro k; rw [(h3 4 (by decide)).1]; rfl
  · intro k; rw [(h3 5 (by decide)).1]; rfl
  · intro k; rw [(h3 2 (by decide)).1]; rfl
  · intro k; rw [(h3 3 (by decide)).1]; rfl
theorem s0_ok : okSt w h s0 := by
  refine ⟨⟨⟨fun p => ?_, fun p _ => rfl, fun m => ?_, ?_⟩, fun _ _ => rfl, fun _ _ => rfl⟩, ?_, ?_, ?_, ?_, ?_, fun i => ?_⟩
  · show 0 < 9; decide
  · show 0 < 4; decide
  · show 0 < 2; decide
  · intro t e; cases e
  · intro t e; cases e
  · intro t e; cases e
  · show 0 ≤ 6; decide
  · show 0 ≤ 40; decide
  · show 0 < 8; decide
theorem st_bs (hd : okD w h) (hS : St (w * h) L 270 tRY (tIY w h) (M0 L xs fr) M) : Bs w h L 0 (fun _ => []) M ∧ StX 9 s0 M ∧ StX 13 s0 M ∧ StM 231 s0 M ∧ mI M 43 1 = nI 0 ∧ mI M 43 2 = m1 ∧ mI M 43 3 = m1 ∧ mI M 230 6 = nI 0 ∧ mI M 230 7 = m1 ∧ mI M 230 8 = m1 ∧ mR M 211 11 = none ∧ mI M 0 = xs := by
  have hl := st_lay hd hS
  obtain ⟨h1, h2, h3, h4, -, -⟩ := hS
  have gR : ∀ {a k : Nat} {v : Option Nat}, 8 ≤ a → a < 270 → lkp tRY a k = some v → mR M a k = v := fun ha hz e => by rw [(h4 _ _ ha hz).1, e]; rfl
  have gN : ∀ {a k : Nat}, 8 ≤ a → a < 270 → lkp tRY a k = none → mR M a k = none := fun ha hz e => by rw [(h4 _ _ ha hz).1, e]; rfl
  have gI : ∀ {a k : Nat} {v : Int32}, 8 ≤ a → a < 270 → lkp (tIY w h) a k = some v → mI M a k = v := fun ha hz e => by rw [(h4 _ _ ha hz).2.1, e]; rfl
  have g0 : ∀ {a k : Nat}, 8 ≤ a → a < 270 → lkp (tIY w h) a k = none → mI M a k = nI 0 := fun ha hz e => by rw [(h4 _ _ ha hz).2.1, e]; rfl
  obtain ⟨b1, b2⟩ := ti_b (w, h) (whL_m hd)
  obtain ⟨c1, c2, c3, c4, c5, c6, c7, c8, c9, c10, c11, c12, c13, c14, c15, c16, c17, c18, c19, c20, c21⟩ := ti_c (w, h) (whL_m hd)
  obtain ⟨e1, e2, e3, e4, e5, e6, e7, e8, e9, e10, e11, e12, e13, e14⟩ := ti_d (w, h) (whL_m hd)
  have lz : ∀ a, 8 ≤ a → a < 270 → mL M a 0 = 0 := fun a ha hz => (h4 a 0 ha hz).2.2
  refine ⟨⟨hd, hl, ⟨gI (by decide) (by decide) c1, gI (by decide) (by decide) c2, gI (by decide) (by decide) c3, fun p d hp hdd => gI (by decide) (by decide) (b1 p hp d hdd), gI (by decide) (by decide) c4, gI (by decide) (by decide) c5, gI (by decide) (by decide) c6, fun i hi => gI (by decide) (by decide) (b2 i hi)⟩, ⟨(gI (by decide) (by decide) c7).trans rfl, fun i c hc => by simp at hc, fun m hm => gN (by decide) (by decide) (tr_d.2.1 m hm), fun y hy => gN (by decide) (by decide) (tr_d.2.2 y hy)⟩, by decide, fun t ht => absurd ht (by omega)⟩, ?_, ?_, ?_, (gI (by decide) (by decide) e6).trans rfl, gI (by decide) (by decide) e7, gI (by decide) (by decide) e8, g0 (by decide) (by decide) e9, gI (by decide) (by decide) e10, gI (by decide) (by decide) e11, gR (by decide) (by decide) tr_d.1, ?_⟩
  · exact ⟨⟨ly_t10 hl, by rw [lz 10 (by decide) (by decide)]; exact p0_l.symm, by rw [gI (by decide) (by decide) c8]; exact p0_i.symm, gI (by decide) (by decide) c9⟩, gI (by decide) (by decide) c12, gI (by decide) (by decide) c13, fun i hi => g0 (by decide) (by decide) (lkp_no e13 (Nat.zero_le _)), gI (by decide) (by decide) c16, gI (by decide) (by decide) c17, gI (by decide) (by decide) c18⟩
  · exact ⟨⟨ly_t14 hl, by rw [lz 14 (by decide) (by decide)]; exact p0_l.symm, by rw [gI (by decide) (by decide) c10]; exact p0_i.symm, gI (by decide) (by decide) c11⟩, gI (by decide) (by decide) c14, gI (by decide) (by decide) c15, fun i hi => g0 (by decide) (by decide) (lkp_no e14 (Nat.zero_le _)), gI (by decide) (by decide) c19, gI (by decide) (by decide) c20, gI (by decide) (by decide) c21⟩
  · have z5 : ∀ k, 5 ≤ k → mI M 231 k = nI 0 := fun k hk => g0 (by decide) (by decide) (lkp_no e12 hk)
    exact ⟨g0 (by decide) (by decide) e4, g0 (by decide) (by decide) e5, gI (by decide) (by decide) e1, gI (by decide) (by decide) e2, gI (by decide) (by decide) e3, z5 5 (by decide), fun m hm => z5 _ (by omega), fun m hm => z5 _ (by omega), fun m hm => z5 _ (by omega)⟩
  · rw [(h3 0 (by decide)).1]; rfl
end INIT7
