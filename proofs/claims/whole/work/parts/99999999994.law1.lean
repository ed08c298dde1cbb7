/-! ===== the law's start ===== -/
theorem nW_e {β : Type} {M : Mem} {c : Nat} {K : Option Nat → Mem → Option β} : nW M c K = K (some (mZ M)) (sN M (1, c)) := rfl
theorem cN_e {β : Type} {a : Nat} {K : Nat → Option β} : cN (some a) K = K a := rfl
section LAW1
variable {L w h : Nat} {xs : Nat → Int32} {fr : Option Nat} {M : Mem}
theorem y_start (hd : okD w h) (hS : St (w * h) L 270 tRY (tIY w h) (M0 L xs fr) M) : FQ (cA (f_X12_copies (some 230) (1 : Int32) M) fun _ M6 => some ((), M6)) (fun _ M' => Rel w h L s0 s0 (fun _ => []) (fun _ => 0) 0 m1 m1 M' ∧ mI M' 0 = xs) := by
  obtain ⟨hb, hX, hX2, hM, q1, q2, q3, q4, q5, q6, q7, q8⟩ := st_bs hd hS
  obtain ⟨M2, b1, b2, b3⟩ := y_copies_l (d := 232) (e := 231) (b := 1) (Or.inl ⟨rfl, rfl, rfl⟩) 240 FU 0 M (by omega) (by decide) hb Fx.rf (fun j hj => absurd hj (by omega))
  refine ⟨(), M2, ?_, ⟨⟨⟨hb.fx b2 (by decide) (by decide), s0_ok, hX.fx b2 (by decide) (by decide) (by decide) (by decide), hM.fx b2 (by decide)⟩, s0_ok, Nat.le_refl _, hX2.fx b2 (by decide) (by decide) (by decide) (by decide), hM.copy b3, by omega, by rw [b2.ib (by decide)]; exact q1, by rw [b2.ib (by decide)]; exact q4, fun i hi => absurd hi (by omega), by rw [b2.ib (by decide)]; exact q2, by rw [b2.ib (by decide)]; exact q3, by rw [b2.ib (by decide)]; exact q5, by rw [b2.ib (by decide)]; exact q6⟩, Or.inl (by rw [b2.2.2.1]; exact q7)⟩, by rw [b2.ib (by decide)]; exact q8⟩
  unfold f_X12_copies
  rw [show (0 : Int32) = nI 0 from rfl, b1, cA_s]
theorem l_cell {k : Nat} {i : Int32} (ht : mT M 0 = (8, L)) (hL : L < 2 ^ 31) (hi : i = nI k) (hk : k < 2 ^ 31) : ∃ v, f_L_cell (some 0) i M = some (v, M) := by
  subst hi
  unfold f_L_cell
  rw [aN_t ht (by decide) (by decide) (by decide)]
  by_cases e : L ≤ k
  · exact ⟨0, by rw [if_pos (nI_le e hk)]⟩
  · exact ⟨mI M 0 k, by rw [if_neg (nI_ge (by omega) hL), aI_t ht (by omega) hL]⟩
theorem st_0 {pl : Nat} : St pl L 8 [] [] (M0 L xs fr) (M0 L xs fr) := by
  refine ⟨rfl, fun a => ?_, fun a _ => ⟨rfl, rfl⟩, fun a k h1 h2 => absurd h1 (by omega), fun q hq => (by cases hq), fun q hq => (by cases hq)⟩
  by_cases e : a < 8
  · rw [if_pos e]
    unfold TYF
    rw [if_pos e]
    rfl
  · rw [if_neg e]
    show T0 L a = (0, 0)
    obtain ⟨b, rfl⟩ : ∃ b, a = b + 8 := ⟨a - 8, by omega⟩
    rfl
/-- both objects are made, and stand alike -/
theorem law_start (hL : L ≤ 386) : ∃ w h M8, f_L_law (some 0) (M0 L xs fr) = f_L_law_38 FU (some 0) (some 8) (some 230) (2 : Int32) M8 ∧ Rel w h L s0 s0 (fun _ => []) (fun _ => 0) 0 m1 m1 M8 ∧ mI M8 0 = xs := by
  have c1 : ∀ (i : Int32) (k : Nat) {M : Mem}, mT M 0 = (8, L) → i = nI k → k < 2 ^ 31 → ∃ v, f_L_cell (some 0) i M = some (v, M) := fun i k M ht hi hk => l_cell ht (by omega) hi hk
  have t1 : mT (sN (M0 L xs fr) (1, 11)) 0 = (8, L) := rfl
  obtain ⟨v2, e2⟩ := c1 0 0 t1 rfl (by decide)
  obtain ⟨v3, e3⟩ := c1 1 1 t1 rfl (by decide)
  obtain ⟨w, w1, w2, w3, w4⟩ := clW v2
  obtain ⟨h, h1, h2, h3, h4⟩ := clH v3
  have hd : okD w h := ⟨w1, w2, h1, h2⟩
  have s1 : St (w * h) L 9 [] [] (M0 L xs fr) (sN (M0 L xs fr) (1, 11)) := st_0.n (by decide) rfl
  obtain ⟨u, M4, e4, s4⟩ := x_i11 hd s1 w3 h3
  have s5 : St (w * h) L 231 _ _ (M0 L xs fr) (sN M4 (1, 12)) := s4.n (by decide) rfl
  have t5 : mT (sN M4 (1, 12)) 0 = (8, L) := (s5.ty (by decide)).trans rfl
  obtain ⟨v5, e5⟩ := c1 0 0 t5 rfl (by decide)
  obtain ⟨v6, e6⟩ := c1 1 1 t5 rfl (by decide)
  have x0 : mI (sN M4 (1, 12)) 0 = xs := (s5.2.2.1 0 (by decide)).1
  have same : ∀ {k : Nat} {i v v' : Int32} {M M' : Mem}, i = nI k → k < 2 ^ 31 → mT M 0 = (8, L) → mT M' 0 = (8, L) → mI M 0 = mI M' 0 → f_L_cell (some 0) i M = some (v, M) → f_L_cell (some 0) i M' = some (v', M') → v = v' := by
    intro k i v v' M M' hi hk ht ht' hx e e'
    subst hi
    unfold f_L_cell at e e'
    rw [aN_t ht (by decide) (by decide) (by decide)] at e
    rw [aN_t ht' (by decide) (by decide) (by decide)] at e'
    by_cases z : L ≤ k
    · rw [if_pos (nI_le z hk)] at e e'
      cases e
      cases e'
      rfl
    · rw [if_neg (nI_ge (by omega) (by omega)), aI_t ht (by omega) (by omega)] at e
      rw [if_neg (nI_ge (by omega) (by omega)), aI_t ht' (by omega) (by omega)] at e'
      cases e
      cases e'
      rw [hx]
  have x1 : mI (sN (M0 L xs fr) (1, 11)) 0 = mI (sN M4 (1, 12)) 0 := by rw [x0]; rfl
  obtain rfl : v2 = v5 := same (k := 0) rfl (by decide) t1 t5 x1 e2 e5
  obtain rfl : v3 = v6 := same (k := 1) rfl (by decide) t1 t5 x1 e3 e6
  obtain ⟨u8, M8, e8, r8, x8⟩ := y_i12 s5 w4 h4 (fun M' hM' => y_start hd hM')
  refine ⟨w, h, M8, ?_, r8, x8⟩
  have z4 : mZ M4 = 230 := s4.1
  have z0 : mZ (M0 L xs fr) = 8 := rfl
  unfold f_L_law
  rw [nW_e, z0, e2, cA_s, e3, cA_s, cN_e, e4, cA_s, nW_e, z4, e5, cA_s, e6, cA_s, cN_e, e8, cA_s]
end LAW1
