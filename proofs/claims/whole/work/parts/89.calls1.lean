/-! ===== calls, in both: won, run, match, offers, play, can ===== -/
abbrev SA : List Nat := [201, 202, 204, 205, 206, 207, 210, 47, 48, 49, 252, 253, 254, 255, 256, 257, 258, 259, 260, 261]
abbrev SF : List (Nat × Nat) := [(203, 3), (209, 0), (209, 1), (8, 15), (230, 45), (230, 46), (230, 47), (230, 48), (230, 49), (230, 53), (230, 57)]
def Pre (w h L : Nat) (s : Std) (τ : Nat → Txt) (M : Mem) : Prop := Bs w h L (stN s) τ M ∧ okSt w h s ∧ StX 9 s M ∧ StM 231 s M
theorem Pre.fx {w h L : Nat} {s : Std} {τ : Nat → Txt} {M M' : Mem} {A : List Nat} {F : List (Nat × Nat)} (hp : Pre w h L s τ M) (fr : Fx A F M M') (ha : okA A = true) (hf : okF F = true) (h9 : 9 ∉ A ∧ ∀ q ∈ F, q.1 ≠ 9) (h10 : 10 ∉ A ∧ ∀ q ∈ F, q.1 ≠ 10) (h11 : 11 ∉ A ∧ ∀ q ∈ F, q.1 ≠ 11) (h12 : 12 ∉ A ∧ ∀ q ∈ F, q.1 ≠ 12) (h231 : 231 ∉ A ∧ ∀ q ∈ F, q.1 ≠ 231) : Pre w h L s τ M' := ⟨hp.1.fx fr ha hf, hp.2.1, hp.2.2.1.fx fr h9 h10 h11 h12, hp.2.2.2.fx fr h231⟩
theorem in_lo {M : Mem} {v a b : Int32} (h : v < a) : f_X12_in v a b M = some (nI 0, M) := by
  unfold f_X12_in
  rw [if_pos h, tv_0]
  rfl
theorem in_hi {M : Mem} {v a b : Int32} (h : b < v) : f_X12_in v a b M = some (nI 0, M) := by
  unfold f_X12_in
  by_cases h1 : v < a
  · rw [if_pos h1, tv_0]; rfl
  · rw [if_neg h1, if_pos h, tv_0]; rfl
theorem in_ok {M : Mem} {v a b : Int32} (h1 : ¬ v < a) (h2 : ¬ b < v) : f_X12_in v a b M = some (nI 1, M) := by
  unfold f_X12_in
  rw [if_neg h1, if_neg h2, tv_1]
  rfl
theorem rng {v : Int32} {a b : Nat} (hab : a ≤ b) (hb : b < 2 ^ 31 - 1) (h1 : ¬ v < nI a) (h2 : ¬ nI b < v) : ∃ k, a ≤ k ∧ k ≤ b ∧ v = nI k := by
  have e1 := nI_toInt (n := a) (by omega)
  have e2 := nI_toInt (n := b) (by omega)
  rw [Int32.lt_iff_toInt_lt, e1] at h1
  rw [Int32.lt_iff_toInt_lt, e2] at h2
  rcases pk_ix v (n := b + 1) (by omega) with h | h | ⟨k, hk, rfl⟩
  · rw [Int32.lt_iff_toInt_lt] at h
    have : (0 : Int32).toInt = 0 := rfl
    omega
  · rw [Int32.le_iff_toInt_le, nI_toInt (by omega)] at h
    omega
  · rw [nI_toInt (by omega)] at h1
    exact ⟨k, by omega, by omega, rfl⟩
theorem pa10 : isPA 10 := Or.inl rfl
theorem pa47 : isPA 47 := Or.inr (Or.inr (Or.inl rfl))
section CALLS1
variable {w h L : Nat} {s : Std} {τ : Nat → Txt} {M : Mem}
/-- the reference lays the position and its moves -/
theorem y_lay (hp : Pre w h L s τ M) : ∃ M1 M2, f_X12_laysNow (some 230) M = some ((), M1) ∧ f_X12_laysMoves (some 230) M1 = some ((), M2) ∧ Bs w h L (stN s) τ M1 ∧ Bs w h L (stN s) τ M2 ∧ Fx moA moF M M2 ∧ MPos (stP s) M2 ∧ LaidAt (canS w h (tT τ (stB s)) (stP s)) (ablS w h (tT τ (stB s)) (stP s)) 8 M2 := by
  obtain ⟨hb, ok, hX, hS⟩ := hp
  obtain ⟨M1, a1, a2, a3⟩ := y_now hb hS
  have hb1 := hb.fx a2 (by decide) (by decide)
  obtain ⟨M2, b1, b2, b3⟩ := y_moves hb1 a3 ok.1 ok.2.1 (by rw [a2.ib (by decide)]; exact hS.2.2.1)
  exact ⟨M1, M2, a1, b1, hb1, hb1.fx b2 (by decide) (by decide), (a2.mono (by decide) (by decide)).tr (b2.mono (by decide) (by decide)), a3.fx b2 (by decide) (by decide), b3⟩
theorem c_won (hp : Pre w h L s τ M) : ∃ r M1 M2, f_X11_won (some 8) M = some (r, M1) ∧ f_X12_won (some 230) M1 = some (r, M2) ∧ Fx SA SF M M2 := by
  obtain ⟨hb, ok, hX, hS⟩ := hp
  have hl := hb.lay
  obtain ⟨M1, a1, a2⟩ := x_winner hb ok.2.1 ok.1.1 pa10 hX.1 hX.2.2.2.2.2.2
  have hp1 : Pre w h L s τ M1 := Pre.fx ⟨hb, ok, hX, hS⟩ a2 (by decide) (by decide) (by decide) (by decide) (by decide) (by decide) (by decide)
  obtain ⟨N1, N2, b1, b2, b3, b4, b5, b6, b7⟩ := y_lay hp1
  refine ⟨if popC (ablS w h (tT τ (stB s)) (stP s)) 8 < 3 then nI (stP s).2.2 else m1, M1, N2, ?_, ?_, (a2.mono (by decide) (by decide)).tr (b5.mono (by decide) (by decide))⟩
  · unfold f_X11_won
    rw [gR_t (ly_t8 hl), ly_r8_2 hl, gR_t (ly_t9 hl), ly_r9_0 hl, cR_t (ly_t8 hl), a1, cA_s]
  · unfold f_X12_won
    rw [cR_t (ly_t230 hp1.1.lay), b1, cA_s, cR_t (ly_t230 b3.lay), b2, cA_s, cR_t (ly_t230 b4.lay), y_isOver b4 b7, cA_s]
    by_cases ho : popC (ablS w h (tT τ (stB s)) (stP s)) 8 < 3
    · rw [if_pos ho, if_neg (by decide), gI_t (ly_t230 b4.lay), b6.2.2, if_pos ho]
    · rw [if_neg ho, if_pos (by decide), if_neg ho]
      rfl
theorem nthP_neg {p : Nat → Bool} {v : Int32} (hv : v < 0) : ∀ (l : List Nat) (fd : Nat), fd + l.length < 2 ^ 31 → nthP p l fd v = none
  | [], _, _ => rfl
  | q :: l, fd, h2 => by
    simp only [List.length_cons] at h2
    cases hp : p q with
    | false => rw [nthP_n hp]; exact nthP_neg hv l fd (by omega)
    | true =>
      rw [nthP_y hp, if_neg (fun e => by rw [← e] at hv; exact nI_pos (by omega) hv)]
      exact nthP_neg hv l (fd + 1) (by omega)
theorem c_offers {i : Int32} (hp : Pre w h L s τ M) : ∃ r M1 M2, f_X11_offers (some 8) i M = some (r, M1) ∧ f_X12_offers (some 230) i M1 = some (r, M2) ∧ Fx SA SF M M2 := by
  obtain ⟨hb, ok, hX, hS⟩ := hp
  have hl := hb.lay
  obtain ⟨M1, a1, a2, a3', -⟩ := x_lookN (μ := fun m => decide (0 < (stP s).2.1 m)) hb ok.2.1 ok.1.1 pa10 hX.1
  have a3 : LookAt (lkB w h (tT τ (stB s)) (stP s)) M1 := a3'
  have hp1 : Pre w h L s τ M1 := Pre.fx ⟨hb, ok, hX, hS⟩ a2 (by decide) (by decide) (by decide) (by decide) (by decide) (by decide) (by decide)
  have hl1 := hp1.1.lay
  have ex : f_X11_offers (some 8) i M = some (if i = -1 then nI (TQ.countP (inq (ablS w h (tT τ (stB s)) (stP s)))) else toldO (nthP (inq (ablS w h (tT τ (stB s)) (stP s))) TQ 0 i), M1) := by
    unfold f_X11_offers
    rw [gR_t (ly_t8 hl), ly_r8_8 hl, gR_t (ly_t8 hl), ly_r8_2 hl, gR_t (ly_t9 hl), ly_r9_0 hl, gR_t (ly_t8 hl), ly_r8_2 hl, gI_t (ly_t9 hl), hX.2.2.2.2.2.2, cR_t (ly_t8 hl), x_rules hb ok.2.1, cA_s, gR_t (ly_t8 hl), ly_r8_2 hl, gR_t (ly_t9 hl), ly_r9_0 hl, cR_t hX.1.1, x_stock hX.1 ok.1.1, cA_s, cR_t (ly_t203 hl), a1, cA_s, gR_t (ly_t8 hl1), ly_r8_7 hl1, gR_t (ly_t8 hl1), ly_r8_8 hl1, gI_t (ly_t203 hl1), a3.abl, cR_t (ly_t45 hl1), x_pick hp1.1, cA_s]
  unfold f_X12_offers
  by_cases hi : (-1 : Int32) ≤ i
  · obtain ⟨N1, N2, b1, b2, b3, b4, b5, b6, b7⟩ := y_lay hp1
    obtain ⟨N3, c1, c2, c3⟩ := y_offerAt (v := i) b4 (laid_abl b7)
    have hb5 := b4.fx c2 (by decide) (by decide)
    refine ⟨_, M1, N3, ex, ?_, ((a2.mono (by decide) (by decide)).tr (b5.mono (by decide) (by decide))).tr (c2.mono (by decide) (by decide))⟩
    rw [if_pos hi, cR_t (ly_t230 hl1), b1, cA_s, cR_t (ly_t230 b3.lay), b2, cA_s, cR_t (ly_t230 b4.lay), c1, cA_s]
    by_cases e : i = -1
    · rw [if_pos e, gI_t (ly_t230 hb5.lay), c3, if_pos e]
    · rw [if_neg e, if_neg e]
  · refine ⟨_, M1, M1, ex, ?_, a2.mono (by decide) (by decide)⟩
    have hneg : i < 0 := by
      rw [Int32.lt_iff_toInt_lt]
      rw [Int32.le_iff_toInt_le] at hi
      have h1 : (-1 : Int32).toInt = -1 := rfl
      have h2 : (0 : Int32).toInt = 0 := rfl
      omega
    rw [if_neg hi, if_neg (fun e => hi (by rw [e]; exact Int32.le_refl _)), nthP_neg hneg _ _ (by rw [TQ_len]; decide)]
    rfl
theorem c_run {n : Int32} (hp : Pre w h L s τ M) : ∃ r M1 M2 s', f_X11_run (some 8) n M = some (r, M1) ∧ f_X12_run (some 230) n M1 = some (r, M2) ∧ Fx (10 :: 231 :: SA) SF M M2 ∧ Pre w h L s' τ M2 ∧ s'.2 = s.2 := by
  obtain ⟨hb, ok, hX, hS⟩ := hp
  have hl := hb.lay
  unfold f_X11_run f_X12_run
  by_cases h1 : n < (1 : Int32)
  · refine ⟨-1, M, M, s, by rw [if_pos h1], ?_, Fx.rf, ⟨hb, ok, hX, hS⟩, rfl⟩
    rw [in_lo h1, cA_s, if_pos (by decide)]
  · by_cases h2 : (99 : Int32) < n
    · refine ⟨-1, M, M, s, by rw [if_neg h1, if_neg (Int32.not_le.mpr h2)], ?_, Fx.rf, ⟨hb, ok, hX, hS⟩, rfl⟩
      rw [in_hi h2, cA_s, if_pos (by decide)]
    · obtain ⟨k, k1, k2, rfl⟩ := rng (a := 1) (b := 99) (by decide) (by decide) h1 h2
      obtain ⟨M1, a1, a2, a3⟩ := x_ways (n := k) hb pa10 ok.2.1 ok.2.2.1 ok.2.2.2.1 (by omega) ok.1 hX.1 hX.2.2.2.2.2.2 hX.2.1 hX.2.2.1
      have hb1 := hb.fx a2 (by decide) (by decide)
      have hS1 := hS.fx a2 (by decide)
      obtain ⟨M2, b1, b2, b3⟩ := y_now hb1 hS1
      have hb2 := hb1.fx b2 (by decide) (by decide)
      have hS2 := hS1.fx b2 (by decide)
      obtain ⟨M3, c1, c2, c3, c4⟩ := y_ways (n := k) hb2 ok.2.1 ok.2.2.1 ok.2.2.2.1 (by omega) ok.1 b3 hS2.2.2.1 hS2.2.2.2.1 hS2.2.2.2.2.1
      have hb3 := hb2.fx c2 (by decide) (by decide)
      obtain ⟨M4, d1, d2, d3⟩ := y_keep hb3 c3 (hS2.fx c2 (by decide))
      have frx : Fx (231 :: SA) SF M1 M4 := ((b2.mono (by decide) (by decide)).tr (c2.mono (by decide) (by decide))).tr (d2.mono (by decide) (by decide))
      refine ⟨nI (goS w h τ (stB s) (stW0 s) (stW1 s) k (stP s)).1, M1, M4, withP s (goS w h τ (stB s) (stW0 s) (stW1 s) k (stP s)).2, ?_, ?_, (a2.mono (by decide) (by decide)).tr (frx.mono (by decide) (by decide)), ⟨hb1.fx frx (by decide) (by decide), ⟨go_ok hb.1 (hb.okT ok.2.1) k _ ok.1, ok.2⟩, ?_, d3⟩, rfl⟩
      · rw [if_neg h1, if_pos (Int32.not_lt.mp h2), gR_t (ly_t8 hl), ly_r8_2 hl, gR_t (ly_t9 hl), ly_r9_0 hl, cR_t (ly_t8 hl), a1, cA_s]
      · rw [in_ok h1 h2, cA_s, if_neg (by decide), cR_t (ly_t230 hb1.lay), b1, cA_s, cR_t (ly_t230 hb2.lay), c1, cA_s, cR_t (ly_t230 hb3.lay), d1, cA_s]
      · have hX1 : StX 9 (withP s (goS w h τ (stB s) (stW0 s) (stW1 s) k (stP s)).2) M1 := ⟨a3, by rw [a2.ib (by decide)]; exact hX.2.1, by rw [a2.ib (by decide)]; exact hX.2.2.1, by rw [a2.ib (by decide)]; exact hX.2.2.2.1, by rw [a2.ib (by decide)]; exact hX.2.2.2.2.1, by rw [a2.ib (by decide)]; exact hX.2.2.2.2.2.1, by rw [a2.ib (by decide)]; exact hX.2.2.2.2.2.2⟩
        exact hX1.fx frx (by decide) (by decide) (by decide) (by decide)
/-- the class takes the position of now for trying -/
theorem x_try (hp : Pre w h L s τ M) : ∃ M1, f_X4_take (some 47) (some 10) M = some ((), M1) ∧ Fx [47] [] M M1 ∧ PosAt 47 (stP s) M1 := by
  refine ⟨_, x_take hp.2.2.1.1 (ly_t47 hp.1.lay), ((Fx.wL (Or.inl (by decide))).I (Or.inl (by decide))).I (Or.inl (by decide)), PosAt.took (ly_t47 hp.1.lay)⟩
theorem c_match {n v : Int32} (hp : Pre w h L s τ M) : ∃ r M1 M2, f_X11_match (some 8) n v M = some (r, M1) ∧ f_X12_match (some 230) n v M1 = some (r, M2) ∧ Fx SA SF M M2 := by
  have hp0 := hp
  obtain ⟨hb, ok, hX, hS⟩ := hp
  have hl := hb.lay
  unfold f_X11_match f_X12_match
  by_cases h1 : n < (1 : Int32)
  · refine ⟨-2, M, M, by rw [if_pos h1], ?_, Fx.rf⟩
    rw [in_lo h1, cA_s, if_pos (by decide)]
  · rw [if_neg h1]
    by_cases h2 : (99 : Int32) < n
    · refine ⟨-2, M, M, by rw [if_pos h2], ?_, Fx.rf⟩
      rw [in_hi h2, cA_s, if_pos (by decide)]
    · rw [if_neg h2]
      by_cases h3 : v < 0
      · refine ⟨-2, M, M, by rw [if_pos h3], ?_, Fx.rf⟩
        rw [in_ok h1 h2, cA_s, if_neg (by decide), in_lo h3, cA_s, if_pos (by decide)]
      · rw [if_neg h3]
        by_cases h4 : (1 : Int32) < v
        · refine ⟨-2, M, M, by rw [if_neg (Int32.not_le.mpr h4)], ?_, Fx.rf⟩
          rw [in_ok h1 h2, cA_s, if_neg (by decide), in_hi h4, cA_s, if_pos (by decide)]
        · rw [if_pos (Int32.not_lt.mp h4)]
          obtain ⟨k, k1, k2, rfl⟩ := rng (a := 1) (b := 99) (by decide) (by decide) h1 h2
          obtain ⟨M0, t1, t2, t3⟩ := x_try hp0
          have hb0 := hb.fx t2 (by decide) (by decide)
          have hX0 := hX.fx t2 (by decide) (by decide) (by decide) (by decide)
          obtain ⟨M1, a1, a2, a3⟩ := x_ways (n := k) hb0 pa47 ok.2.1 ok.2.2.1 ok.2.2.2.1 (by omega) ok.1 t3 hX0.2.2.2.2.2.2 hX0.2.1 hX0.2.2.1
          have hb1 := hb0.fx a2 (by decide) (by decide)
          have fr1 : Fx SA SF M M1 := (t2.mono (by decide) (by decide)).tr (a2.mono (by decide) (by decide))
          have okg := go_ok (a := stW0 s) (b := stW1 s) hb.1 (hb.okT ok.2.1) k _ ok.1
          have hX1 := hX.fx fr1 (by decide) (by decide) (by decide) (by decide)
          -- the class's answer
          obtain ⟨M2, e1, e2⟩ := x_winner hb1 ok.2.1 okg.1 pa47 a3 hX1.2.2.2.2.2.2
          have mid : ∀ MX, Fx SA SF M MX → ∃ M4, (cA (f_X12_in (nI k) 1 99 MX) fun v1 M1 => if v1 = 0 then some (-2, M1) else cA (f_X12_in v 0 1 M1) fun v2 M2 => if v2 = 0 then some (-2, M2) else cR M2 (some 230) (1, 12) (cA (f_X12_laysNow (some 230) M2) fun _ M3 => cR M3 (some 230) (1, 12) (cA (f_X12_goesFor (some 230) (nI k) M3) fun v3 M4 => if v = 1 then some (v3, M4) else cR M4 (some 230) (1, 12) (cA (f_X12_isOver (some 230) M4) fun v4 M5 => if v4 = 0 then some (-1, M5) else gI M5 (some 230) 12 45 fun v5 => some (v5, M5))))) = some (if v = 1 then nI (goS w h τ (stB s) (stW0 s) (stW1 s) k (stP s)).1 else if popC (ablS w h (tT τ (stB s)) (goS w h τ (stB s) (stW0 s) (stW1 s) k (stP s)).2) 8 < 3 then nI (goS w h τ (stB s) (stW0 s) (stW1 s) k (stP s)).2.2.2 else m1, M4) ∧ Fx SA SF M M4 := by
            intro MX fr
            have hbX := hb.fx fr (by decide) (by decide)
            have hSX := hS.fx fr (by decide)
            obtain ⟨N1, b1, b2, b3⟩ := y_now hbX hSX
            have hbN := hbX.fx b2 (by decide) (by decide)
            have hSN := hSX.fx b2 (by decide)
            obtain ⟨N2, c1, c2, c3, c4⟩ := y_ways (n := k) hbN ok.2.1 ok.2.2.1 ok.2.2.2.1 (by omega) ok.1 b3 hSN.2.2.1 hSN.2.2.2.1 hSN.2.2.2.2.1
            have hbN2 := hbN.fx c2 (by decide) (by decide)
            refine ⟨N2, ?_, (fr.tr (b2.mono (by decide) (by decide))).tr (c2.mono (by decide) (by decide))⟩
            rw [in_ok h1 h2, cA_s, if_neg (by decide), in_ok h3 h4, cA_s, if_neg (by decide), cR_t (ly_t230 hbX.lay), b1, cA_s, cR_t (ly_t230 hbN.lay), c1, cA_s]
            by_cases e : v = 1
            · rw [if_pos e, if_pos e]
            · rw [if_neg e, if_neg e, cR_t (ly_t230 hbN2.lay), y_isOver hbN2 c4, cA_s]
              by_cases ho : popC (ablS w h (tT τ (stB s)) (goS w h τ (stB s) (stW0 s) (stW1 s) k (stP s)).2) 8 < 3
              · rw [if_pos ho, if_neg (by decide), gI_t (ly_t230 hbN2.lay), c3.2.2, if_pos ho]
              · rw [if_neg ho, if_pos (by decide), if_neg ho]; rfl
          by_cases e : v = 1
          · obtain ⟨M4, z1, z2⟩ := mid M1 fr1
            rw [if_pos e] at z1
            refine ⟨_, M1, M4, ?_, z1, z2⟩
            rw [gR_t (ly_t8 hl), ly_r8_12 hl, gR_t (ly_t8 hl), ly_r8_2 hl, gR_t (ly_t9 hl), ly_r9_0 hl, cR_t (ly_t47 hl), t1, cA_s, gR_t (ly_t8 hb0.lay), ly_r8_12 hb0.lay, cR_t (ly_t8 hb0.lay), a1, cA_s, if_pos e]
          · obtain ⟨M4, z1, z2⟩ := mid M2 (fr1.tr (e2.mono (by decide) (by decide)))
            rw [if_neg e] at z1
            refine ⟨_, M2, M4, ?_, z1, z2⟩
            rw [gR_t (ly_t8 hl), ly_r8_12 hl, gR_t (ly_t8 hl), ly_r8_2 hl, gR_t (ly_t9 hl), ly_r9_0 hl, cR_t (ly_t47 hl), t1, cA_s, gR_t (ly_t8 hb0.lay), ly_r8_12 hb0.lay, cR_t (ly_t8 hb0.lay), a1, cA_s, if_neg e, gR_t (ly_t8 hb1.lay), ly_r8_12 hb1.lay, cR_t (ly_t8 hb1.lay), e1, cA_s]
theorem c_play {a b c no dn : Int32} (hp : Pre w h L s τ M) : ∃ r M1 M2 s', f_X11_play (some 8) a b c no dn M = some (r, M1) ∧ f_X12_play (some 230) a b c no dn M1 = some (r, M2) ∧ Fx (10 :: 231 :: SA) SF M M2 ∧ Pre w h L s' τ M2 ∧ s'.2 = s.2 := by
  have hp0 := hp
  obtain ⟨hb, ok, hX, hS⟩ := hp
  have hl := hb.lay
  obtain ⟨bits, hbits⟩ : ∃ bits, f_X10_bitsOf a b c M = some (bits, M) := by
    by_cases ht : ∃ x y z, isTrip a b c x y z
    · obtain ⟨x, y, z, ht⟩ := ht
      exact ⟨_, x_bitsOf ht⟩
    · exact ⟨_, x_bitsOf_n ht⟩
  by_cases hpl : ∃ n d, plyP (ablS w h (tT τ (stB s)) (stP s)) a b c no dn n d
  · obtain ⟨n, d, hpl⟩ := hpl
    obtain ⟨o1, o2, o3, o4, o5, o6, o7⟩ := hpl.ok
    obtain ⟨M1, a1, a2, a3⟩ := x_told_y hb ok.2.1 ok.1 pa10 hX.1 hX.2.2.2.2.2.2 hpl hbits
    have hb1 := hb.fx a2 (by decide) (by decide)
    have hS1 := hS.fx a2 (by decide)
    obtain ⟨N1, b1, b2, b3⟩ := y_now hb1 hS1
    have hbN := hb1.fx b2 (by decide) (by decide)
    have hSN := hS1.fx b2 (by decide)
    obtain ⟨N2, c1, c2, c3⟩ := y_moves hbN b3 ok.1 ok.2.1 hSN.2.2.1
    have hbN2 := hbN.fx c2 (by decide) (by decide)
    have hSN2 := hSN.fx c2 (by decide)
    have hMN2 := b3.fx c2 (by decide) (by decide)
    have hcp : f_X12_canPly (some 230) a b c no dn N2 = some (nI 1, N2) := by
      rcases y_canPly (a := a) (b := b) (c := c) (no := no) (dn := dn) hbN2 (laid_abl c3) with q | q
      · exact q.2
      · exact absurd ⟨n, d, hpl⟩ q.1
    obtain ⟨g1, bb, g2⟩ := abl_can o5
    obtain ⟨f1, f2, f3⟩ := c3.2 d o2
    obtain ⟨N3, d1, d2, d3⟩ := y_plays hbN2 hMN2 ok.1 ok.2.1 hSN2.2.2.1 o1 o2 o3 g1 g2 f1 f2 f3
    have hbN3 := hbN2.fx d2 (by decide) (by decide)
    obtain ⟨N4, e1, e2, e3⟩ := y_keep hbN3 d3 (hSN2.fx d2 (by decide))
    have frx : Fx (231 :: SA) SF M1 N4 := (((b2.mono (by decide) (by decide)).tr (c2.mono (by decide) (by decide))).tr (d2.mono (by decide) (by decide))).tr (e2.mono (by decide) (by decide))
    refine ⟨nI 1, M1, N4, withP s (sucS w h (tT τ (stB s)) (stP s) n d), ?_, ?_, (a2.mono (by decide) (by decide)).tr (frx.mono (by decide) (by decide)), ⟨hb1.fx frx (by decide) (by decide), ⟨suc_ok hb.1 (hb.okT ok.2.1) ok.1 o1 o2 o5, ok.2⟩, ?_, e3⟩, rfl⟩
    · unfold f_X11_play
      rw [gR_t (ly_t8 hl), ly_r8_2 hl, gR_t (ly_t9 hl), ly_r9_0 hl, hbits, cA_s, cR_t (ly_t8 hl), a1, cA_s, tv_n1]
    · unfold f_X12_play
      rw [cR_t (ly_t230 hb1.lay), b1, cA_s, cR_t (ly_t230 hbN.lay), c1, cA_s, cR_t (ly_t230 hbN2.lay), hcp, cA_s, if_neg (by decide), cR_t (ly_t230 hbN2.lay), o6, o7, d1, cA_s, cR_t (ly_t230 hbN3.lay), e1, cA_s, tv_1]
      rfl
    · have hX1 : StX 9 (withP s (sucS w h (tT τ (stB s)) (stP s) n d)) M1 := ⟨a3, by rw [a2.ib (by decide)]; exact hX.2.1, by rw [a2.ib (by decide)]; exact hX.2.2.1, by rw [a2.ib (by decide)]; exact hX.2.2.2.1, by rw [a2.ib (by decide)]; exact hX.2.2.2.2.1, by rw [a2.ib (by decide)]; exact hX.2.2.2.2.2.1, by rw [a2.ib (by decide)]; exact hX.2.2.2.2.2.2⟩
      exact hX1.fx frx (by decide) (by decide) (by decide) (by decide)
  · obtain ⟨M1, a1, a2⟩ := x_told_n hb ok.2.1 ok.1 pa10 hX.1 hX.2.2.2.2.2.2 hpl hbits
    have hp1 : Pre w h L s τ M1 := hp0.fx a2 (by decide) (by decide) (by decide) (by decide) (by decide) (by decide) (by decide)
    obtain ⟨N1, N2, b1, b2, b3, b4, b5, b6, b7⟩ := y_lay hp1
    have hcp : f_X12_canPly (some 230) a b c no dn N2 = some (nI 0, N2) := by
      rcases y_canPly (a := a) (b := b) (c := c) (no := no) (dn := dn) b4 (laid_abl b7) with q | q
      · exact absurd q.1 hpl
      · exact q.2
    have fr : Fx SA SF M N2 := (a2.mono (by decide) (by decide)).tr (b5.mono (by decide) (by decide))
    refine ⟨nI 0, M1, N2, s, ?_, ?_, fr.mono (by decide) (by decide), hp0.fx fr (by decide) (by decide) (by decide) (by decide) (by decide) (by decide) (by decide), rfl⟩
    · unfold f_X11_play
      rw [gR_t (ly_t8 hl), ly_r8_2 hl, gR_t (ly_t9 hl), ly_r9_0 hl, hbits, cA_s, cR_t (ly_t8 hl), a1, cA_s, tv_n0]
    · unfold f_X12_play
      rw [cR_t (ly_t230 hp1.1.lay), b1, cA_s, cR_t (ly_t230 b3.lay), b2, cA_s, cR_t (ly_t230 b4.lay), hcp, cA_s, if_pos (by decide), tv_0]
      rfl
end CALLS1
