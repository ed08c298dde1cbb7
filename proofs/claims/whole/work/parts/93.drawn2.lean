/-! ===== games by draws in the reference; can ===== -/
section DRAWN2
variable {w h L : Nat} {s : Std} {τ : Nat → Txt}
theorem y_dr94 {M : Mem} {n sd v g : Nat} {π : Pos} (hp : Pre w h L s τ M) (hsd : sd < 2) (ok : okN w h π) (hM : MPos π M) (hL : LaidAt (canS w h (tT τ (stB s)) π) (ablS w h (tT τ (stB s)) π) 8 M) (q : Option Nat → Int32 → Int32 → Int32 → Int32 → Mem → Option (Int32 × Mem)) : f_X12_drawn_94 q (some 230) (nI n) (nI sd) (nI v) (nI g) M = q (some 230) (nI n) (nI sd) (nI (v + (if popC (ablS w h (tT τ (stB s)) π) 8 < 3 ∧ π.2.2 = sd then 1 else 0))) (nI (g + 1)) M := by
  have ht := ok.1.2.2.2
  unfold f_X12_drawn_94
  rw [cR_t (ly_t230 hp.1.lay), y_isOver hp.1 hL, cA_s, nI_1, nI_1, show (0 : Int32) = nI 0 from rfl, nI_add]
  by_cases ho : popC (ablS w h (tT τ (stB s)) π) 8 < 3
  · rw [if_pos ho, if_neg (by decide), gI_t (ly_t230 hp.1.lay), hM.2.2]
    by_cases e : π.2.2 = sd
    · rw [if_pos (by rw [e]), if_pos ⟨ho, e⟩]
    · rw [if_neg (nIne (by omega) (by omega) e), if_neg (fun z => e z.2)]
  · rw [if_neg ho, if_pos (by decide), if_neg (fun z => ho z.1)]
theorem y_dr66 {n sd v g : Nat} (hsd : sd < 2) (q : Option Nat → Int32 → Int32 → Int32 → Int32 → Mem → Option (Int32 × Mem)) : ∀ (k f i c : Nat) (π : Pos) (M : Mem), i + k = 30 → k < f → c ≤ 70002 → Pre w h L s τ M → okN w h π → MPos π M → LaidAt (canS w h (tT τ (stB s)) π) (ablS w h (tT τ (stB s)) π) 8 M → mI M 230 57 = nI c → ∃ M', f_X12_drawn_66 q f (some 230) (nI n) (nI sd) (nI v) (nI g) (nI i) M = q (some 230) (nI n) (nI sd) (nI (v + (if popC (ablS w h (tT τ (stB s)) (drS w h (tT τ (stB s)) k c π).2) 8 < 3 ∧ (drS w h (tT τ (stB s)) k c π).2.2.2 = sd then 1 else 0))) (nI (g + 1)) M' ∧ Fx dyA dyF M M' ∧ mI M' 230 57 = nI (drS w h (tT τ (stB s)) k c π).1
  | k, 0, i, c, π, M => fun _ z => absurd z (by omega)
  | 0, f + 1, i, c, π, M => by
    intro hi _ hc hp ok hM hL hC
    obtain rfl : i = 30 := by omega
    refine ⟨M, ?_, Fx.rf, hC⟩
    rw [u_X12_drawn_66]
    unfold b_X12_drawn_66
    rw [if_pos (by decide), y_dr94 hp hsd ok hM hL]
    rfl
  | k + 1, f + 1, i, c, π, M => by
    intro hi hf hc hp ok hM hL hC
    have hl := hp.1.lay
    rw [u_X12_drawn_66]
    unfold b_X12_drawn_66
    rw [if_neg (show ¬ (30 : Int32) ≤ nI i from nI_ge (b := 30) (by omega) (by decide)), cR_t (ly_t230 hl), y_isOver hp.1 hL, cA_s]
    by_cases ho : popC (ablS w h (tT τ (stB s)) π) 8 < 3
    · rw [if_pos ho, if_neg (by decide), y_dr94 hp hsd ok hM hL, drS_o ho]
      exact ⟨M, rfl, Fx.rf, hC⟩
    · obtain ⟨M1, a1, a2, a3, a4⟩ := y_drawsPly hp hc ok hM hL ho hC
      have hp1 : Pre w h L s τ M1 := hp.fx2 a2 (by decide)
      obtain ⟨d1, d2, d3, d4⟩ := dr_ok (c := c) ho
      have ok1 := suc_ok hp.1.1 (hp.1.okT hp.2.1.2.1) ok d1 d2 d4
      obtain ⟨M2, b1, b2, b3⟩ := y_moves hp1.1 a3 ok1 hp.2.1.2.1 hp1.2.2.2.2.2.1
      have fr : Fx dyA dyF M M2 := a2.tr (b2.mono (by decide) (by decide))
      obtain ⟨M3, z1, z2, z3⟩ := y_dr66 (n := n) (v := v) (g := g) hsd q k f (i + 1) (nxC (nxC (nxC c))) _ M2 (by omega) (by omega) (by have := nxC_lt (nxC (nxC c)); omega) (hp.fx2 fr (by decide)) ok1 (a3.fx b2 (by decide) (by decide)) b3 (by rw [b2.i (by decide) (by decide)]; exact a4)
      refine ⟨M3, ?_, fr.tr z2, by rw [drS_s ho]; exact z3⟩
      rw [if_neg ho, if_pos (by decide), cR_t (ly_t230 hl), a1, cA_s, cR_t (ly_t230 hp1.1.lay), b1, cA_s, nI_1, drS_s ho]
      exact z1
theorem y_dr_l {n sd : Nat} (hn : n ≤ 20) (hsd : sd < 2) : ∀ (k f g c v : Nat) (M : Mem), g + k = n → k < f → c ≤ 70002 → Pre w h L s τ M → mI M 230 57 = nI c → ∃ M', f_X12_drawn_49 f (some 230) (nI n) (nI sd) (nI v) (nI g) M = some (nI (v + drG w h (tT τ (stB s)) (stP s) sd k c), M') ∧ Fx dyA dyF M M'
  | k, 0, g, c, v, M => fun _ z => absurd z (by omega)
  | 0, f + 1, g, c, v, M => by
    intro hg _ _ hp hC
    obtain rfl : g = n := by omega
    refine ⟨M, ?_, Fx.rf⟩
    rw [u_X12_drawn_49]
    unfold b_X12_drawn_49
    rw [if_pos (Int32.le_refl _)]
    rfl
  | k + 1, f + 1, g, c, v, M => by
    intro hg hf hc hp hC
    have hl := hp.1.lay
    obtain ⟨N1, N2, b1, b2, b3, b4, b5, b6, b7⟩ := y_lay hp
    have hp2 : Pre w h L s τ N2 := hp.fx2 b5 (by decide)
    have fr0 : Fx dyA dyF M N2 := by
      obtain ⟨M1, a1, a2, a3⟩ := y_now hp.1 hp.2.2.2
      rw [a1] at b1
      cases b1
      obtain ⟨M2, c1, c2, c3⟩ := y_moves (hp.fx2 a2 (by decide)).1 a3 hp.2.1.1 hp.2.1.2.1 (hp.fx2 a2 (by decide)).2.2.2.2.2.1
      rw [c1] at b2
      cases b2
      exact (a2.mono (by decide) (by decide)).tr (c2.mono (by decide) (by decide))
    obtain ⟨k1, k2⟩ := drS_ok (T := tT τ (stB s)) hp.1.1 (hp.1.okT hp.2.1.2.1) 30 c (stP s) hc hp.2.1.1
    obtain ⟨M3, z1, z2, z3⟩ := y_dr66 (n := n) (v := v) (g := g) hsd (f_X12_drawn_49 f) 30 FU 0 c (stP s) N2 (by omega) (by decide) hc hp2 hp.2.1.1 b6 b7 (by rw [b5.i (by decide) (by decide)]; exact hC)
    have fr : Fx dyA dyF M M3 := fr0.tr z2
    obtain ⟨M4, y1, y2⟩ := y_dr_l hn hsd k f (g + 1) _ (v + (if popC (ablS w h (tT τ (stB s)) (drS w h (tT τ (stB s)) 30 c (stP s)).2) 8 < 3 ∧ (drS w h (tT τ (stB s)) 30 c (stP s)).2.2.2 = sd then 1 else 0)) M3 (by omega) (by omega) k1 (hp.fx2 fr (by decide)) z3
    refine ⟨M4, ?_, fr.tr y2⟩
    rw [u_X12_drawn_49]
    unfold b_X12_drawn_49
    rw [if_neg (nI_ge (by omega) (by omega)), cR_t (ly_t230 hl), b1, cA_s, cR_t (ly_t230 b3.lay), b2, cA_s, show (0 : Int32) = nI 0 from rfl, z1, y1]
    congr 3
    exact Nat.add_assoc _ _ _
theorem x_isSide {M : Mem} {k : Nat} (hk : k < 2) : f_X11_isSide (nI k) M = some (nI 1, M) := by
  unfold f_X11_isSide
  rcases (show k = 0 ∨ k = 1 by omega) with rfl | rfl
  · rw [if_pos (by decide), tv_1]; rfl
  · rw [if_neg (by decide), if_pos (by decide), tv_1]; rfl
theorem x_isSide_n {M : Mem} {v : Int32} (hv : v < 0 ∨ (1 : Int32) < v) : f_X11_isSide v M = some (nI 0, M) := by
  unfold f_X11_isSide
  have h0 : v ≠ 0 := by
    rintro rfl
    rcases hv with q | q
    · exact absurd q (by decide)
    · exact absurd q (by decide)
  have h1 : v ≠ 1 := by
    rintro rfl
    rcases hv with q | q
    · exact absurd q (by decide)
    · exact absurd q (by decide)
  rw [if_neg h0, if_neg h1, tv_0]
  rfl
theorem c_drawn {M : Mem} {sd n who : Int32} (hp : Pre w h L s τ M) : ∃ r M1 M2, f_X11_drawn (some 8) sd n who M = some (r, M1) ∧ f_X12_drawn (some 230) sd n who M1 = some (r, M2) ∧ Fx SA SF M M2 := by
  have hl := hp.1.lay
  unfold f_X11_drawn f_X12_drawn
  by_cases h1 : sd < 0
  · exact ⟨-1, M, M, by rw [if_pos h1], by rw [in_lo h1, cA_s, if_pos (by decide)], Fx.rf⟩
  · rw [if_neg h1]
    by_cases h2 : (9999 : Int32) < sd
    · exact ⟨-1, M, M, by rw [if_pos h2], by rw [in_hi h2, cA_s, if_pos (by decide)], Fx.rf⟩
    · rw [if_neg h2]
      by_cases h3 : n < 1
      · exact ⟨-1, M, M, by rw [if_pos h3], by rw [in_ok h1 h2, cA_s, if_neg (by decide), in_lo h3, cA_s, if_pos (by decide)], Fx.rf⟩
      · rw [if_neg h3]
        by_cases h4 : (20 : Int32) < n
        · exact ⟨-1, M, M, by rw [if_pos h4], by rw [in_ok h1 h2, cA_s, if_neg (by decide), in_hi h4, cA_s, if_pos (by decide)], Fx.rf⟩
        · rw [if_neg h4]
          by_cases h5 : who < 0
          · exact ⟨-1, M, M, by rw [x_isSide_n (Or.inl h5), cA_s, if_pos (by decide)], by rw [in_ok h1 h2, cA_s, if_neg (by decide), in_ok h3 h4, cA_s, if_neg (by decide), in_lo h5, cA_s, if_pos (by decide)], Fx.rf⟩
          · by_cases h6 : (1 : Int32) < who
            · exact ⟨-1, M, M, by rw [x_isSide_n (Or.inr h6), cA_s, if_pos (by decide)], by rw [in_ok h1 h2, cA_s, if_neg (by decide), in_ok h3 h4, cA_s, if_neg (by decide), in_hi h6, cA_s, if_pos (by decide)], Fx.rf⟩
            · obtain ⟨sd', k1, k2, rfl⟩ := rng (a := 0) (b := 9999) (by decide) (by decide) h1 h2
              obtain ⟨n', k3, k4, rfl⟩ := rng (a := 1) (b := 20) (by decide) (by decide) h3 h4
              obtain ⟨w', k5, k6, rfl⟩ := rng (a := 0) (b := 1) (by decide) (by decide) h5 h6
              have e : nI sd' * (7 : Int32) + (9 : Int32) = nI (sd' * 7 + 9) := by rw [show (7 : Int32) = nI 7 from rfl, show (9 : Int32) = nI 9 from rfl, pk_mul, nI_add]
              have f0 : Fx dxA dxF M (sI M 8 15 (nI (sd' * 7 + 9))) := Fx.wI (Or.inr (by decide))
              obtain ⟨M1, a1, a2⟩ := x_dr_l (n := n') (sd := w') (by omega) (by omega) n' FU 0 (sd' * 7 + 9) 0 _ (by omega) (by unfold FU; omega) (by omega) (by omega) (hp.fx2 f0 (by decide)) mI_e
              have fr1 : Fx SA SF M M1 := (f0.mono (by decide) (by decide)).tr (a2.mono (by decide) (by decide))
              have hp1 : Pre w h L s τ M1 := hp.fx2 fr1 (by decide)
              have f2 : Fx dyA dyF M1 (sI M1 230 57 (nI (sd' * 7 + 9))) := Fx.wI (Or.inr (by decide))
              obtain ⟨M2, b1, b2⟩ := y_dr_l (n := n') (sd := w') (by omega) (by omega) n' FU 0 (sd' * 7 + 9) 0 _ (by omega) (by unfold FU; omega) (by omega) (hp1.fx2 f2 (by decide)) mI_e
              refine ⟨nI (0 + drG w h (tT τ (stB s)) (stP s) w' n' (sd' * 7 + 9)), M1, M2, ?_, ?_, (fr1.tr (f2.mono (by decide) (by decide))).tr (b2.mono (by decide) (by decide))⟩
              · rw [x_isSide (by omega), cA_s, if_neg (by decide), pI_t (ly_t8 hl), e]
                exact a1
              · rw [in_ok h1 h2, cA_s, if_neg (by decide), in_ok h3 h4, cA_s, if_neg (by decide), in_ok h5 h6, cA_s, if_neg (by decide), pI_t (ly_t230 hp1.1.lay), e]
                exact b1
theorem c_can {M : Mem} {mv wt : Int32} (hp : Pre w h L s τ M) : ∃ r M1 M2, f_X11_can (some 8) mv wt M = some (r, M1) ∧ f_X12_can (some 230) mv wt M1 = some (r, M2) ∧ Fx SA SF M M2 := by
  have hl := hp.1.lay
  have hX := hp.2.2.1
  have hx := hp.2.1.2.1
  have ok := hp.2.1.1
  unfold f_X11_can f_X12_can
  by_cases hm : isMv mv
  · obtain ⟨m, hm, rfl⟩ := hm
    obtain ⟨M1, a1, a2, a3⟩ := x_look (μ := fun j => j == m) hp.1 hx ok.1 pa10 hX.1
    have hp1 : Pre w h L s τ M1 := hp.fx2 a2 (by decide)
    have hl1 := hp1.1.lay
    have hsh : (1 : Int32) <<< (nI m &&& 31) = nI (bS (fun j => j == m) 8) := sh_one hm
    have hbm : (fun j => if (j == m) = true then canS w h (tT τ (stB s)) (stP s) j else none) m = canS w h (tT τ (stB s)) (stP s) m := by simp
    have hz : (nI (bS (fun j => ((if (j == m) = true then canS w h (tT τ (stB s)) (stP s) j else none : Bst)).isSome) 8) = 0) ↔ canS w h (tT τ (stB s)) (stP s) m = none := by
      have e0 : (0 : Int32) = nI (bS (fun _ => false) 8) := by rw [bS_0]; rfl
      rw [e0, bS_eqN (by decide)]
      constructor
      · intro q
        have := q m hm
        simp at this
        exact this
      · intro q j hj
        by_cases e : j = m
        · subst e; simp [q]
        · simp [e]
    have hcl : f_X11_can (some 8) (nI m) wt M = (if canS w h (tT τ (stB s)) (stP s) m = none then some (-1, M1) else if wt = 0 then some (bF (canS w h (tT τ (stB s)) (stP s) m), M1) else if wt = 1 then some (bG (canS w h (tT τ (stB s)) (stP s) m), M1) else if wt = 2 then some (bK (canS w h (tT τ (stB s)) (stP s) m), M1) else some (-1, M1)) := by
      unfold f_X11_can
      rw [x_isMove hm, cA_s, if_neg (by decide), gR_t (ly_t8 hl), ly_r8_8 hl, gR_t (ly_t8 hl), ly_r8_2 hl, gR_t (ly_t9 hl), ly_r9_0 hl, gR_t (ly_t8 hl), ly_r8_2 hl, gI_t (ly_t9 hl), hX.2.2.2.2.2.2, cR_t (ly_t8 hl), x_rules hp.1 hx, cA_s, cR_t (ly_t203 hl), hsh, a1, cA_s, gR_t (ly_t8 hl1), ly_r8_8 hl1, gI_t (ly_t203 hl1), a3.1]
      by_cases hn : canS w h (tT τ (stB s)) (stP s) m = none
      · rw [if_pos (hz.mpr hn), if_pos hn]
      · rw [if_neg (fun q => hn (hz.mp q)), if_neg hn]
        obtain ⟨b, hb⟩ : ∃ b, canS w h (tT τ (stB s)) (stP s) m = some b := by
          cases hc : canS w h (tT τ (stB s)) (stP s) m with
          | none => exact absurd hc hn
          | some b => exact ⟨b, rfl⟩
        obtain ⟨-, -, -, -, -, l6, l7, l8⟩ := a3.2 m hm b (by rw [hbm]; exact hb)
        rw [hb]
        by_cases e0 : wt = 0
        · rw [if_pos e0, if_pos e0, gR_t (ly_t8 hl1), ly_r8_8 hl1, gR_t (ly_t203 hl1), ly_r203_0 hl1, aI_t (ly_t204 hl1) hm (by decide), l6]; rfl
        · rw [if_neg e0, if_neg e0]
          by_cases e1 : wt = 1
          · rw [if_pos e1, if_pos e1, gR_t (ly_t8 hl1), ly_r8_8 hl1, gR_t (ly_t203 hl1), ly_r203_1 hl1, aI_t (ly_t205 hl1) hm (by decide), l7]; rfl
          · rw [if_neg e1, if_neg e1]
            by_cases e2 : wt = 2
            · rw [if_pos e2, if_pos e2, gR_t (ly_t8 hl1), ly_r8_8 hl1, gR_t (ly_t203 hl1), ly_r203_2 hl1, aI_t (ly_t206 hl1) hm (by decide), l8]; rfl
            · rw [if_neg e2, if_neg e2]
    have hcl' := hcl
    unfold f_X11_can at hcl'
    rw [hcl']
    have frx : Fx SA SF M M1 := a2.mono (by decide) (by decide)
    by_cases h1 : wt < 0
    · refine ⟨-1, M1, M1, ?_, ?_, frx⟩
      · have e0 : wt ≠ 0 := by rintro rfl; exact absurd h1 (by decide)
        have e1 : wt ≠ 1 := by rintro rfl; exact absurd h1 (by decide)
        have e2 : wt ≠ 2 := by rintro rfl; exact absurd h1 (by decide)
        rw [if_neg e0, if_neg e1, if_neg e2]
        split <;> rfl
      · rw [y_isMove hm, cA_s, if_neg (by decide), in_lo h1, cA_s, if_pos (by decide)]
    · by_cases h2 : (2 : Int32) < wt
      · refine ⟨-1, M1, M1, ?_, ?_, frx⟩
        · have e0 : wt ≠ 0 := by rintro rfl; exact absurd h2 (by decide)
          have e1 : wt ≠ 1 := by rintro rfl; exact absurd h2 (by decide)
          have e2 : wt ≠ 2 := by rintro rfl; exact absurd h2 (by decide)
          rw [if_neg e0, if_neg e1, if_neg e2]
          split <;> rfl
        · rw [y_isMove hm, cA_s, if_neg (by decide), in_hi h2, cA_s, if_pos (by decide)]
      · obtain ⟨k, k1, k2, rfl⟩ := rng (a := 0) (b := 2) (by decide) (by decide) h1 h2
        obtain ⟨N1, b1, b2, b3⟩ := y_now hp1.1 hp1.2.2.2
        have hpN : Pre w h L s τ N1 := hp1.fx2 b2 (by decide)
        obtain ⟨N2, c1, c2, c3, c4, c5⟩ := y_canDo hpN.1 b3 ok hx hm hpN.2.2.2.2.2.1
        have hpN2 : Pre w h L s τ N2 := hpN.fx2 c2 (by decide)
        refine ⟨if canS w h (tT τ (stB s)) (stP s) m = none then -1 else if nI k = 0 then bF (canS w h (tT τ (stB s)) (stP s) m) else if nI k = 1 then bG (canS w h (tT τ (stB s)) (stP s) m) else bK (canS w h (tT τ (stB s)) (stP s) m), M1, N2, ?_, ?_, (frx.tr (b2.mono (by decide) (by decide))).tr (c2.mono (by decide) (by decide))⟩
        · by_cases hn : canS w h (tT τ (stB s)) (stP s) m = none
          · rw [if_pos hn, if_pos hn]
          · rw [if_neg hn, if_neg hn]
            rcases (show k = 0 ∨ k = 1 ∨ k = 2 by omega) with rfl | rfl | rfl
            · rw [if_pos (by decide), if_pos (by decide)]
            · rw [if_neg (by decide), if_pos (by decide), if_neg (by decide), if_pos (by decide)]
            · rw [if_neg (by decide), if_neg (by decide), if_pos (by decide), if_neg (by decide), if_neg (by decide)]
        · cases hc : canS w h (tT τ (stB s)) (stP s) m with
          | none =>
            rw [hc] at c1
            have c1 : f_X12_canDo (some 230) (nI m) N1 = some (nI 0, N2) := c1
            rw [y_isMove hm, cA_s, if_neg (by decide), in_ok h1 h2, cA_s, if_neg (by decide), cR_t (ly_t230 hl1), b1, cA_s, cR_t (ly_t230 hpN.1.lay), c1, cA_s, if_pos (show nI 0 = (0 : Int32) from rfl), if_pos rfl]
          | some b =>
            rw [hc] at c1 c3 c4 c5
            have c1 : f_X12_canDo (some 230) (nI m) N1 = some (nI 1, N2) := c1
            rw [y_isMove hm, cA_s, if_neg (by decide), in_ok h1 h2, cA_s, if_neg (by decide), cR_t (ly_t230 hl1), b1, cA_s, cR_t (ly_t230 hpN.1.lay), c1, cA_s, if_neg (show ¬ nI 1 = (0 : Int32) by decide), if_neg (show ¬ (some b = none) by simp)]
            rcases (show k = 0 ∨ k = 1 ∨ k = 2 by omega) with rfl | rfl | rfl
            · rw [if_pos (show nI 0 = (0 : Int32) from rfl), if_pos (show nI 0 = (0 : Int32) from rfl), gI_t (ly_t230 hpN2.1.lay), c3]
            · rw [if_neg (show ¬ nI 1 = (0 : Int32) by decide), if_pos (show nI 1 = (1 : Int32) from rfl), if_neg (show ¬ nI 1 = (0 : Int32) by decide), if_pos (show nI 1 = (1 : Int32) from rfl), gI_t (ly_t230 hpN2.1.lay), c4]
            · rw [if_neg (show ¬ nI 2 = (0 : Int32) by decide), if_neg (show ¬ nI 2 = (1 : Int32) by decide), if_neg (show ¬ nI 2 = (0 : Int32) by decide), if_neg (show ¬ nI 2 = (1 : Int32) by decide), gI_t (ly_t230 hpN2.1.lay), c5]
  · exact ⟨-1, M, M, by rw [x_isMove_n hm, cA_s, if_pos (by decide)], by rw [y_isMove_n hm, cA_s, if_pos (by decide)], Fx.rf⟩
end DRAWN2
