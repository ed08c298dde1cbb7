/-! ===== about, ply ===== -/
section ABOUT
variable {w h L : Nat} {s s' : Std} {τ : Nat → Txt} {tp : Nat → Nat} {ln : Nat} {fl fp : Int32} {M : Mem}
theorem c_about {v : Int32} (hr : Rel0 w h L s s' τ tp ln fl fp M) : End w h L s τ M (f_X11_about (some 8) v) (f_X12_about (some 230) v) := by
  have hp := hr.1
  have hl := hp.1.lay
  have hX := hp.2.2.1
  have ok := hp.2.1.1
  have hle := hp.1.1.le
  have hpos := hp.1.1.pos
  obtain ⟨d0, d1, -, -, d4, d5, d6, -⟩ := hp.1.dim
  obtain ⟨a0, a1, a2, a3, a4, a5, a6, a7, a8⟩ := hp.2.2.2
  obtain ⟨-, -, -, -, -, r6, r7, r8, -⟩ := id hr
  by_cases e0 : v = 0
  · refine end_scr hr ⟨nI w, M, M, ?_, ?_, Fx.rf⟩
    · unfold f_X11_about; rw [if_pos e0, gI_t (ly_t8 hl), d0]
    · unfold f_X12_about; rw [if_pos e0, gI_t (ly_t230 hl), d4]
  by_cases e1 : v = 1
  · refine end_scr hr ⟨nI h, M, M, ?_, ?_, Fx.rf⟩
    · unfold f_X11_about; rw [if_neg e0, if_pos e1, gI_t (ly_t8 hl), d1]
    · unfold f_X12_about; rw [if_neg e0, if_pos e1, gI_t (ly_t230 hl), d5]
  by_cases e2 : v = 2
  · refine end_scr hr ⟨nI (stP s).2.2, M, M, ?_, ?_, Fx.rf⟩
    · unfold f_X11_about; rw [if_neg e0, if_neg e1, if_pos e2, gR_t (ly_t8 hl), ly_r8_2 hl, gR_t (ly_t9 hl), ly_r9_0 hl, gI_t (ly_t10 hl), hX.1.2.2.2]
    · unfold f_X12_about; rw [if_neg e0, if_neg e1, if_pos e2, gR_t (ly_t230 hl), ly_r230_3 hl, show (0 : Int32) = nI 0 from rfl, aI_t (ly_t231 hl) (by decide) (by decide), a0]
  by_cases e3 : v = 3
  · refine end_scr hr ⟨nI (stN s), M, M, ?_, ?_, Fx.rf⟩
    · unfold f_X11_about; rw [if_neg e0, if_neg e1, if_neg e2, if_pos e3, gR_t (ly_t8 hl), ly_r8_2 hl, gI_t (ly_t9 hl), hX.2.2.2.2.2.1]
    · unfold f_X12_about; rw [if_neg e0, if_neg e1, if_neg e2, if_pos e3, gR_t (ly_t230 hl), ly_r230_3 hl, show (1 : Int32) = nI 1 from rfl, aI_t (ly_t231 hl) (by decide) (by decide), a1]
  by_cases e4 : v = 4
  · refine end_scr hr ⟨oI (stB s), M, M, ?_, ?_, Fx.rf⟩
    · unfold f_X11_about; rw [if_neg e0, if_neg e1, if_neg e2, if_neg e3, if_pos e4, gR_t (ly_t8 hl), ly_r8_2 hl, gI_t (ly_t9 hl), hX.2.2.2.2.2.2]
    · unfold f_X12_about; rw [if_neg e0, if_neg e1, if_neg e2, if_neg e3, if_pos e4, gR_t (ly_t230 hl), ly_r230_3 hl, show (2 : Int32) = nI 2 from rfl, aI_t (ly_t231 hl) (by decide) (by decide), a2]
  by_cases e5 : v = 5
  · refine end_scr hr ⟨oI (stW0 s), M, M, ?_, ?_, Fx.rf⟩
    · unfold f_X11_about; rw [if_neg e0, if_neg e1, if_neg e2, if_neg e3, if_neg e4, if_pos e5, gR_t (ly_t8 hl), ly_r8_2 hl, gR_t (ly_t9 hl), ly_r9_1 hl, show (0 : Int32) = nI 0 from rfl, aI_t (ly_t11 hl) (by decide) (by decide), hX.2.1]
    · unfold f_X12_about; rw [if_neg e0, if_neg e1, if_neg e2, if_neg e3, if_neg e4, if_pos e5, gR_t (ly_t230 hl), ly_r230_3 hl, show (3 : Int32) = nI 3 from rfl, aI_t (ly_t231 hl) (by decide) (by decide), a3]
  by_cases e6 : v = 6
  · refine end_scr hr ⟨oI (stW1 s), M, M, ?_, ?_, Fx.rf⟩
    · unfold f_X11_about; rw [if_neg e0, if_neg e1, if_neg e2, if_neg e3, if_neg e4, if_neg e5, if_pos e6, gR_t (ly_t8 hl), ly_r8_2 hl, gR_t (ly_t9 hl), ly_r9_1 hl, show (1 : Int32) = nI 1 from rfl, aI_t (ly_t11 hl) (by decide) (by decide), hX.2.2.1]
    · unfold f_X12_about; rw [if_neg e0, if_neg e1, if_neg e2, if_neg e3, if_neg e4, if_neg e5, if_pos e6, gR_t (ly_t230 hl), ly_r230_3 hl, show (4 : Int32) = nI 4 from rfl, aI_t (ly_t231 hl) (by decide) (by decide), a4]
  by_cases e7 : v = 7
  · refine end_scr hr ⟨nI (stK s), M, M, ?_, ?_, Fx.rf⟩
    · unfold f_X11_about; rw [if_neg e0, if_neg e1, if_neg e2, if_neg e3, if_neg e4, if_neg e5, if_neg e6, if_pos e7, gR_t (ly_t8 hl), ly_r8_2 hl, gI_t (ly_t9 hl), hX.2.2.2.2.1]
    · unfold f_X12_about; rw [if_neg e0, if_neg e1, if_neg e2, if_neg e3, if_neg e4, if_neg e5, if_neg e6, if_pos e7, gR_t (ly_t230 hl), ly_r230_3 hl, show (5 : Int32) = nI 5 from rfl, aI_t (ly_t231 hl) (by decide) (by decide), a5]
  by_cases e8 : v = 8
  · refine end_scr hr ⟨nI ln, M, M, ?_, ?_, Fx.rf⟩
    · unfold f_X11_about; rw [if_neg e0, if_neg e1, if_neg e2, if_neg e3, if_neg e4, if_neg e5, if_neg e6, if_neg e7, if_pos e8, gR_t (ly_t8 hl), ly_r8_6 hl, gI_t (ly_t43 hl), r7]
    · unfold f_X12_about; rw [if_neg e0, if_neg e1, if_neg e2, if_neg e3, if_neg e4, if_neg e5, if_neg e6, if_neg e7, if_pos e8, gI_t (ly_t230 hl), r8]
  by_cases h10 : (v < 10) ∨ (17 : Int32) < v
  · -- not the heap
    have hX1 : f_X11_about (some 8) v M = f_X11_about_152 (some 8) v M := by
      unfold f_X11_about
      rw [if_neg e0, if_neg e1, if_neg e2, if_neg e3, if_neg e4, if_neg e5, if_neg e6, if_neg e7, if_neg e8]
      by_cases q : v < 10
      · rw [if_pos q]
      · rw [if_neg q]
        have h18 : (18 : Int32) ≤ v := by
          rcases h10 with z | z
          · exact absurd z q
          · rw [Int32.lt_iff_toInt_lt] at z
            rw [Int32.le_iff_toInt_le]
            have b1 : (17 : Int32).toInt = 17 := rfl
            have b2 : (18 : Int32).toInt = 18 := rfl
            omega
        rw [if_pos h18]
    have hin : f_X12_in v 10 17 M = some (nI 0, M) := by
      rcases h10 with z | z
      · exact in_lo z
      · exact in_hi z
    by_cases hu : v - 20 < 0 ∨ nI (w * h) ≤ v - 20
    · refine end_scr hr ⟨-2, M, M, ?_, ?_, Fx.rf⟩
      · rw [hX1]
        unfold f_X11_about_152
        by_cases q : v < 20
        · rw [if_pos q]
        · have q0 : ¬ v < 0 := by
            rw [Int32.lt_iff_toInt_lt] at q ⊢
            have b1 : (20 : Int32).toInt = 20 := rfl
            have b2 : (0 : Int32).toInt = 0 := rfl
            omega
          obtain ⟨j, hj, rfl⟩ := nI_of q0
          have hj20 : 20 ≤ j := by
            rcases Nat.lt_or_ge j 20 with z | z
            · exact absurd (nI_lt (b := 20) z (by decide)) q
            · exact z
          rw [show (20 : Int32) = nI 20 from rfl, pk_sub hj20] at hu
          have hge : 20 + w * h ≤ j := by
            rcases hu with z | z
            · exact absurd z (nI_pos (by omega))
            · rcases Nat.lt_or_ge (j - 20) (w * h) with y | y
              · exact absurd z (nI_ge y (by omega))
              · omega
          rw [if_neg q, gI_t (ly_t8 hl), gI_t (ly_t8 hl), d0, d1, pk_mul, show (20 : Int32) = nI 20 from rfl, nI_add, if_pos (nI_le hge hj)]
      · unfold f_X12_about
        rw [if_neg e0, if_neg e1, if_neg e2, if_neg e3, if_neg e4, if_neg e5, if_neg e6, if_neg e7, if_neg e8, hin, cA_s, if_pos (by decide), cR_t (ly_t230 hl), y_isPlace_n hp.1 hu, cA_s, if_pos (by decide)]
    · have u1 : ¬ v - 20 < 0 := fun z => hu (Or.inl z)
      have u2 : ¬ nI (w * h) ≤ v - 20 := fun z => hu (Or.inr z)
      obtain ⟨k, hk, ek⟩ := nI_of u1
      have hkl : k < w * h := by
        rw [ek] at u2
        rcases Nat.lt_or_ge k (w * h) with z | z
        · exact z
        · exact absurd (nI_le z hk) u2
      have ev : v = nI (20 + k) := by
        have : v = (v - 20) + 20 := (Int32.sub_add_cancel v 20).symm
        rw [this, ek, show (20 : Int32) = nI 20 from rfl, nI_add, Nat.add_comm]
      refine end_scr hr ⟨nI ((stP s).1 k), M, M, ?_, ?_, Fx.rf⟩
      · rw [hX1]
        unfold f_X11_about_152
        rw [ek, ev, if_neg (show ¬ nI (20 + k) < (20 : Int32) from nI_nlt (b := 20) (by omega) (by omega)), gI_t (ly_t8 hl), gI_t (ly_t8 hl), d0, d1, pk_mul, show (20 : Int32) = nI 20 from rfl, nI_add, if_neg (nI_ge (by omega) (by omega)), gR_t (ly_t8 hl), ly_r8_2 hl, gR_t (ly_t9 hl), ly_r9_0 hl, cR_t (ly_t10 hl), x_cell hX.1 ok.1 (by omega), cA_s]
      · unfold f_X12_about
        rw [if_neg e0, if_neg e1, if_neg e2, if_neg e3, if_neg e4, if_neg e5, if_neg e6, if_neg e7, if_neg e8, hin, cA_s, if_pos (by decide), cR_t (ly_t230 hl), ek, y_isPlace hp.1 hkl, cA_s, if_neg (by decide), gR_t (ly_t230 hl), ly_r230_3 hl, ev, show (20 : Int32) = nI 20 from rfl, nI_add, pk_sub (by omega), show 20 + (20 + k) - 20 = 20 + k by omega, aI_t (ly_t231 hl) (by omega) (by decide), a7 k (by omega)]
  · have g1 : ¬ v < 10 := fun z => h10 (Or.inl z)
    have g2 : ¬ (17 : Int32) < v := fun z => h10 (Or.inr z)
    obtain ⟨k, k1, k2, rfl⟩ := rng (a := 10) (b := 17) (by decide) (by decide) g1 g2
    refine end_scr hr ⟨nI ((stP s).2.1 (k - 10)), M, M, ?_, ?_, Fx.rf⟩
    · unfold f_X11_about
      rw [if_neg e0, if_neg e1, if_neg e2, if_neg e3, if_neg e4, if_neg e5, if_neg e6, if_neg e7, if_neg e8, if_neg g1, if_neg (show ¬ (18 : Int32) ≤ nI k from nI_ge (b := 18) (by omega) (by decide)), gR_t (ly_t8 hl), ly_r8_2 hl, gR_t (ly_t9 hl), ly_r9_0 hl, cR_t (ly_t10 hl), show (10 : Int32) = nI 10 from rfl, pk_sub k1, x_count hX.1 ok.1 (by omega), cA_s]
    · unfold f_X12_about
      rw [if_neg e0, if_neg e1, if_neg e2, if_neg e3, if_neg e4, if_neg e5, if_neg e6, if_neg e7, if_neg e8, in_ok g1 g2, cA_s, if_neg (by decide), gR_t (ly_t230 hl), ly_r230_3 hl, show (10 : Int32) = nI 10 from rfl, nI_add, pk_sub (by omega), show 10 + k - 10 = 10 + (k - 10) by omega, aI_t (ly_t231 hl) (by omega) (by decide), a6 _ (by omega)]
theorem c_ply {a b c d e : Int32} (hr : Rel0 w h L s s' τ tp ln fl fp M) : End w h L s τ M (f_X11_ply (some 8) a b c d e) (f_X12_ply (some 230) a b c d e) := by
  have hp := hr.1
  have hl := hp.1.lay
  have hX := hp.2.2.1
  obtain ⟨a0, a1, a2, a3, a4, a5, a6, a7, a8⟩ := hp.2.2.2
  have h40 := hp.2.1.2.2.2.2.2.1
  have hk := hX.2.2.2.2.1
  by_cases hN : a = -1
  · have fr1 : Fx [] [(9, 3)] M (sI M 9 3 0) := Fx.wI (Or.inr (by decide))
    have hb1 := hp.1.fx fr1 (by decide) (by decide)
    have fr2 : Fx [231] [(9, 3)] M (sI (sI M 9 3 0) 231 5 0) := (fr1.mono (by decide) (by decide)).I (Or.inl (by decide))
    refine ⟨0, sI M 9 3 0, sI (sI M 9 3 0) 231 5 0, (stP s, stB s, stW0 s, stW1 s, stN s, 0, stG s), s', tp, ln, fl, fp, ?_, ?_, hr.rest fr2 (by decide) ⟨hp.1.fx fr2 (by decide) (by decide), ⟨hp.2.1.1, hp.2.1.2.1, hp.2.1.2.2.1, hp.2.1.2.2.2.1, hp.2.1.2.2.2.2.1, by show 0 ≤ 40; omega, hp.2.1.2.2.2.2.2.2⟩, ?_, ?_⟩ rfl, fr2.mono (by decide) (by decide), rfl⟩
    · unfold f_X11_ply
      rw [if_pos hN, gR_t (ly_t8 hl), ly_r8_2 hl, pI_t (ly_t9 hl)]
    · unfold f_X12_ply
      rw [if_pos hN, gR_t (ly_t230 hb1.lay), ly_r230_3 hb1.lay, show (5 : Int32) = nI 5 from rfl, wI_t (ly_t231 hb1.lay) (by decide) (by decide)]
    · exact ⟨hX.1.fx fr2 (by decide), by rw [fr2.ib (by decide)]; exact hX.2.1, by rw [fr2.ib (by decide)]; exact hX.2.2.1, by rw [fr2.ib (by decide)]; exact hX.2.2.2.1, by rw [mI_na (by decide), mI_e]; rfl, by rw [fr2.i (by decide) (by decide)]; exact hX.2.2.2.2.2.1, by rw [fr2.i (by decide) (by decide)]; exact hX.2.2.2.2.2.2⟩
    · refine ⟨?_, ?_, ?_, ?_, ?_, mI_e, fun q hq => ?_, fun q hq => ?_, fun q hq => ?_⟩
      · rw [mI_nk (by omega), mI_na (by decide)]; exact a0
      · rw [mI_nk (by omega), mI_na (by decide)]; exact a1
      · rw [mI_nk (by omega), mI_na (by decide)]; exact a2
      · rw [mI_nk (by omega), mI_na (by decide)]; exact a3
      · rw [mI_nk (by omega), mI_na (by decide)]; exact a4
      · rw [mI_nk (by omega), mI_na (by decide)]; exact a6 q hq
      · rw [mI_nk (by omega), mI_na (by decide)]; exact a7 q hq
      · rw [mI_nk (by omega), mI_na (by decide)]; exact a8 q hq
  · by_cases hall : isMv a ∧ isMv b ∧ isMv c ∧ isMv d ∧ isMv e
    · obtain ⟨⟨x, hx, rfl⟩, ⟨y, hy, rfl⟩, ⟨z, hz, rfl⟩, ⟨n, hn, rfl⟩, ⟨d', hd, rfl⟩⟩ := hall
      have hXm : f_X11_ply (some 8) (nI x) (nI y) (nI z) (nI n) (nI d') M = f_X11_ply_57 (some 8) (nI x) (nI y) (nI z) (nI n) (nI d') 1 M := by
        unfold f_X11_ply
        rw [if_neg hN, x_isMove hx, cA_s, if_neg (by decide), x_isMove hy, cA_s, if_neg (by decide), x_isMove hz, cA_s, if_neg (by decide), x_isMove hn, cA_s, if_neg (by decide), x_isMove hd, cA_s, if_neg (by decide)]
      by_cases h4 : stK s < 40
      · have w1 : ∀ MX : Mem, Bs w h L (stN s) τ MX → mI MX 231 5 = nI (stK s) → f_X12_ply (some 230) (nI x) (nI y) (nI z) (nI n) (nI d') MX = some (nI (stK s + 1), sI (sI (sI (sI (sI (sI MX 231 (40 + 5 * stK s) (nI x)) 231 (40 + 5 * stK s + 1) (nI y)) 231 (40 + 5 * stK s + 2) (nI z)) 231 (40 + 5 * stK s + 3) (nI n)) 231 (40 + 5 * stK s + 4) (nI d')) 231 5 (nI (stK s + 1))) := by
          intro MX hbX hkX
          have hlX := hbX.lay
          have h4n : ¬ (stK s = 40) := by omega
          unfold f_X12_ply
          rw [if_neg hN, y_isMove hx, cA_s, if_neg (by decide), y_isMove hy, cA_s, if_neg (by decide), y_isMove hz, cA_s, if_neg (by decide), y_isMove hn, cA_s, if_neg (by decide), y_isMove hd, cA_s, if_neg (by decide)]
          simp (disch := first | omega | (simp (disch := omega) only [↓litm, lit, tN_n, nI_add, pk_mul, pk_sub, pk_div, nI_remN, nI_remN', nI_eq, nI_leI, nI_ltI, nI_nm1, m1_nI, m1_m1, m1_le, m1_lt, le_m1, lt_m1, oI_n, oI_s, bS_inN, bS_addN, bS_delN, not_true_eq_false, not_false_eq_true, and_true, true_and, if_true, if_false, mT_sI, mT_sL, mT_sR, mR_sI, mR_sL, mI_sL, mI_sR, mL_sI, mL_sR, mI_e, mI_na, mI_nk, mL_e, mL_na, mL_nk, inB_n, hkX, h4n]; done) | (simp (disch := omega) only [↓litm, lit, tN_n, nI_add, pk_mul, pk_sub, pk_div, nI_remN, nI_remN', nI_eq, nI_leI, nI_ltI, nI_nm1, m1_nI, m1_m1, m1_le, m1_lt, le_m1, lt_m1, oI_n, oI_s, bS_inN, bS_addN, bS_delN, not_true_eq_false, not_false_eq_true, and_true, true_and, if_true, if_false, mT_sI, mT_sL, mT_sR, mR_sI, mR_sL, mI_sL, mI_sR, mL_sI, mL_sR, mI_e, mI_na, mI_nk, mL_e, mL_na, mL_nk, inB_n, hkX, h4n]; omega)) only [↓T_230 hlX, ly_r230_3 hlX, ↓A_231 hlX, ↓e_gI, ↓e_gL, ↓e_gR, ↓e_pI, ↓e_pL, ↓e_pR, ↓e_cR, ↓e_aI, ↓e_aL, ↓e_aR, ↓e_wI, ↓e_wL, ↓e_aN, ↓t_sI, ↓t_sL, ↓t_sR, ↓q_sI, ↓q_sL, ↓q_sR, ↓n_sI, ↓n_sL, ↓n_sR, ↓cA_s, tv_0, tv_1, tv_n0, tv_n1, ↓nz_y, ↓reduceIte, mT_sI, mT_sL, mT_sR, mR_sI, mR_sL, mI_sL, mI_sR, mL_sI, mL_sR, mI_e, mI_na, mI_nk, mL_e, mL_na, mL_nk, ↓litm, lit, tN_n, nI_add, pk_mul, pk_sub, pk_div, nI_remN, nI_remN', nI_eq, nI_leI, nI_ltI, nI_nm1, m1_nI, m1_m1, m1_le, m1_lt, le_m1, lt_m1, oI_n, oI_s, bS_inN, bS_addN, bS_delN, not_true_eq_false, not_false_eq_true, and_true, true_and, if_true, if_false, hkX, h4n]
        have frA : Fx [12] [(9, 3)] M (sI (sI (sI (sI (sI (sI M 12 (stK s * 5) (nI x)) 12 (stK s * 5 + 1) (nI y)) 12 (stK s * 5 + 2) (nI z)) 12 (stK s * 5 + 3) (nI n)) 12 (stK s * 5 + 4) (nI d')) 9 3 (nI (stK s + 1))) := (((((Fx.wI (Or.inl (by decide))).I (Or.inl (by decide))).I (Or.inl (by decide))).I (Or.inl (by decide))).I (Or.inl (by decide))).I (Or.inr (by decide))
        have w0 : f_X11_ply_57 (some 8) (nI x) (nI y) (nI z) (nI n) (nI d') 1 M = some (nI (stK s + 1), sI (sI (sI (sI (sI (sI M 12 (stK s * 5) (nI x)) 12 (stK s * 5 + 1) (nI y)) 12 (stK s * 5 + 2) (nI z)) 12 (stK s * 5 + 3) (nI n)) 12 (stK s * 5 + 4) (nI d')) 9 3 (nI (stK s + 1))) := by
          have h1n : ¬ (1 = 0) := by decide
          unfold f_X11_ply_57
          simp (disch := first | omega | (simp (disch := omega) only [↓litm, lit, tN_n, nI_add, pk_mul, pk_sub, pk_div, nI_remN, nI_remN', nI_eq, nI_leI, nI_ltI, nI_nm1, m1_nI, m1_m1, m1_le, m1_lt, le_m1, lt_m1, oI_n, oI_s, bS_inN, bS_addN, bS_delN, not_true_eq_false, not_false_eq_true, and_true, true_and, if_true, if_false, mT_sI, mT_sL, mT_sR, mR_sI, mR_sL, mI_sL, mI_sR, mL_sI, mL_sR, mI_e, mI_na, mI_nk, mL_e, mL_na, mL_nk, inB_n, hk, h4, h1n]; done) | (simp (disch := omega) only [↓litm, lit, tN_n, nI_add, pk_mul, pk_sub, pk_div, nI_remN, nI_remN', nI_eq, nI_leI, nI_ltI, nI_nm1, m1_nI, m1_m1, m1_le, m1_lt, le_m1, lt_m1, oI_n, oI_s, bS_inN, bS_addN, bS_delN, not_true_eq_false, not_false_eq_true, and_true, true_and, if_true, if_false, mT_sI, mT_sL, mT_sR, mR_sI, mR_sL, mI_sL, mI_sR, mL_sI, mL_sR, mI_e, mI_na, mI_nk, mL_e, mL_na, mL_nk, inB_n, hk, h4, h1n]; omega)) only [↓T_8 hl, ly_r8_2 hl, ly_r8_3 hl, ly_r8_4 hl, ly_r8_5 hl, ly_r8_6 hl, ly_r8_7 hl, ly_r8_8 hl, ly_r8_9 hl, ly_r8_10 hl, ly_r8_11 hl, ly_r8_12 hl, ly_r8_13 hl, ly_r8_14 hl, ↓T_9 hl, ly_r9_0 hl, ly_r9_1 hl, ly_r9_2 hl, ↓A_12 hl, ↓e_gI, ↓e_gL, ↓e_gR, ↓e_pI, ↓e_pL, ↓e_pR, ↓e_cR, ↓e_aI, ↓e_aL, ↓e_aR, ↓e_wI, ↓e_wL, ↓e_aN, ↓t_sI, ↓t_sL, ↓t_sR, ↓q_sI, ↓q_sL, ↓q_sR, ↓n_sI, ↓n_sL, ↓n_sR, ↓cA_s, tv_0, tv_1, tv_n0, tv_n1, ↓nz_y, ↓reduceIte, mT_sI, mT_sL, mT_sR, mR_sI, mR_sL, mI_sL, mI_sR, mL_sI, mL_sR, mI_e, mI_na, mI_nk, mL_e, mL_na, mL_nk, ↓litm, lit, tN_n, nI_add, pk_mul, pk_sub, pk_div, nI_remN, nI_remN', nI_eq, nI_leI, nI_ltI, nI_nm1, m1_nI, m1_m1, m1_le, m1_lt, le_m1, lt_m1, oI_n, oI_s, bS_inN, bS_addN, bS_delN, not_true_eq_false, not_false_eq_true, and_true, true_and, if_true, if_false, hk, h4, h1n]
        generalize hMA : (sI (sI (sI (sI (sI (sI M 12 (stK s * 5) (nI x)) 12 (stK s * 5 + 1) (nI y)) 12 (stK s * 5 + 2) (nI z)) 12 (stK s * 5 + 3) (nI n)) 12 (stK s * 5 + 4) (nI d')) 9 3 (nI (stK s + 1))) = MA at *
        have hbA := hp.1.fx frA (by decide) (by decide)
        have w2 := w1 MA hbA (by rw [frA.ib (by decide)]; exact a5)
        have frB : Fx [231] [] MA (sI (sI (sI (sI (sI (sI MA 231 (40 + 5 * stK s) (nI x)) 231 (40 + 5 * stK s + 1) (nI y)) 231 (40 + 5 * stK s + 2) (nI z)) 231 (40 + 5 * stK s + 3) (nI n)) 231 (40 + 5 * stK s + 4) (nI d')) 231 5 (nI (stK s + 1))) := (((((Fx.wI (Or.inl (by decide))).I (Or.inl (by decide))).I (Or.inl (by decide))).I (Or.inl (by decide))).I (Or.inl (by decide))).I (Or.inl (by decide))
        have frC : Fx [12, 231] [(9, 3)] M (sI (sI (sI (sI (sI (sI MA 231 (40 + 5 * stK s) (nI x)) 231 (40 + 5 * stK s + 1) (nI y)) 231 (40 + 5 * stK s + 2) (nI z)) 231 (40 + 5 * stK s + 3) (nI n)) 231 (40 + 5 * stK s + 4) (nI d')) 231 5 (nI (stK s + 1))) := (frA.mono (by decide) (by decide)).tr (frB.mono (by decide) (by decide))
        refine ⟨nI (stK s + 1), MA, _, (stP s, stB s, stW0 s, stW1 s, stN s, stK s + 1, up1 (up1 (up1 (up1 (up1 (stG s) (5 * stK s) x) (5 * stK s + 1) y) (5 * stK s + 2) z) (5 * stK s + 3) n) (5 * stK s + 4) d'), s', tp, ln, fl, fp, by rw [hXm]; exact w0, w2, hr.rest frC (by decide) ⟨hp.1.fx frC (by decide) (by decide), ⟨hp.2.1.1, hp.2.1.2.1, hp.2.1.2.2.1, hp.2.1.2.2.2.1, hp.2.1.2.2.2.2.1, by show stK s + 1 ≤ 40; omega, ?_⟩, ?_, ?_⟩ rfl, frC.mono (by decide) (by decide), rfl⟩
        · have hg := hp.2.1.2.2.2.2.2.2
          have u : ∀ {f : Nat → Nat} {k v : Nat}, (∀ i, f i < 8) → v < 8 → ∀ i, up1 f k v i < 8 := by
            intro f k v hf hv i
            by_cases q : i = k
            · subst q; rw [up1_s]; exact hv
            · rw [up1_n q]; exact hf i
          exact u (u (u (u (u hg hx) hy) hz) hn) hd
        · refine ⟨hX.1.fx frC (by decide), by rw [frC.ib (by decide)]; exact hX.2.1, by rw [frC.ib (by decide)]; exact hX.2.2.1, ?_, ?_, by rw [frC.i (by decide) (by decide)]; exact hX.2.2.2.2.2.1, by rw [frC.i (by decide) (by decide)]; exact hX.2.2.2.2.2.2⟩
          · intro i hi
            rw [frB.ib (by decide), ← hMA, mI_na (by decide)]
            show _ = nI (up1 (up1 (up1 (up1 (up1 (stG s) (5 * stK s) x) (5 * stK s + 1) y) (5 * stK s + 2) z) (5 * stK s + 3) n) (5 * stK s + 4) d' i)
            simp only [mI_s, up1, Nat.mul_comm (stK s) 5, true_and, show (9 + 3 = 12) by rfl]
            repeat' split
            all_goals first | rfl | exact hX.2.2.2.1 i hi
          · rw [frB.ib (by decide), ← hMA, mI_e]; rfl
        · have hA : ∀ j, mI MA 231 j = mI M 231 j := fun j => by rw [frA.ib (by decide)]
          refine ⟨?_, ?_, ?_, ?_, ?_, mI_e, fun q hq => ?_, fun q hq => ?_, fun q hq => ?_⟩
          · rw [mI_nk (by omega), mI_nk (by omega), mI_nk (by omega), mI_nk (by omega), mI_nk (by omega), mI_nk (by omega), hA]; exact a0
          · rw [mI_nk (by omega), mI_nk (by omega), mI_nk (by omega), mI_nk (by omega), mI_nk (by omega), mI_nk (by omega), hA]; exact a1
          · rw [mI_nk (by omega), mI_nk (by omega), mI_nk (by omega), mI_nk (by omega), mI_nk (by omega), mI_nk (by omega), hA]; exact a2
          · rw [mI_nk (by omega), mI_nk (by omega), mI_nk (by omega), mI_nk (by omega), mI_nk (by omega), mI_nk (by omega), hA]; exact a3
          · rw [mI_nk (by omega), mI_nk (by omega), mI_nk (by omega), mI_nk (by omega), mI_nk (by omega), mI_nk (by omega), hA]; exact a4
          · rw [mI_nk (by omega), mI_nk (by omega), mI_nk (by omega), mI_nk (by omega), mI_nk (by omega), mI_nk (by omega), hA]; exact a6 q hq
          · rw [mI_nk (by omega), mI_nk (by omega), mI_nk (by omega), mI_nk (by omega), mI_nk (by omega), mI_nk (by omega), hA]; exact a7 q hq
          · show _ = nI (up1 (up1 (up1 (up1 (up1 (stG s) (5 * stK s) x) (5 * stK s + 1) y) (5 * stK s + 2) z) (5 * stK s + 3) n) (5 * stK s + 4) d' q)
            rw [mI_nk (show 40 + q ≠ 5 by omega)]
            simp only [mI_s, up1, true_and, hA, show (40 + q = 40 + 5 * stK s + 4) = (q = 5 * stK s + 4) by simp; omega, show (40 + q = 40 + 5 * stK s + 3) = (q = 5 * stK s + 3) by simp; omega, show (40 + q = 40 + 5 * stK s + 2) = (q = 5 * stK s + 2) by simp; omega, show (40 + q = 40 + 5 * stK s + 1) = (q = 5 * stK s + 1) by simp; omega, show (40 + q = 40 + 5 * stK s) = (q = 5 * stK s) by simp]
            repeat' split
            all_goals first | rfl | exact a8 q hq
      · have h4e : stK s = 40 := by omega
        refine end_scr hr ⟨-1, M, M, ?_, ?_, Fx.rf⟩
        · rw [hXm]
          unfold f_X11_ply_57
          rw [if_neg (by decide), gR_t (ly_t8 hl), ly_r8_2 hl, gI_t (ly_t9 hl), hk, h4e, if_neg (by decide)]
        · unfold f_X12_ply
          rw [if_neg hN, y_isMove hx, cA_s, if_neg (by decide), y_isMove hy, cA_s, if_neg (by decide), y_isMove hz, cA_s, if_neg (by decide), y_isMove hn, cA_s, if_neg (by decide), y_isMove hd, cA_s, if_neg (by decide), gR_t (ly_t230 hl), ly_r230_3 hl, show (5 : Int32) = nI 5 from rfl, aI_t (ly_t231 hl) (by decide) (by decide), a5, h4e, if_pos (by decide)]
    · refine end_scr hr ⟨-1, M, M, ?_, ?_, Fx.rf⟩
      · have h0 : f_X11_ply_57 (some 8) a b c d e 0 M = some (-1, M) := by unfold f_X11_ply_57; rw [if_pos rfl]
        unfold f_X11_ply
        rw [if_neg hN]
        by_cases ha : isMv a
        · obtain ⟨x, hx, rfl⟩ := id ha
          rw [x_isMove hx, cA_s, if_neg (by decide)]
          by_cases hb : isMv b
          · obtain ⟨y, hy, rfl⟩ := id hb
            rw [x_isMove hy, cA_s, if_neg (by decide)]
            by_cases hc : isMv c
            · obtain ⟨z, hz, rfl⟩ := id hc
              rw [x_isMove hz, cA_s, if_neg (by decide)]
              by_cases hd : isMv d
              · obtain ⟨n, hn, rfl⟩ := id hd
                rw [x_isMove hn, cA_s, if_neg (by decide)]
                by_cases he : isMv e
                · exact absurd ⟨ha, hb, hc, hd, he⟩ hall
                · rw [x_isMove_n he, cA_s, if_pos (by decide), h0]
              · rw [x_isMove_n hd, cA_s, if_pos (by decide), h0]
            · rw [x_isMove_n hc, cA_s, if_pos (by decide), h0]
          · rw [x_isMove_n hb, cA_s, if_pos (by decide), h0]
        · rw [x_isMove_n ha, cA_s, if_pos (by decide), h0]
      · unfold f_X12_ply
        rw [if_neg hN]
        by_cases ha : isMv a
        · obtain ⟨x, hx, rfl⟩ := id ha
          rw [y_isMove hx, cA_s, if_neg (by decide)]
          by_cases hb : isMv b
          · obtain ⟨y, hy, rfl⟩ := id hb
            rw [y_isMove hy, cA_s, if_neg (by decide)]
            by_cases hc : isMv c
            · obtain ⟨z, hz, rfl⟩ := id hc
              rw [y_isMove hz, cA_s, if_neg (by decide)]
              by_cases hd : isMv d
              · obtain ⟨n, hn, rfl⟩ := id hd
                rw [y_isMove hn, cA_s, if_neg (by decide)]
                by_cases he : isMv e
                · exact absurd ⟨ha, hb, hc, hd, he⟩ hall
                · rw [y_isMove_n he, cA_s, if_pos (by decide)]
              · rw [y_isMove_n hd, cA_s, if_pos (by decide)]
            · rw [y_isMove_n hc, cA_s, if_pos (by decide)]
          · rw [y_isMove_n hb, cA_s, if_pos (by decide)]
        · rw [y_isMove_n ha, cA_s, if_pos (by decide)]
end ABOUT
