/-! ===== piece, ply, about ===== -/
section SIMPLE3
variable {w h L : Nat} {s s' : Std} {τ : Nat → Txt} {tp : Nat → Nat} {ln : Nat} {fl fp : Int32} {M : Mem}
theorem y_isPlace {nt : Nat} (hb : Bs w h L nt τ M) {p : Nat} (hp : p < w * h) : f_X12_isPlace (some 230) (nI p) M = some (nI 1, M) := by
  have hle := hb.1.le
  unfold f_X12_isPlace
  rw [gI_t (ly_t230 hb.lay), hb.dim.2.2.2.2.2.2.1, show (1 : Int32) = nI 1 from rfl, pk_sub (by omega), in_ok (nI_pos (by omega)) (nI_nlt (by omega) (by omega)), cA_s, tv_n1]
theorem y_isPlace_n {nt : Nat} (hb : Bs w h L nt τ M) {v : Int32} (hv : v < 0 ∨ nI (w * h) ≤ v) : f_X12_isPlace (some 230) v M = some (nI 0, M) := by
  have hle := hb.1.le
  have hpos := hb.1.pos
  unfold f_X12_isPlace
  rw [gI_t (ly_t230 hb.lay), hb.dim.2.2.2.2.2.2.1, show (1 : Int32) = nI 1 from rfl, pk_sub (by omega)]
  rcases hv with q | q
  · rw [in_lo q, cA_s, tv_n0]
  · have : nI (w * h - 1) < v := by
      rw [Int32.le_iff_toInt_le, nI_toInt (by omega)] at q
      rw [Int32.lt_iff_toInt_lt, nI_toInt (by omega)]
      omega
    rw [in_hi this, cA_s, tv_n0]
theorem put_cell {p v : Nat} (hr : Rel0 w h L s s' τ tp ln fl fp M) (hp' : p < w * h) (hv : v < 9) : ∃ s2, Pre w h L s2 τ (sI (sL M 10 0 (lN (enc 4 (up1 (stP s).1 p v) 12))) 231 (20 + p) (nI v)) ∧ s2.2 = s.2 ∧ Fx [10, 231] [] M (sI (sL M 10 0 (lN (enc 4 (up1 (stP s).1 p v) 12))) 231 (20 + p) (nI v)) := by
  have hp := hr.1
  have hX := hp.2.2.1
  have ok := hp.2.1.1
  have hle := hp.1.1.le
  have fr2 : Fx [10, 231] [] M (sI (sL M 10 0 (lN (enc 4 (up1 (stP s).1 p v) 12))) 231 (20 + p) (nI v)) := (Fx.wL (Or.inl (by decide))).I (Or.inl (by decide))
  refine ⟨withP s (up1 (stP s).1 p v, (stP s).2), pre_put hp fr2 (by decide) (by decide) (by decide) (by decide) (by decide) ?_ ?_ ?_, rfl, fr2⟩
  · refine ⟨hX.1.1, ?_, ?_, ?_⟩
    · rw [mL_sI, mL_e]
    · rw [mI_na (by decide), mI_sL]; exact hX.1.2.2.1
    · rw [mI_na (by decide), mI_sL]; exact hX.1.2.2.2
  · have hc := ok.1.c.up (p := p) (x := v) (by omega) hv
    refine ⟨⟨hc.1, hc.2, ok.1.2.2.1, ok.1.2.2.2⟩, fun q hq => ?_, ok.2.2⟩
    show up1 (stP s).1 p v q = 0
    rw [up1_n (by omega)]; exact ok.2.1 q hq
  · obtain ⟨a0, a1, a2, a3, a4, a5, a6, a7, a8⟩ := hp.2.2.2
    refine ⟨?_, ?_, ?_, ?_, ?_, ?_, fun q hq => ?_, fun q hq => ?_, fun q hq => ?_⟩
    · rw [mI_nk (by omega), mI_sL]; exact a0
    · rw [mI_nk (by omega), mI_sL]; exact a1
    · rw [mI_nk (by omega), mI_sL]; exact a2
    · rw [mI_nk (by omega), mI_sL]; exact a3
    · rw [mI_nk (by omega), mI_sL]; exact a4
    · rw [mI_nk (by omega), mI_sL]; exact a5
    · rw [mI_nk (by omega), mI_sL]; exact a6 q hq
    · show _ = nI (up1 (stP s).1 p v q)
      by_cases e : q = p
      · subst e; rw [mI_e, up1_s]
      · rw [mI_nk (by omega), mI_sL, up1_n e]; exact a7 q hq
    · rw [mI_nk (by omega), mI_sL]; exact a8 q hq
theorem c_piece {a b c : Int32} (hr : Rel0 w h L s s' τ tp ln fl fp M) : End w h L s τ M (f_X11_piece (some 8) a b c) (f_X12_piece (some 230) a b c) := by
  have hp := hr.1
  have hl := hp.1.lay
  have hX := hp.2.2.1
  have ok := hp.2.1.1
  have hle := hp.1.1.le
  obtain ⟨d0, d1, -⟩ := hp.1.dim
  have hwh : nI w * nI h = nI (w * h) := pk_mul w h
  by_cases h1 : a < 0
  · refine end_scr hr ⟨0, M, M, ?_, ?_, Fx.rf⟩
    · unfold f_X11_piece; rw [if_pos h1, tv_0]
    · unfold f_X12_piece; rw [cR_t (ly_t230 hl), y_isPlace_n hp.1 (Or.inl h1), cA_s, if_pos (by decide), tv_0]
  · by_cases h2 : nI (w * h) ≤ a
    · refine end_scr hr ⟨0, M, M, ?_, ?_, Fx.rf⟩
      · unfold f_X11_piece; rw [if_neg h1, gI_t (ly_t8 hl), gI_t (ly_t8 hl), d0, d1, hwh, if_neg (Int32.not_lt.mpr h2), tv_0]
      · unfold f_X12_piece; rw [cR_t (ly_t230 hl), y_isPlace_n hp.1 (Or.inr h2), cA_s, if_pos (by decide), tv_0]
    · obtain ⟨p, hp0, rfl⟩ := nI_of h1
      have hpl : p < w * h := by
        rcases Nat.lt_or_ge p (w * h) with q | q
        · exact q
        · exact absurd (nI_le q hp0) h2
      have hx0 : ∀ {K : Option (Int32 × Mem)} {E : Option (Int32 × Mem)}, (if nI p < 0 then E else gI M (some 8) 11 0 fun v1 => gI M (some 8) 11 1 fun v2 => if nI p < v1 * v2 then K else E) = K := by
        intro K E
        rw [if_neg h1, gI_t (ly_t8 hl), gI_t (ly_t8 hl), d0, d1, hwh, if_pos (nI_lt hpl (by omega))]
      by_cases hk : b = -1
      · obtain ⟨s2, g1, g2, g3⟩ := put_cell (v := 0) hr hpl (by decide)
        have hb1 := hp.1.fx (Fx.wL (A := [10]) (F := []) (k := 0) (v := lN (enc 4 (up1 (stP s).1 p 0) 12)) (Or.inl (show 10 ∈ [10] by decide))) (by decide) (by decide)
        refine end_pos hr ⟨1, sL M 10 0 (lN (enc 4 (up1 (stP s).1 p 0) 12)), _, s2, ?_, ?_, g3.mono (by decide) (by decide), g1, g2⟩
        · unfold f_X11_piece
          rw [hx0, if_pos hk, gR_t (ly_t8 hl), ly_r8_2 hl, gR_t (ly_t9 hl), ly_r9_0 hl, cR_t (ly_t10 hl), show f_X4_setCell (some 10) (nI p) (0 : Int32) M = _ from x_set (v := 0) hX.1 ok.1 (by omega) (by decide), cA_s, tv_1]
        · unfold f_X12_piece f_X12_piece_33
          rw [cR_t (ly_t230 hb1.lay), y_isPlace hb1 hpl, cA_s, if_neg (by decide), if_pos hk, gR_t (ly_t230 hb1.lay), ly_r230_3 hb1.lay, if_pos hk, show (20 : Int32) = nI 20 from rfl, nI_add, wI_t (ly_t231 hb1.lay) (by omega) (by decide), tv_1]
          rfl
      · by_cases h3 : b < 0
        · refine end_scr hr ⟨0, M, M, ?_, ?_, Fx.rf⟩
          · unfold f_X11_piece; rw [hx0, if_neg hk, if_pos h3, tv_0]
          · unfold f_X12_piece; rw [cR_t (ly_t230 hl), y_isPlace hp.1 hpl, cA_s, if_neg (by decide), if_neg hk, in_lo h3, cA_s, if_pos (by decide), tv_0]
        · by_cases h4 : (3 : Int32) < b
          · refine end_scr hr ⟨0, M, M, ?_, ?_, Fx.rf⟩
            · have h4' : (4 : Int32) ≤ b := by
                rw [Int32.lt_iff_toInt_lt] at h4
                rw [Int32.le_iff_toInt_le]
                have a1 : (3 : Int32).toInt = 3 := rfl
                have a2 : (4 : Int32).toInt = 4 := rfl
                omega
              unfold f_X11_piece; rw [hx0, if_neg hk, if_neg h3, if_pos h4', tv_0]
            · unfold f_X12_piece; rw [cR_t (ly_t230 hl), y_isPlace hp.1 hpl, cA_s, if_neg (by decide), if_neg hk, in_hi h4, cA_s, if_pos (by decide), tv_0]
          · obtain ⟨k, k1, k2, rfl⟩ := rng (a := 0) (b := 3) (by decide) (by decide) h3 h4
            have h5 : ¬ (4 : Int32) ≤ nI k := nI_ge (b := 4) (by omega) (by decide)
            rcases side_cases c with ⟨sd, hsd, rfl⟩ | hs
            · obtain ⟨s2, g1, g2, g3⟩ := put_cell (v := 1 + k + 4 * sd) hr hpl (by omega)
              have hb1 := hp.1.fx (Fx.wL (A := [10]) (F := []) (k := 0) (v := lN (enc 4 (up1 (stP s).1 p (1 + k + 4 * sd)) 12)) (Or.inl (show 10 ∈ [10] by decide))) (by decide) (by decide)
              have ev : ((1 : Int32) + nI k) + ((4 : Int32) * nI sd) = nI (1 + k + 4 * sd) := by rw [show (1 : Int32) = nI 1 from rfl, show (4 : Int32) = nI 4 from rfl, nI_add, pk_mul, nI_add]
              refine end_pos hr ⟨1, sL M 10 0 (lN (enc 4 (up1 (stP s).1 p (1 + k + 4 * sd)) 12)), _, s2, ?_, ?_, g3.mono (by decide) (by decide), g1, g2⟩
              · unfold f_X11_piece
                rw [hx0, if_neg hk, if_neg h3, if_neg h5, x_isSide hsd, cA_s, if_neg (by decide), gR_t (ly_t8 hl), ly_r8_2 hl, gR_t (ly_t9 hl), ly_r9_0 hl, cR_t (ly_t10 hl), ev, x_set hX.1 ok.1 (by omega) (by omega), cA_s, tv_1]
              · unfold f_X12_piece f_X12_piece_33
                rw [cR_t (ly_t230 hb1.lay), y_isPlace hb1 hpl, cA_s, if_neg (by decide), if_neg hk, in_ok h3 h4, cA_s, if_neg (by decide), in01 hsd, cA_s, if_neg (by decide), gR_t (ly_t230 hb1.lay), ly_r230_3 hb1.lay, if_neg hk, show (20 : Int32) = nI 20 from rfl, nI_add, ev, wI_t (ly_t231 hb1.lay) (by omega) (by decide), tv_1]
            · refine end_scr hr ⟨0, M, M, ?_, ?_, Fx.rf⟩
              · unfold f_X11_piece; rw [hx0, if_neg hk, if_neg h3, if_neg h5, x_isSide_n hs, cA_s, if_pos (by decide), tv_0]
              · unfold f_X12_piece; rw [cR_t (ly_t230 hl), y_isPlace hp.1 hpl, cA_s, if_neg (by decide), if_neg hk, in_ok h3 h4, cA_s, if_neg (by decide), in01_n hs, cA_s, if_pos (by decide), tv_0]
end SIMPLE3
