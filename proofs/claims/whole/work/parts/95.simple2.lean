/-! ===== piece, turn, book, way, ply, fault, end ===== -/
theorem StM.put {a k : Nat} {s : Std} {M : Mem} {v : Int32} {b : Nat} (hS : StM 231 s M) (hb : 231 ≠ b) : StM 231 s (sI M b k v) := by
  unfold StM at *
  rw [mI_na hb]
  exact hS
section SIMPLE2
variable {w h L : Nat} {s s' : Std} {τ : Nat → Txt} {tp : Nat → Nat} {ln : Nat} {fl fp : Int32} {M : Mem}
theorem okX_of {nt : Nat} {v : Int32} (h1 : ¬ v < (-1 : Int32)) (h2 : ¬ nI nt ≤ v) (h6 : nt ≤ 6) : ∃ x, okX nt x ∧ v = oI x := by
  by_cases e : v = -1
  · exact ⟨none, (fun t q => by cases q), e⟩
  · have h0 : ¬ v < 0 := by
      intro q
      apply e
      rw [Int32.lt_iff_toInt_lt] at q h1
      have a1 : (-1 : Int32).toInt = -1 := rfl
      have a2 : (0 : Int32).toInt = 0 := rfl
      apply Int32.toInt_inj.mp
      omega
    obtain ⟨k, hk, rfl⟩ := nI_of h0
    refine ⟨some k, fun t e => ?_, rfl⟩
    cases e
    rcases Nat.lt_or_ge k nt with q | q
    · exact q
    · exact absurd (nI_le q hk) h2
theorem y_isT {nt n : Nat} {x : Option Nat} (hb : Bs w h L nt τ M) (hn : mI M 231 1 = nI n) (h6 : n ≤ 6) (hx : okX n x) : f_X12_isText (some 230) (oI x) M = some (nI 1, M) := by
  have hl := hb.lay
  unfold f_X12_isText
  cases x with
  | none => rw [oI_n, if_pos (show m1 = -1 from rfl), tv_1]; rfl
  | some t =>
    have ht := hx t rfl
    rw [oI_s, if_neg (show ¬ nI t = -1 from fun q => (nI_nm1 (by omega)).mp q), gR_t (ly_t230 hl), ly_r230_3 hl, show (1 : Int32) = nI 1 from rfl, aI_t (ly_t231 hl) (by decide) (by decide), hn, pk_sub (by omega), in_ok (nI_pos (by omega)) (nI_nlt (by omega) (by omega)), cA_s, if_neg (by decide), tv_n1]
theorem isT_y {x : Option Nat} (hp : Pre w h L s τ M) (hx : okX (stN s) x) : f_X11_isTextOrNone (some 8) (oI x) M = some (nI 1, M) := by
  have hl := hp.1.lay
  have h6 := hp.2.1.2.2.2.2.1
  have hn := hp.2.2.1.2.2.2.2.2.1
  unfold f_X11_isTextOrNone
  cases x with
  | none =>
    rw [oI_n, if_neg (show ¬ m1 < -1 by decide), gR_t (ly_t8 hl), ly_r8_2 hl, gI_t (ly_t9 hl), hn, if_neg (fun q => (le_m1 (by omega)).mp q), tv_1]; rfl
  | some t =>
    have ht := hx t rfl
    rw [oI_s, if_neg (show ¬ nI t < -1 from fun q => (lt_m1 (by omega)).mp q), gR_t (ly_t8 hl), ly_r8_2 hl, gI_t (ly_t9 hl), hn, if_neg (nI_ge ht (by omega)), tv_1]; rfl
theorem isT_n {v : Int32} (hp : Pre w h L s τ M) (hv : ¬ ∃ x, okX (stN s) x ∧ v = oI x) : f_X11_isTextOrNone (some 8) v M = some (nI 0, M) ∧ f_X12_isText (some 230) v M = some (nI 0, M) := by
  have hl := hp.1.lay
  have h6 := hp.2.1.2.2.2.2.1
  have hn := hp.2.2.1.2.2.2.2.2.1
  have hn2 := hp.2.2.2.2.1
  have ne : v ≠ -1 := fun e => hv ⟨none, (fun t q => by cases q), e⟩
  have hY : ∀ {X : Int32 × Mem}, f_X12_in v 0 (nI (stN s) - nI 1) M = some (nI 0, M) → f_X12_isText (some 230) v M = some (nI 0, M) := by
    intro X hin
    unfold f_X12_isText
    rw [if_neg ne, gR_t (ly_t230 hl), ly_r230_3 hl, show (1 : Int32) = nI 1 from rfl, aI_t (ly_t231 hl) (by decide) (by decide), hn2, hin, cA_s, if_pos (by decide), tv_0]
    rfl
  by_cases h1 : v < (-1 : Int32)
  · have h0 : v < 0 := by
      rw [Int32.lt_iff_toInt_lt] at h1 ⊢
      have a1 : (-1 : Int32).toInt = -1 := rfl
      have a2 : (0 : Int32).toInt = 0 := rfl
      omega
    refine ⟨?_, hY (X := (0, M)) (in_lo h0)⟩
    unfold f_X11_isTextOrNone
    rw [if_pos h1, tv_0]; rfl
  · by_cases h2 : nI (stN s) ≤ v
    · have h2' := h2
      have e1 := nI_toInt (n := stN s) (by omega)
      rw [Int32.le_iff_toInt_le, e1] at h2'
      have hhi : nI (stN s) - nI 1 < v := by
        rw [n_i32, n_i32, i32_sub, Int32.lt_iff_toInt_lt, i32_t ⟨by omega, by omega⟩]
        omega
      refine ⟨?_, hY (X := (0, M)) (in_hi hhi)⟩
      unfold f_X11_isTextOrNone
      rw [if_neg h1, gR_t (ly_t8 hl), ly_r8_2 hl, gI_t (ly_t9 hl), hn, if_pos h2, tv_0]; rfl
    · exact absurd (okX_of h1 h2 h6) hv
theorem c_book {v : Int32} (hr : Rel0 w h L s s' τ tp ln fl fp M) : End w h L s τ M (f_X11_book (some 8) v) (f_X12_book (some 230) v) := by
  have hp := hr.1
  have hl := hp.1.lay
  by_cases hv : ∃ x, okX (stN s) x ∧ v = oI x
  · obtain ⟨x, hx, rfl⟩ := hv
    have i1 := isT_y hp hx
    have fr1 : Fx [] [(9, 5)] M (sI M 9 5 (oI x)) := Fx.wI (Or.inr (by decide))
    have hb1 := hp.1.fx fr1 (by decide) (by decide)
    have fr2 : Fx [231] [(9, 5)] M (sI (sI M 9 5 (oI x)) 231 2 (oI x)) := (fr1.mono (by decide) (by decide)).I (Or.inl (by decide))
    have i2' : f_X12_isText (some 230) (oI x) (sI M 9 5 (oI x)) = some (nI 1, sI M 9 5 (oI x)) := y_isT hb1 (by rw [mI_na (by decide)]; exact hp.2.2.2.2.1) hp.2.1.2.2.2.2.1 hx
    obtain ⟨a0, a1, a2, a3, a4, a5, a6, a7, a8⟩ := hp.2.2.2
    have hX := hp.2.2.1
    refine ⟨1, sI M 9 5 (oI x), sI (sI M 9 5 (oI x)) 231 2 (oI x), (stP s, x, s.2.2), s', tp, ln, fl, fp, ?_, ?_, hr.rest fr2 (by decide) ⟨hp.1.fx fr2 (by decide) (by decide), ⟨hp.2.1.1, hx, hp.2.1.2.2⟩, ?_, ?_⟩ rfl, fr2.mono (by decide) (by decide), rfl⟩
    · unfold f_X11_book
      rw [cR_t (ly_t8 hl), i1, cA_s, if_neg (by decide), gR_t (ly_t8 hl), ly_r8_2 hl, pI_t (ly_t9 hl), tv_1]
    · unfold f_X12_book
      rw [cR_t (ly_t230 hb1.lay), i2', cA_s, if_neg (by decide), gR_t (ly_t230 hb1.lay), ly_r230_3 hb1.lay, show (2 : Int32) = nI 2 from rfl, wI_t (ly_t231 hb1.lay) (by decide) (by decide), tv_1]
    · refine ⟨hX.1.fx fr2 (by decide), by rw [fr2.ib (by decide)]; exact hX.2.1, by rw [fr2.ib (by decide)]; exact hX.2.2.1, by rw [fr2.ib (by decide)]; exact hX.2.2.2.1, by rw [fr2.i (by decide) (by decide)]; exact hX.2.2.2.2.1, by rw [fr2.i (by decide) (by decide)]; exact hX.2.2.2.2.2.1, by rw [mI_na (by decide), mI_e]; rfl⟩
    · refine ⟨?_, ?_, mI_e, ?_, ?_, ?_, fun q hq => ?_, fun q hq => ?_, fun q hq => ?_⟩
      · rw [mI_nk (by omega), mI_na (by decide)]; exact a0
      · rw [mI_nk (by omega), mI_na (by decide)]; exact a1
      · rw [mI_nk (by omega), mI_na (by decide)]; exact a3
      · rw [mI_nk (by omega), mI_na (by decide)]; exact a4
      · rw [mI_nk (by omega), mI_na (by decide)]; exact a5
      · rw [mI_nk (by omega), mI_na (by decide)]; exact a6 q hq
      · rw [mI_nk (by omega), mI_na (by decide)]; exact a7 q hq
      · rw [mI_nk (by omega), mI_na (by decide)]; exact a8 q hq
  · obtain ⟨i1, i2⟩ := isT_n hp hv
    refine end_scr hr ⟨0, M, M, ?_, ?_, Fx.rf⟩
    · unfold f_X11_book; rw [cR_t (ly_t8 hl), i1, cA_s, if_pos (by decide), tv_0]
    · unfold f_X12_book; rw [cR_t (ly_t230 hl), i2, cA_s, if_pos (by decide), tv_0]
theorem side_cases (v : Int32) : (∃ k, k < 2 ∧ v = nI k) ∨ v < 0 ∨ (1 : Int32) < v := by
  by_cases h1 : v < 0
  · exact Or.inr (Or.inl h1)
  · by_cases h2 : (1 : Int32) < v
    · exact Or.inr (Or.inr h2)
    · obtain ⟨k, k1, k2, e⟩ := rng (a := 0) (b := 1) (by decide) (by decide) h1 h2
      exact Or.inl ⟨k, by omega, e⟩
theorem in01 {k : Nat} (hk : k < 2) : f_X12_in (nI k) 0 1 M = some (nI 1, M) := in_ok (nI_pos (by omega)) (show ¬ nI 1 < nI k from nI_nlt (by omega) (by decide))
theorem in01_n {v : Int32} (hv : v < 0 ∨ (1 : Int32) < v) : f_X12_in v 0 1 M = some (nI 0, M) := by
  rcases hv with q | q
  · exact in_lo q
  · exact in_hi q
theorem c_way {sd v : Int32} (hr : Rel0 w h L s s' τ tp ln fl fp M) : End w h L s τ M (f_X11_way (some 8) sd v) (f_X12_way (some 230) sd v) := by
  have hp := hr.1
  have hl := hp.1.lay
  rcases side_cases sd with ⟨k, hk, rfl⟩ | hs
  · by_cases hv : ∃ x, okX (stN s) x ∧ v = oI x
    · obtain ⟨x, hx, rfl⟩ := hv
      have i1 := isT_y hp hx
      have fr1 : Fx [11] [] M (sI M 11 k (oI x)) := Fx.wI (Or.inl (by decide))
      have hb1 := hp.1.fx fr1 (by decide) (by decide)
      have fr2 : Fx [11, 231] [] M (sI (sI M 11 k (oI x)) 231 (3 + k) (oI x)) := (fr1.mono (by decide) (by decide)).I (Or.inl (by decide))
      have i2' : f_X12_isText (some 230) (oI x) (sI M 11 k (oI x)) = some (nI 1, sI M 11 k (oI x)) := y_isT hb1 (by rw [mI_na (by decide)]; exact hp.2.2.2.2.1) hp.2.1.2.2.2.2.1 hx
      obtain ⟨a0, a1, a2, a3, a4, a5, a6, a7, a8⟩ := hp.2.2.2
      have hX := hp.2.2.1
      refine ⟨1, sI M 11 k (oI x), sI (sI M 11 k (oI x)) 231 (3 + k) (oI x), (stP s, stB s, if k = 0 then x else stW0 s, if k = 0 then stW1 s else x, s.2.2.2.2), s', tp, ln, fl, fp, ?_, ?_, hr.rest fr2 (by decide) ⟨hp.1.fx fr2 (by decide) (by decide), ⟨hp.2.1.1, hp.2.1.2.1, ?_, ?_, hp.2.1.2.2.2.2⟩, ?_, ?_⟩ rfl, fr2.mono (by decide) (by decide), rfl⟩
      · unfold f_X11_way
        rw [x_isSide hk, cA_s, if_neg (by decide), cR_t (ly_t8 hl), i1, cA_s, if_neg (by decide), gR_t (ly_t8 hl), ly_r8_2 hl, gR_t (ly_t9 hl), ly_r9_1 hl, wI_t (ly_t11 hl) hk (by decide), tv_1]
      · unfold f_X12_way
        rw [in01 hk, cA_s, if_neg (by decide), cR_t (ly_t230 hb1.lay), i2', cA_s, if_neg (by decide), gR_t (ly_t230 hb1.lay), ly_r230_3 hb1.lay, show (3 : Int32) = nI 3 from rfl, nI_add, wI_t (ly_t231 hb1.lay) (by omega) (by decide), tv_1]
      · show okX (stN s) (if k = 0 then x else stW0 s)
        split
        · exact hx
        · exact hp.2.1.2.2.1
      · show okX (stN s) (if k = 0 then stW1 s else x)
        split
        · exact hp.2.1.2.2.2.1
        · exact hx
      · refine ⟨hX.1.fx fr2 (by decide), ?_, ?_, by rw [fr2.ib (by decide)]; exact hX.2.2.2.1, by rw [fr2.i (by decide) (by decide)]; exact hX.2.2.2.2.1, by rw [fr2.i (by decide) (by decide)]; exact hX.2.2.2.2.2.1, by rw [fr2.i (by decide) (by decide)]; exact hX.2.2.2.2.2.2⟩
        · show _ = oI (if k = 0 then x else stW0 s)
          rw [mI_na (by decide)]
          by_cases e : k = 0
          · subst e; rw [mI_e, if_pos rfl]
          · rw [mI_nk (fun q => e q.symm), if_neg e]; exact hX.2.1
        · show _ = oI (if k = 0 then stW1 s else x)
          rw [mI_na (by decide)]
          by_cases e : k = 0
          · subst e; rw [mI_nk (by decide), if_pos rfl]; exact hX.2.2.1
          · obtain rfl : k = 1 := by omega
            rw [mI_e, if_neg e]
      · refine ⟨?_, ?_, ?_, ?_, ?_, ?_, fun q hq => ?_, fun q hq => ?_, fun q hq => ?_⟩
        · rw [mI_nk (by omega), mI_na (by decide)]; exact a0
        · rw [mI_nk (by omega), mI_na (by decide)]; exact a1
        · rw [mI_nk (by omega), mI_na (by decide)]; exact a2
        · show _ = oI (if k = 0 then x else stW0 s)
          by_cases e : k = 0
          · subst e; rw [mI_e, if_pos rfl]
          · rw [mI_nk (by omega), mI_na (by decide), if_neg e]; exact a3
        · show _ = oI (if k = 0 then stW1 s else x)
          by_cases e : k = 0
          · subst e; rw [mI_nk (by decide), mI_na (by decide), if_pos rfl]; exact a4
          · obtain rfl : k = 1 := by omega
            rw [mI_e, if_neg e]
        · rw [mI_nk (by omega), mI_na (by decide)]; exact a5
        · rw [mI_nk (by omega), mI_na (by decide)]; exact a6 q hq
        · rw [mI_nk (by omega), mI_na (by decide)]; exact a7 q hq
        · rw [mI_nk (by omega), mI_na (by decide)]; exact a8 q hq
    · obtain ⟨i1, i2⟩ := isT_n hp hv
      refine end_scr hr ⟨0, M, M, ?_, ?_, Fx.rf⟩
      · unfold f_X11_way; rw [x_isSide hk, cA_s, if_neg (by decide), cR_t (ly_t8 hl), i1, cA_s, if_pos (by decide), tv_0]
      · unfold f_X12_way; rw [in01 hk, cA_s, if_neg (by decide), cR_t (ly_t230 hl), i2, cA_s, if_pos (by decide), tv_0]
  · refine end_scr hr ⟨0, M, M, ?_, ?_, Fx.rf⟩
    · unfold f_X11_way; rw [x_isSide_n hs, cA_s, if_pos (by decide), tv_0]
    · unfold f_X12_way; rw [in01_n hs, cA_s, if_pos (by decide), tv_0]
theorem c_turn {sd : Int32} (hr : Rel0 w h L s s' τ tp ln fl fp M) : End w h L s τ M (f_X11_turn (some 8) sd) (f_X12_turn (some 230) sd) := by
  have hp := hr.1
  have hl := hp.1.lay
  rcases side_cases sd with ⟨k, hk, rfl⟩ | hs
  · have hX := hp.2.2.1
    have ok := hp.2.1.1
    have fr1 : Fx [10] [] M (sI M 10 2 (nI k)) := Fx.wI (Or.inl (by decide))
    have hb1 := hp.1.fx fr1 (by decide) (by decide)
    have fr2 : Fx [10, 231] [] M (sI (sI M 10 2 (nI k)) 231 0 (nI k)) := (fr1.mono (by decide) (by decide)).I (Or.inl (by decide))
    refine end_pos hr ⟨1, sI M 10 2 (nI k), sI (sI M 10 2 (nI k)) 231 0 (nI k), withP s ((stP s).1, (stP s).2.1, k), ?_, ?_, fr2.mono (by decide) (by decide), pre_put hp fr2 (by decide) (by decide) (by decide) (by decide) (by decide) ?_ ⟨⟨ok.1.1, ok.1.2.1, ok.1.2.2.1, hk⟩, ok.2.1, ok.2.2⟩ ?_, rfl⟩
    · unfold f_X11_turn
      rw [x_isSide hk, cA_s, if_neg (by decide), gR_t (ly_t8 hl), ly_r8_2 hl, gR_t (ly_t9 hl), ly_r9_0 hl, pI_t (ly_t10 hl), tv_1]
    · unfold f_X12_turn
      rw [in01 hk, cA_s, if_neg (by decide), gR_t (ly_t230 hb1.lay), ly_r230_3 hb1.lay, show (0 : Int32) = nI 0 from rfl, wI_t (ly_t231 hb1.lay) (by decide) (by decide), tv_1]
    · refine ⟨hX.1.1, hX.1.2.1, ?_, ?_⟩
      · rw [mI_na (by decide), mI_nk (by decide)]; exact hX.1.2.2.1
      · rw [mI_na (by decide), mI_e]
    · obtain ⟨a0, a1, a2, a3, a4, a5, a6, a7, a8⟩ := hp.2.2.2
      refine ⟨mI_e, ?_, ?_, ?_, ?_, ?_, fun q hq => ?_, fun q hq => ?_, fun q hq => ?_⟩
      · rw [mI_nk (by omega), mI_na (by decide)]; exact a1
      · rw [mI_nk (by omega), mI_na (by decide)]; exact a2
      · rw [mI_nk (by omega), mI_na (by decide)]; exact a3
      · rw [mI_nk (by omega), mI_na (by decide)]; exact a4
      · rw [mI_nk (by omega), mI_na (by decide)]; exact a5
      · rw [mI_nk (by omega), mI_na (by decide)]; exact a6 q hq
      · rw [mI_nk (by omega), mI_na (by decide)]; exact a7 q hq
      · rw [mI_nk (by omega), mI_na (by decide)]; exact a8 q hq
  · refine end_scr hr ⟨0, M, M, ?_, ?_, Fx.rf⟩
    · unfold f_X11_turn; rw [x_isSide_n hs, cA_s, if_pos (by decide), tv_0]
    · unfold f_X12_turn; rw [in01_n hs, cA_s, if_pos (by decide), tv_0]
theorem c_fault {v : Int32} (hr : Rel0 w h L s s' τ tp ln fl fp M) : End w h L s τ M (f_X11_fault (some 8) v) (f_X12_fault (some 230) v) := by
  have hl := hr.1.1.lay
  obtain ⟨-, -, -, -, -, -, -, -, -, r10, r11, r12, r13⟩ := id hr
  refine end_scr hr ⟨if v = 0 then fl else if v = 1 then fp else -1, M, M, ?_, ?_, Fx.rf⟩
  · unfold f_X11_fault
    by_cases e0 : v = 0
    · rw [if_pos e0, if_pos e0, gR_t (ly_t8 hl), ly_r8_6 hl, gI_t (ly_t43 hl), r10]
    · rw [if_neg e0, if_neg e0]
      by_cases e1 : v = 1
      · rw [if_pos e1, if_pos e1, gR_t (ly_t8 hl), ly_r8_6 hl, gI_t (ly_t43 hl), r11]
      · rw [if_neg e1, if_neg e1]
  · unfold f_X12_fault
    by_cases e0 : v = 0
    · rw [if_pos e0, if_pos e0, gI_t (ly_t230 hl), r12]
    · rw [if_neg e0, if_neg e0]
      by_cases e1 : v = 1
      · rw [if_pos e1, if_pos e1, gI_t (ly_t230 hl), r13]
      · rw [if_neg e1, if_neg e1]
theorem c_end {v : Int32} (hr : Rel0 w h L s s' τ tp ln fl fp M) : End w h L s τ M (f_X11_end (some 8) v) (f_X12_end (some 230) v) := by
  have hp := hr.1
  have hl := hp.1.lay
  obtain ⟨-, r2, r3, r4, r5, r6, r7, r8, r9, r10, r11, r12, r13⟩ := id hr
  by_cases h1 : v < 0
  · refine end_scr hr ⟨-1, M, M, ?_, ?_, Fx.rf⟩
    · unfold f_X11_end; rw [if_pos h1]
    · unfold f_X12_end; rw [gI_t (ly_t230 hl), in_lo h1, cA_s, if_pos (by decide)]
  · by_cases h2 : nI ln < v
    · refine end_scr hr ⟨-1, M, M, ?_, ?_, Fx.rf⟩
      · unfold f_X11_end; rw [if_neg h1, gR_t (ly_t8 hl), ly_r8_6 hl, gI_t (ly_t43 hl), r7, if_neg (Int32.not_le.mpr h2)]
      · unfold f_X12_end; rw [gI_t (ly_t230 hl), r8, in_hi h2, cA_s, if_pos (by decide)]
    · obtain ⟨k, k1, k2, rfl⟩ := rng (a := 0) (b := ln) (by omega) (by omega) h1 h2
      have fr1 : Fx [] [(43, 1)] M (sI M 43 1 (nI k)) := Fx.wI (Or.inr (by decide))
      have hb1 := hp.1.fx fr1 (by decide) (by decide)
      have fr2 : Fx [] [(43, 1), (230, 6)] M (sI (sI M 43 1 (nI k)) 230 6 (nI k)) := (fr1.mono (by decide) (by decide)).I (Or.inr (by decide))
      refine ⟨nI k, sI M 43 1 (nI k), sI (sI M 43 1 (nI k)) 230 6 (nI k), s, s', tp, k, fl, fp, ?_, ?_, ⟨hp.fx2 fr2 (by decide), r2, r3, r4.fx fr2 (by decide) (by decide) (by decide) (by decide), r5.fx fr2 (by decide), by omega, by rw [mI_na (by decide), mI_e], mI_e, fun i hi => ?_, by rw [fr2.i (by decide) (by decide)]; exact r10, by rw [fr2.i (by decide) (by decide)]; exact r11, by rw [fr2.i (by decide) (by decide)]; exact r12, by rw [fr2.i (by decide) (by decide)]; exact r13⟩, fr2.mono (by decide) (by decide), rfl⟩
      · unfold f_X11_end
        rw [if_neg h1, gR_t (ly_t8 hl), ly_r8_6 hl, gI_t (ly_t43 hl), r7, if_pos (Int32.not_lt.mp h2), gR_t (ly_t8 hl), ly_r8_6 hl, pI_t (ly_t43 hl)]
      · unfold f_X12_end
        rw [gI_t (ly_t230 hb1.lay), mI_na (by decide), r8, in_ok h1 h2, cA_s, if_neg (by decide), pI_t (ly_t230 hb1.lay)]
      · rw [fr2.ib (by decide), fr2.ib (by decide)]
        exact r9 i (by omega)
end SIMPLE2
