/-! ===== the simple calls ===== -/
def Rel0 (w h L : Nat) (s s' : Std) (τ : Nat → Txt) (tp : Nat → Nat) (ln : Nat) (fl fp : Int32) (M : Mem) : Prop :=
  Pre w h L s τ M ∧ okSt w h s' ∧ stN s' ≤ stN s ∧ StX 13 s' M ∧ StM 232 s' M ∧ ln ≤ 300 ∧ mI M 43 1 = nI ln ∧ mI M 230 6 = nI ln ∧ (∀ i, i < ln → tp i < 256 ∧ mI M 44 i = nI (tp i) ∧ mI M 233 i = (nI (tp i)).toInt8.toInt32) ∧ mI M 43 2 = fl ∧ mI M 43 3 = fp ∧ mI M 230 7 = fl ∧ mI M 230 8 = fp
abbrev BA : List Nat := [10, 11, 12, 14, 15, 16, 231, 232, 44, 233, 201, 202, 204, 205, 206, 207, 210, 47, 48, 49, 252, 253, 254, 255, 256, 257, 258, 259, 260, 261]
abbrev BF : List (Nat × Nat) := [(9, 3), (9, 4), (9, 5), (13, 3), (13, 4), (13, 5), (43, 1), (43, 2), (43, 3), (230, 6), (230, 7), (230, 8), (203, 3), (209, 0), (209, 1), (8, 15), (230, 45), (230, 46), (230, 47), (230, 48), (230, 49), (230, 53), (230, 57)]
def okR (A : List Nat) (F : List (Nat × Nat)) : Bool := okA A && okF F && A.all (fun b => b != 13 && b != 14 && b != 15 && b != 16 && b != 232 && b != 43 && b != 44 && b != 233 && b != 230) && F.all (fun q => q.1 != 13 && q.1 != 14 && q.1 != 15 && q.1 != 16 && q.1 != 232 && q.1 != 43 && q.1 != 44 && q.1 != 233 && q != (230, 6) && q != (230, 7) && q != (230, 8))
theorem okR_a {A : List Nat} {F : List (Nat × Nat)} (h : okR A F = true) {b : Nat} (hb : b = 13 ∨ b = 14 ∨ b = 15 ∨ b = 16 ∨ b = 232 ∨ b = 43 ∨ b = 44 ∨ b = 233) : b ∉ A ∧ ∀ q ∈ F, q.1 ≠ b := by
  unfold okR at h
  simp only [Bool.and_eq_true, List.all_eq_true, bne_iff_ne] at h
  obtain ⟨⟨⟨-, -⟩, h1⟩, h2⟩ := h
  refine ⟨fun q => ?_, fun q hq e => ?_⟩
  · have := h1 b q
    omega
  · have := h2 q hq
    rw [e] at this
    omega
theorem okR_f {A : List Nat} {F : List (Nat × Nat)} (h : okR A F = true) {j : Nat} (hj : j = 6 ∨ j = 7 ∨ j = 8) : 230 ∉ A ∧ (230, j) ∉ F := by
  unfold okR at h
  simp only [Bool.and_eq_true, List.all_eq_true, bne_iff_ne] at h
  obtain ⟨⟨⟨-, -⟩, h1⟩, h2⟩ := h
  refine ⟨fun q => ?_, fun q => ?_⟩
  · have := h1 230 q
    omega
  · have := h2 _ q
    rcases hj with rfl | rfl | rfl
    · exact this.1.1.2 rfl
    · exact this.1.2 rfl
    · exact this.2 rfl
section SIMPLE
variable {w h L : Nat} {s s' : Std} {τ : Nat → Txt} {tp : Nat → Nat} {ln : Nat} {fl fp : Int32} {M : Mem}
/-- all but the stand of now -/
theorem Rel0.rest {s2 : Std} {A : List Nat} {F : List (Nat × Nat)} {M' : Mem} (hr : Rel0 w h L s s' τ tp ln fl fp M) (fr : Fx A F M M') (ho : okR A F = true) (hp : Pre w h L s2 τ M') (hn : stN s2 = stN s) : Rel0 w h L s2 s' τ tp ln fl fp M' := by
  obtain ⟨-, r2, r3, r4, r5, r6, r7, r8, r9, r10, r11, r12, r13⟩ := hr
  have f6 := okR_f ho (j := 6) (Or.inl rfl)
  have f7 := okR_f ho (j := 7) (Or.inr (Or.inl rfl))
  have f8 := okR_f ho (j := 8) (Or.inr (Or.inr rfl))
  refine ⟨hp, r2, by rw [hn]; exact r3, r4.fx fr (okR_a ho (by decide)) (okR_a ho (by decide)) (okR_a ho (by decide)) (okR_a ho (by decide)), r5.fx fr (okR_a ho (by decide)), r6, by rw [fr.ib (okR_a ho (by decide))]; exact r7, by rw [fr.i f6.1 f6.2]; exact r8, fun i hi => ?_, by rw [fr.ib (okR_a ho (by decide))]; exact r10, by rw [fr.ib (okR_a ho (by decide))]; exact r11, by rw [fr.i f7.1 f7.2]; exact r12, by rw [fr.i f8.1 f8.2]; exact r13⟩
  rw [fr.ib (okR_a ho (by decide)), fr.ib (okR_a ho (by decide))]
  exact r9 i hi
/-- the form in which all calls end -/
def End (w h L : Nat) (s : Std) (τ : Nat → Txt) (M : Mem) (fX fY : Mem → Option (Int32 × Mem)) : Prop := ∃ r M1 M2 s2 s2' tp2 ln2 fl2 fp2, fX M = some (r, M1) ∧ fY M1 = some (r, M2) ∧ Rel0 w h L s2 s2' τ tp2 ln2 fl2 fp2 M2 ∧ Fx BA BF M M2 ∧ stN s2 = stN s
theorem end_scr {fX fY : Mem → Option (Int32 × Mem)} (hr : Rel0 w h L s s' τ tp ln fl fp M) (hc : ∃ r M1 M2, fX M = some (r, M1) ∧ fY M1 = some (r, M2) ∧ Fx SA SF M M2) : End w h L s τ M fX fY := by
  obtain ⟨r, M1, M2, h1, h2, h3⟩ := hc
  exact ⟨r, M1, M2, s, s', tp, ln, fl, fp, h1, h2, hr.rest h3 (by decide) (hr.1.fx2 h3 (by decide)) rfl, h3.mono (by decide) (by decide), rfl⟩
theorem end_pos {fX fY : Mem → Option (Int32 × Mem)} (hr : Rel0 w h L s s' τ tp ln fl fp M) (hc : ∃ r M1 M2 s2, fX M = some (r, M1) ∧ fY M1 = some (r, M2) ∧ Fx (10 :: 231 :: SA) SF M M2 ∧ Pre w h L s2 τ M2 ∧ s2.2 = s.2) : End w h L s τ M fX fY := by
  obtain ⟨r, M1, M2, s2, h1, h2, h3, h4, h5⟩ := hc
  have hn : stN s2 = stN s := by unfold stN; rw [h5]
  exact ⟨r, M1, M2, s2, s', tp, ln, fl, fp, h1, h2, hr.rest h3 (by decide) h4 hn, h3.mono (by decide) (by decide), hn⟩
/-- a cell, a count, the turn are put anew -/
theorem pre_put {M1 : Mem} {π : Pos} {A : List Nat} {F : List (Nat × Nat)} (hp : Pre w h L s τ M) (fr : Fx A F M M1) (ha : okA A = true) (hf : okF F = true) (h9 : 9 ∉ A ∧ ∀ q ∈ F, q.1 ≠ 9) (h11 : 11 ∉ A ∧ ∀ q ∈ F, q.1 ≠ 11) (h12 : 12 ∉ A ∧ ∀ q ∈ F, q.1 ≠ 12) (hP : PosAt 10 π M1) (ok : okN w h π) (hS : StM 231 (withP s π) M1) : Pre w h L (withP s π) τ M1 := by
  obtain ⟨hb, oks, hX, -⟩ := hp
  exact ⟨hb.fx fr ha hf, ⟨ok, oks.2⟩, ⟨hP, by rw [fr.ib h11]; exact hX.2.1, by rw [fr.ib h11]; exact hX.2.2.1, by rw [fr.ib h12]; exact hX.2.2.2.1, by rw [fr.ib h9]; exact hX.2.2.2.2.1, by rw [fr.ib h9]; exact hX.2.2.2.2.2.1, by rw [fr.ib h9]; exact hX.2.2.2.2.2.2⟩, hS⟩
theorem c_heap {a b : Int32} (hr : Rel0 w h L s s' τ tp ln fl fp M) : End w h L s τ M (f_X11_heap (some 8) a b) (f_X12_heap (some 230) a b) := by
  have hp := hr.1
  have hl := hp.1.lay
  by_cases hm : isMv a
  · obtain ⟨m, hm, rfl⟩ := hm
    by_cases h1 : b < 0
    · refine end_scr hr ⟨0, M, M, ?_, ?_, Fx.rf⟩
      · unfold f_X11_heap; rw [x_isMove hm, cA_s, if_neg (by decide), if_pos h1, tv_0]
      · unfold f_X12_heap; rw [y_isMove hm, cA_s, if_neg (by decide), in_lo h1, cA_s, if_pos (by decide), tv_0]
    · by_cases h2 : (3 : Int32) < b
      · refine end_scr hr ⟨0, M, M, ?_, ?_, Fx.rf⟩
        · unfold f_X11_heap; rw [x_isMove hm, cA_s, if_neg (by decide), if_neg h1, if_neg (Int32.not_le.mpr h2), tv_0]
        · unfold f_X12_heap; rw [y_isMove hm, cA_s, if_neg (by decide), in_hi h2, cA_s, if_pos (by decide), tv_0]
      · obtain ⟨k, k1, k2, rfl⟩ := rng (a := 0) (b := 3) (by decide) (by decide) h1 h2
        have hX := hp.2.2.1
        have ok := hp.2.1.1
        have fr1 : Fx [10] [] M (sI M 10 1 (nI (enc 2 (up1 (stP s).2.1 m k) 8))) := Fx.wI (Or.inl (by decide))
        have hb1 := hp.1.fx fr1 (by decide) (by decide)
        have fr2 : Fx [10, 231] [] M (sI (sI M 10 1 (nI (enc 2 (up1 (stP s).2.1 m k) 8))) 231 (10 + m) (nI k)) := (fr1.mono (by decide) (by decide)).I (Or.inl (by decide))
        refine end_pos hr ⟨1, sI M 10 1 (nI (enc 2 (up1 (stP s).2.1 m k) 8)), sI (sI M 10 1 (nI (enc 2 (up1 (stP s).2.1 m k) 8))) 231 (10 + m) (nI k), withP s ((stP s).1, up1 (stP s).2.1 m k, (stP s).2.2), ?_, ?_, fr2.mono (by decide) (by decide), pre_put hp fr2 (by decide) (by decide) (by decide) (by decide) (by decide) ?_ ?_ ?_, rfl⟩
        · unfold f_X11_heap
          rw [x_isMove hm, cA_s, if_neg (by decide), if_neg h1, if_pos (Int32.not_lt.mp h2), gR_t (ly_t8 hl), ly_r8_2 hl, gR_t (ly_t9 hl), ly_r9_0 hl, cR_t (ly_t10 hl), x_setCount hX.1 ok.1 hm (by omega), cA_s, tv_1]
        · unfold f_X12_heap
          rw [y_isMove hm, cA_s, if_neg (by decide), in_ok h1 h2, cA_s, if_neg (by decide), gR_t (ly_t230 hb1.lay), ly_r230_3 hb1.lay, show (10 : Int32) = nI 10 from rfl, nI_add, wI_t (ly_t231 hb1.lay) (by omega) (by decide), tv_1]
        · refine ⟨hX.1.1, hX.1.2.1, ?_, ?_⟩
          · rw [mI_na (by decide), mI_e]
          · rw [mI_na (by decide), mI_nk (by decide)]; exact hX.1.2.2.2
        · refine ⟨⟨ok.1.1, ok.1.2.1, fun q => ?_, ok.1.2.2.2⟩, ok.2.1, fun q hq => ?_⟩
          · show up1 (stP s).2.1 m k q < 4
            by_cases e : q = m
            · subst e; rw [up1_s]; omega
            · rw [up1_n e]; exact ok.1.2.2.1 q
          · show up1 (stP s).2.1 m k q = 0
            rw [up1_n (by omega)]; exact ok.2.2 q hq
        · obtain ⟨a0, a1, a2, a3, a4, a5, a6, a7, a8⟩ := hp.2.2.2
          refine ⟨?_, ?_, ?_, ?_, ?_, ?_, fun q hq => ?_, fun q hq => ?_, fun q hq => ?_⟩
          · rw [mI_nk (by omega), mI_na (by decide)]; exact a0
          · rw [mI_nk (by omega), mI_na (by decide)]; exact a1
          · rw [mI_nk (by omega), mI_na (by decide)]; exact a2
          · rw [mI_nk (by omega), mI_na (by decide)]; exact a3
          · rw [mI_nk (by omega), mI_na (by decide)]; exact a4
          · rw [mI_nk (by omega), mI_na (by decide)]; exact a5
          · show _ = nI (up1 (stP s).2.1 m k q)
            by_cases e : q = m
            · subst e; rw [mI_e, up1_s]
            · rw [mI_nk (by omega), mI_na (by decide), up1_n e]; exact a6 q hq
          · rw [mI_nk (by omega), mI_na (by decide)]; exact a7 q hq
          · rw [mI_nk (by omega), mI_na (by decide)]; exact a8 q hq
  · refine end_scr hr ⟨0, M, M, ?_, ?_, Fx.rf⟩
    · unfold f_X11_heap; rw [x_isMove_n hm, cA_s, if_pos (by decide), tv_0]
    · unfold f_X12_heap; rw [y_isMove_n hm, cA_s, if_pos (by decide), tv_0]
end SIMPLE
