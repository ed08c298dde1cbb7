/-! ===== the reference reads: closing signs ===== -/
section YSTEP3
variable {pl L : Nat} {tp : Nat → Nat} {ln st a op : Nat} {F W O : List (Nat × Nat)} {M : Mem}
theorem wk_len {r n : Nat} : ∀ W : List (Nat × Nat), (wkS r n W).1.length + (wkS r n W).2.length = W.length
  | [] => rfl
  | w :: W => by
    have ih := wk_len (r := r) (n := n) W
    rw [wkS]
    by_cases z : w.2 = n ∧ r ≤ rk w.1
    · rw [if_pos z]; simp only [List.length_cons]; omega
    · rw [if_neg z]; rfl
theorem S_close {x j : Nat} {f : Nat × Nat} (h : CfM pl L tp ln 2 a (op + j + 1) ((6, x) :: (List.replicate j (7, 0) ++ f :: F)) W O M) (hf : f.1 ≠ 7) (ht : tTk tp ln a = 32) (hW : W.length ≤ 80) (hj : j + F.length < 38) (hO : O.length + W.length + j ≤ 400) (ha : a ≤ ln) : ∃ M', Rn 1 M M' ∧ Fx zA zF M M' ∧ CfM pl L tp ln 2 (tNx tp ln a) op (f :: F) (wkS 3 (j + F.length + 2) W).1 (O ++ cod ((wkS 3 (j + F.length + 2) W).2 ++ List.replicate j 10037)) M' := by
  have hlen : (List.replicate j (7, 0) ++ f :: F).length = j + F.length + 1 := by simp; omega
  have hlen2 : ((6, x) :: (List.replicate j (7, 0) ++ f :: F)).length = j + F.length + 2 := by rw [List.length_cons, hlen]
  obtain ⟨M1, a1, a2, a3⟩ := y_works (r := 3) (by decide) h hW (by omega) (by omega)
  rw [hlen2] at a3
  have hwl := wk_len (r := 3) (n := j + F.length + 2) W
  have c2 := a3.popF
  have c3 := c2.chP (op + j)
  obtain ⟨M4, b1, b2, b3⟩ := c3.nx ha
  obtain ⟨M5, d1, d2, d3⟩ := y_oneOver hf j FU _ M4 (by unfold FU; omega) (by omega) (by rw [List.length_append, cod_len]; omega) b3
  have d1 : f_X12_oneIsOver (some 230) M4 = some ((), M5) := d1
  rw [List.append_assoc, ← cod_app] at d3
  have f3 : Fx zA zF M1 (sI (sI M1 230 26 (nI (List.replicate j (7, 0) ++ f :: F).length)) 230 25 (nI (op + j))) := (Fx.wI (Or.inr (by decide))).I (Or.inr (by decide))
  refine ⟨M5, y_r2 h ?_, ((a2.tr f3).tr b2).tr d2, d3⟩
  have hw := y_isSign h (t := 32) (by decide) (by decide)
  rw [decide_eq_true ht] at hw
  rw [y_g65 h (by omega) (by omega)]
  unfold f_X12_goesOn_65
  rw [if_pos (show nI 6 = (6 : Int32) from rfl), cR_t (ly_t230 h.1), show f_X12_isSign (some 230) (41 : Int32) M = _ from hw, cA_s, if_neg (by decide), cR_t (ly_t230 h.1), show f_X12_works (some 230) (3 : Int32) M = _ from a1, cA_s, gI_t (ly_t230 a3.1), a3.2.2.2.2.2.2.1.1, show (1 : Int32) = nI 1 from rfl, pk_sub (by simp), List.length_cons, Nat.add_sub_cancel, pI_t (ly_t230 a3.1), gI_t (ly_t230 c2.1), c2.2.2.2.2.2.1, pk_sub (by omega), Nat.add_sub_cancel, pI_t (ly_t230 c2.1), cR_t (ly_t230 c3.1), b1, cA_s, cR_t (ly_t230 b3.1), d1, cA_s]
theorem y_181 {k : Nat} (h : CfM pl L tp ln st a op F W O M) (h5 : k ≠ 5) (h1 : k ≠ 1) (hk : k < 10) : ∃ M', f_X12_goesOn_181 (some 230) (nI k) M = some ((), M') ∧ Fx zA zF M M' ∧ FlM pl L 1 (tSt tp ln a) tp ln M' := by
  obtain ⟨M1, a1, a2, a3⟩ := y_errs (k := 1) h (by decide)
  refine ⟨M1, ?_, a2, a3⟩
  unfold f_X12_goesOn_181
  rw [if_neg (show ¬ nI k = (5 : Int32) from nIne (b := 5) (by omega) (by decide) h5), if_neg (show ¬ nI k = (1 : Int32) from nIne (b := 1) (by omega) (by decide) h1), cR_t (ly_t230 h.1), show f_X12_errs (some 230) (1 : Int32) M = _ from a1, cA_s]
theorem S_closeN {x : Nat} (h : CfM pl L tp ln 2 a op ((6, x) :: F) W O M) (hop : ¬ (27 ≤ tTk tp ln a ∧ tTk tp ln a ≤ 30)) (ht : tTk tp ln a ≠ 32) (hF : F.length < 40) : ∃ M', Rn 1 M M' ∧ Fx zA zF M M' ∧ FlM pl L 1 (tSt tp ln a) tp ln M' := by
  obtain ⟨M1, a1, a2, a3⟩ := y_181 (k := 6) h (by decide) (by decide) (by decide)
  refine ⟨M1, y_r2 h ?_, a2, a3⟩
  have hw := y_isSign h (t := 32) (by decide) (by decide)
  rw [decide_eq_false ht] at hw
  rw [y_g65 h hop hF]
  unfold f_X12_goesOn_65
  rw [if_pos (show nI 6 = (6 : Int32) from rfl), cR_t (ly_t230 h.1), show f_X12_isSign (some 230) (41 : Int32) M = _ from hw, cA_s, if_pos (by decide)]
  unfold f_X12_goesOn_116
  rw [if_neg (show ¬ nI 6 = (4 : Int32) by decide), a1]
theorem S_cmp {x : Nat} (h : CfM pl L tp ln 2 a op ((4, x) :: F) W O M) (ht : 21 ≤ tTk tp ln a) (ht' : tTk tp ln a ≤ 26) (hW : W.length ≤ 80) (hF : F.length < 39) (hO : O.length + W.length ≤ 400) (ha : a ≤ ln) : ∃ M', Rn 1 M M' ∧ Fx zA zF M M' ∧ CfM pl L tp ln 1 (tNx tp ln a) op ((5, tTk tp ln a) :: F) (wkS 3 (F.length + 1) W).1 (O ++ cod (wkS 3 (F.length + 1) W).2) M' := by
  obtain ⟨M1, a1, a2, a3⟩ := y_works (r := 3) (by decide) h hW (by simp; omega) hO
  rw [show ((4, x) :: F).length = F.length + 1 from rfl] at a3
  have hm := (cmp_sg _ (by omega) ht).1
  have hg := h.sg ht (by omega)
  have hg1 := a3.sg ht (by omega)
  have f1 : Fx [243, 244] [(230, 26)] M1 (sI M1 244 (F.length + 1) (nI (sgM (tTk tp ln a)))) := Fx.wI (Or.inl (by decide))
  have f2 : Fx [243, 244] [(230, 26)] M1 (sI (sI M1 244 (F.length + 1) (nI (sgM (tTk tp ln a)))) 243 F.length (nI 5)) := f1.I (Or.inl (by decide))
  have h26 := a3.2.2.2.2.2.2.1.1
  have hl1 := a3.1.fx f1 (by decide) (by decide)
  have c2 := a3.chF (F' := (5, tTk tp ln a) :: F) f2 (by rw [mI_na (by decide), mI_na (by decide), h26]; rfl) ⟨mI_e, (show (5 : Nat) < 10 by decide), fun _ => by rw [mI_na (by decide), mI_e, hm], a3.2.2.2.2.2.2.1.2.2.2.2.cg (fun j hj => ⟨by rw [mI_nk (by omega), mI_na (by decide)], by rw [mI_na (by decide), mI_nk (by omega)]⟩)⟩
  obtain ⟨M3, b1, b2, b3⟩ := c2.nx ha
  refine ⟨sI M3 230 32 (nI 1), y_r2 h ?_, ((a2.tr (f2.mono (by simp) (by simp))).tr b2).I (Or.inr (by decide)), b3.chS 1⟩
  rw [y_g65 h (by omega) (by omega)]
  unfold f_X12_goesOn_65
  rw [if_neg (show ¬ nI 4 = (6 : Int32) by decide)]
  unfold f_X12_goesOn_116
  rw [if_pos (show nI 4 = (4 : Int32) from rfl), gI_t (ly_t230 h.1), h.srt, if_pos (show nI (srt (tTk tp ln a)) = (3 : Int32) by unfold srt; rw [if_neg (by omega), if_neg (by omega), if_pos (by omega)]; rfl), gI_t (ly_t230 h.1), hg, y_isAsk _ (by omega) ht, cA_s, decide_eq_true ht', if_neg (by decide), cR_t (ly_t230 h.1), show f_X12_works (some 230) (3 : Int32) M = _ from a1, cA_s, gR_t (ly_t230 a3.1), ly_r230_28 a3.1, gI_t (ly_t230 a3.1), h26, gI_t (ly_t230 a3.1), hg1, show ((4, x) :: F).length = F.length + 1 from rfl, wI_t (ly_t244 a3.1) (by omega) (by decide), gR_t (ly_t230 hl1), ly_r230_27 hl1, gI_t (ly_t230 hl1), mI_na (by decide), h26, show ((4, x) :: F).length = F.length + 1 from rfl, show (1 : Int32) = nI 1 from rfl, pk_sub (by omega), Nat.add_sub_cancel, wI_t (ly_t243 hl1) (by omega) (by decide), show (5 : Int32) = nI 5 from rfl, cR_t (ly_t230 c2.1), b1, cA_s, pI_t (ly_t230 b3.1)]
theorem S_cmpN {x : Nat} (h : CfM pl L tp ln 2 a op ((4, x) :: F) W O M) (hop : ¬ (27 ≤ tTk tp ln a ∧ tTk tp ln a ≤ 30)) (ht : ¬ (21 ≤ tTk tp ln a ∧ tTk tp ln a ≤ 26)) (hF : F.length < 40) : ∃ M', Rn 1 M M' ∧ Fx zA zF M M' ∧ FlM pl L 1 (tSt tp ln a) tp ln M' := by
  obtain ⟨M1, a1, a2, a3⟩ := y_181 (k := 4) h (by decide) (by decide) (by decide)
  refine ⟨M1, y_r2 h ?_, a2, a3⟩
  rw [y_g65 h hop hF]
  unfold f_X12_goesOn_65
  rw [if_neg (show ¬ nI 4 = (6 : Int32) by decide)]
  unfold f_X12_goesOn_116
  rw [if_pos (show nI 4 = (4 : Int32) from rfl), gI_t (ly_t230 h.1), h.srt]
  by_cases z : srt (tTk tp ln a) = 3
  · have : 21 ≤ tTk tp ln a ∧ tTk tp ln a ≤ 34 := by
      unfold srt at z
      repeat' split at z
      all_goals omega
    rw [z, if_pos (show nI 3 = (3 : Int32) from rfl), gI_t (ly_t230 h.1), h.sg this.1 this.2, y_isAsk _ (by omega) this.1, cA_s, decide_eq_false (by omega), if_pos (by decide), a1]
  · rw [if_neg (show ¬ nI (srt (tTk tp ln a)) = (3 : Int32) from nIne (b := 3) (by have := srt_b (t := tTk tp ln a); omega) (by decide) z), a1]
theorem S_right {t j : Nat} {f : Nat × Nat} (h : CfM pl L tp ln 2 a (op + j) ((5, t) :: (List.replicate j (3, 0) ++ f :: F)) W O M) (hf : f.1 ≠ 3) (h21 : 21 ≤ t) (h26 : t ≤ 26) (hop : ¬ (27 ≤ tTk tp ln a ∧ tTk tp ln a ≤ 30)) (hW : W.length ≤ 80) (hj : j + F.length < 38) (hO : O.length + W.length + j < 400) : ∃ M', Rn 1 M M' ∧ Fx zA zF M M' ∧ CfM pl L tp ln 3 a op (f :: F) (wkS 3 (j + F.length + 2) W).1 (O ++ cod ((wkS 3 (j + F.length + 2) W).2 ++ (10000 + t) :: List.replicate j 10019)) M' := by
  have hlen : (List.replicate j (3, 0) ++ f :: F).length = j + F.length + 1 := by simp; omega
  have hlen2 : ((5, t) :: (List.replicate j (3, 0) ++ f :: F)).length = j + F.length + 2 := by rw [List.length_cons, hlen]
  obtain ⟨M1, a1, a2, a3⟩ := y_works (r := 3) (by decide) h hW (by omega) (by omega)
  rw [hlen2] at a3
  have hwl := wk_len (r := 3) (n := j + F.length + 2) W
  have c2 := a3.popF
  obtain ⟨M3, b1, b2, b3⟩ := y_emitC c2 (by rw [List.length_append, cod_len]; omega) (10000 + t)
  obtain ⟨M5, d1, d2, d3⟩ := y_askOver hf j FU _ M3 (by unfold FU; omega) (by omega) (by rw [List.length_append, List.length_append, cod_len, cod_len]; show O.length + _ + 1 + j ≤ 400; omega) b3
  have d1 : f_X12_askIsOver (some 230) M3 = some ((), M5) := d1
  rw [List.append_assoc, List.append_assoc, ← cod_app, ← cod_app] at d3
  have f3 : Fx zA zF M1 (sI M1 230 26 (nI (List.replicate j (3, 0) ++ f :: F).length)) := Fx.wI (Or.inr (by decide))
  refine ⟨M5, y_r2 h ?_, ((a2.tr f3).tr b2).tr d2, d3⟩
  obtain ⟨hm, hm0⟩ := cmp_sg t (by omega) h21
  have hv := a3.2.2.2.2.2.2.1.2.2.2.1 rfl
  rw [hlen] at hv
  rw [hm0] at b1
  rw [y_g65 h hop (by omega)]
  unfold f_X12_goesOn_65
  rw [if_neg (show ¬ nI 5 = (6 : Int32) by decide)]
  unfold f_X12_goesOn_116
  rw [if_neg (show ¬ nI 5 = (4 : Int32) by decide)]
  unfold f_X12_goesOn_181
  rw [if_pos (show nI 5 = (5 : Int32) from rfl), cR_t (ly_t230 h.1), show f_X12_works (some 230) (3 : Int32) M = _ from a1, cA_s, gR_t (ly_t230 a3.1), ly_r230_28 a3.1, gI_t (ly_t230 a3.1), a3.2.2.2.2.2.2.1.1, hlen2, aI_t (ly_t244 a3.1) (by omega) (by decide), hv, gI_t (ly_t230 a3.1), a3.2.2.2.2.2.2.1.1, hlen2, show (1 : Int32) = nI 1 from rfl, pk_sub (by omega), show j + F.length + 2 - 1 = (List.replicate j (3, 0) ++ f :: F).length by rw [hlen]; rfl, pI_t (ly_t230 a3.1), cR_t (ly_t230 c2.1), show (0 : Int32) = nI 0 from rfl, b1, cA_s, cR_t (ly_t230 b3.1), d1, cA_s]
theorem S_word (h : CfM pl L tp ln 3 a op F W O M) (ht : tTk tp ln a = 17 ∨ tTk tp ln a = 18) (hW : W.length < 80) (hF : F.length ≤ 40) (hO : O.length + W.length ≤ 400) (ha : a ≤ ln) : ∃ M', Rn 1 M M' ∧ Fx zA zF M M' ∧ CfM pl L tp ln 0 (tNx tp ln a) op F ((tTk tp ln a, F.length) :: (wkS (rk (tTk tp ln a)) F.length W).1) (O ++ cod (wkS (rk (tTk tp ln a)) F.length W).2) M' := by
  have hop : isOp (tTk tp ln a) := by unfold isOp; omega
  obtain ⟨M1, a1, a2, a3⟩ := y_waits h hop hW hF hO ha
  refine ⟨sI M1 230 32 (nI 0), y_r3 h ?_, a2.I (Or.inr (by decide)), a3.chS 0⟩
  have w18 := y_isWord h (t := 18) (by decide)
  have w17 := y_isWord h (t := 17) (by decide)
  have s18 : ∀ K : Int32 → Mem → Option (Unit × Mem), cA (f_X12_isWord (some 230) (11 : Int32) M) K = K (nI (decide (tTk tp ln a = 18)).toNat) M := fun K => by rw [show f_X12_isWord (some 230) (11 : Int32) M = _ from w18, cA_s]
  have s17 : ∀ K : Int32 → Mem → Option (Unit × Mem), cA (f_X12_isWord (some 230) (12 : Int32) M) K = K (nI (decide (tTk tp ln a = 17)).toNat) M := fun K => by rw [show f_X12_isWord (some 230) (12 : Int32) M = _ from w17, cA_s]
  unfold f_X12_asksOn
  rcases ht with e | e <;> rw [e] at a1
  · rw [cR_t (ly_t230 h.1), s18, decide_eq_false (by omega), if_pos (by decide), cR_t (ly_t230 h.1), s17, decide_eq_true e, if_neg (by decide)]
    unfold f_X12_asksOn_18
    rw [cR_t (ly_t230 h.1), s18, decide_eq_false (by omega), if_pos (by decide), cR_t (ly_t230 h.1), show f_X12_waitsFor (some 230) (406 : Int32) M = _ from a1, cA_s, pI_t (ly_t230 a3.1)]
    rfl
  · rw [cR_t (ly_t230 h.1), s18, decide_eq_true e, if_neg (by decide)]
    unfold f_X12_asksOn_18
    rw [cR_t (ly_t230 h.1), s18, decide_eq_true e, if_neg (by decide), cR_t (ly_t230 h.1), show f_X12_waitsFor (some 230) (407 : Int32) M = _ from a1, cA_s, pI_t (ly_t230 a3.1)]
    rfl
end YSTEP3
