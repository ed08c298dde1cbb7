/-! ===== the reference reads a clause: its pieces ===== -/
abbrev zA2 : List Nat := [243, 244, 245, 246, 247, 248, 249, 250, 251]
abbrev zF2 : List (Nat × Nat) := [(230, 19), (230, 20), (230, 21), (230, 22), (230, 23), (230, 24), (230, 25), (230, 26), (230, 29), (230, 32), (230, 33), (230, 34), (230, 38)]
theorem Fx.zn {M M' : Mem} (h : Fx zA zF M M') : Fx zA2 zF2 M M' := h.mono (by simp) (by simp)
section YCLAUSE
variable {pl L : Nat} {tp : Nat → Nat} {ln st a op : Nat} {F W O : List (Nat × Nat)} {M M' : Mem}
theorem CfM.nw (h : CfM pl L tp ln st a op F W O M) (fr : Fx [247, 248, 249] [(230, 33), (230, 34)] M M') : CfM pl L tp ln st a op F W O M' := by
  obtain ⟨h1, h2, h3, h4, h5, h6, h7, h8, h9⟩ := h
  exact ⟨h1.fx fr (by decide) (by decide), h2.fx fr (by decide) (by decide), h3.fx fr (by decide) (by decide), ⟨by rw [fr.i (by decide) (by decide)]; exact h4.1, by rw [fr.i (by decide) (by decide)]; exact h4.2⟩, by rw [fr.i (by decide) (by decide)]; exact h5, by rw [fr.i (by decide) (by decide)]; exact h6, ⟨by rw [fr.i (by decide) (by decide)]; exact h7.1, h7.2.cg (fun j _ => ⟨by rw [fr.ib (by decide)], by rw [fr.ib (by decide)]⟩)⟩, ⟨by rw [fr.i (by decide) (by decide)]; exact h8.1, h8.2.cg (fun j _ => ⟨by rw [fr.ib (by decide)], by rw [fr.ib (by decide)]⟩)⟩, ⟨by rw [fr.i (by decide) (by decide)]; exact h9.1, fun j p hj => by rw [fr.ib (b := 250) (by decide), fr.ib (b := 251) (by decide)]; exact h9.2 j p hj⟩⟩
theorem FlM.nw {k p : Nat} (h : FlM pl L k p tp ln M) (fr : Fx [247, 248, 249] [(230, 33), (230, 34)] M M') : FlM pl L k p tp ln M' := by
  obtain ⟨h1, h2, h3, h4, h5, h6⟩ := h
  exact ⟨h1.fx fr (by decide) (by decide), h2.fx fr (by decide) (by decide), by rw [fr.i (by decide) (by decide)]; exact h3, by rw [fr.i (by decide) (by decide)]; exact h4, h5, h6⟩
theorem y_r4 (h : CfM pl L tp ln 4 a op F W O M) (ht : tTk tp ln a ≠ 35) (e : f_X12_clause (some 230) M = some ((), M')) : Rn 1 M M' := fun f => by
  have hs : srt (tTk tp ln a) ≠ 0 := by
    unfold srt
    have := tTk_le (tp := tp) (ln := ln) (a := a)
    by_cases q : tTk tp ln a ≤ 34
    · by_cases q2 : tTk tp ln a < 20
      · rw [if_pos q2]; decide
      · rw [if_neg q2]
        by_cases q3 : tTk tp ln a = 20
        · rw [if_pos q3]; decide
        · rw [if_neg q3, if_pos q]; decide
    · rw [if_neg (by omega), if_neg (by omega), if_neg q, if_neg ht]; decide
  have hb := srt_b (t := tTk tp ln a)
  rw [u_X12_text_75]
  unfold b_X12_text_75
  rw [gI_t (ly_t230 h.1), h.2.2.2.1.1, if_pos (show nI 0 = (0 : Int32) from rfl), gI_t (ly_t230 h.1), h.2.2.2.2.1, if_pos (show nI 4 = (4 : Int32) from rfl), gI_t (ly_t230 h.1), h.srt, if_neg (ne_0 (by omega) hs)]
  unfold f_X12_text_97
  rw [gI_t (ly_t230 h.1), h.2.2.2.2.1, if_neg (show ¬ nI 4 = (0 : Int32) by decide), if_neg (show ¬ nI 4 = (1 : Int32) by decide), if_neg (show ¬ nI 4 = (2 : Int32) by decide), if_neg (show ¬ nI 4 = (3 : Int32) by decide), cR_t (ly_t230 h.1), e, cA_s]
/-- a number of a clause -/
theorem y_num {hi : Nat} (hh : hi < 9999) (h : CfM pl L tp ln st a op F W O M) (ha : a ≤ ln) : match pNum tp ln hi a with
    | .inl e => ∃ M', f_X12_number (some 230) (0 : Int32) (nI hi) M = some (0, M') ∧ Fx zA zF M M' ∧ FlM pl L e.1 (tSt tp ln e.2) tp ln M'
    | .inr q => ∃ M', f_X12_number (some 230) (0 : Int32) (nI hi) M = some (nI q.2, M') ∧ Fx zA zF M M' ∧ CfM pl L tp ln st q.1 op F W O M' := by
  have hb := srt_b (t := tTk tp ln a)
  unfold pNum
  by_cases e : tTk tp ln a = 20
  · rw [if_pos e]
    have hm := tNm_mm (tp := tp) (ln := ln) (a := a)
    have hmm := tMm_lt (tp := tp) (ln := ln) (a := a)
    have start : f_X12_number (some 230) (0 : Int32) (nI hi) M = cA (f_X12_in (nI (tMm tp ln a)) (0 : Int32) (nI hi) M) (fun v4 M2 => if v4 = 0 then cR M2 (some 230) (1, 12) (cA (f_X12_errs (some 230) (2 : Int32) M2) fun _ M3 => some ((0 : Int32), M3)) else gI M2 (some 230) 12 22 fun v5 => cR M2 (some 230) (1, 12) (cA (f_X12_next (some 230) M2) fun _ M4 => some (v5, M4))) := by
      unfold f_X12_number
      rw [gI_t (ly_t230 h.1), h.2.2.2.1.1, if_neg (show ¬ (0 : Int32) < nI 0 by decide), gI_t (ly_t230 h.1), h.srt, if_pos (show nI (srt (tTk tp ln a)) = (2 : Int32) by rw [e]; rfl), gI_t (ly_t230 h.1), h.nm e]
    by_cases z : tNm tp ln a ≤ hi
    · rw [if_pos z]
      obtain ⟨M1, b1, b2, b3⟩ := h.nx ha
      refine ⟨M1, ?_, b2, b3⟩
      rw [start, in_ok (nI_pos (by omega)) (nI_nlt (by omega) (by omega)), cA_s, if_neg (by decide), gI_t (ly_t230 h.1), h.nm e, cR_t (ly_t230 h.1), b1, cA_s]
      show some (nI (tMm tp ln a), M1) = some (nI (tNm tp ln a), M1)
      rw [show tNm tp ln a = tMm tp ln a by omega]
    · rw [if_neg z]
      obtain ⟨M1, b1, b2, b3⟩ := y_errs (k := 2) h (by decide)
      refine ⟨M1, ?_, b2, b3⟩
      rw [start, in_hi (nI_lt (by omega) (by omega)), cA_s, if_pos (by decide), cR_t (ly_t230 h.1), show f_X12_errs (some 230) (2 : Int32) M = _ from b1, cA_s]
  · rw [if_neg e]
    obtain ⟨M1, b1, b2, b3⟩ := y_errs (k := 1) h (by decide)
    refine ⟨M1, ?_, b2, b3⟩
    have h2 : srt (tTk tp ln a) ≠ 2 := by
      unfold srt
      by_cases q : tTk tp ln a < 20
      · rw [if_pos q]; decide
      · rw [if_neg q, if_neg e]
        repeat' split
        all_goals decide
    unfold f_X12_number
    rw [gI_t (ly_t230 h.1), h.2.2.2.1.1, if_neg (show ¬ (0 : Int32) < nI 0 by decide), gI_t (ly_t230 h.1), h.srt, if_neg (show ¬ nI (srt (tTk tp ln a)) = (2 : Int32) from nIne (b := 2) (by omega) (by decide) h2), cR_t (ly_t230 h.1), show f_X12_errs (some 230) (1 : Int32) M = _ from b1, cA_s]
theorem FlM.pos {k p : Nat} (h : FlM pl L k p tp ln M) : ¬ nI k = (0 : Int32) ∧ (0 : Int32) < nI k ∧ ¬ nI k ≤ (0 : Int32) := ⟨ne_0 (by have := h.2.2.2.2.2; omega) (by have := h.2.2.2.2.1; omega), nI_lt (a := 0) h.2.2.2.2.1 (by have := h.2.2.2.2.2; omega), nI_ge (a := 0) h.2.2.2.2.1 (by have := h.2.2.2.2.2; omega)⟩
theorem y_errs_f {k p : Nat} {v : Int32} (h : FlM pl L k p tp ln M) : f_X12_errs (some 230) v M = some ((), M) := by
  unfold f_X12_errs
  rw [gI_t (ly_t230 h.1), h.2.2.1, if_neg h.pos.1]
theorem y_num_f {k p : Nat} {u v : Int32} (h : FlM pl L k p tp ln M) : f_X12_number (some 230) u v M = some (u, M) := by
  unfold f_X12_number
  rw [gI_t (ly_t230 h.1), h.2.2.1, if_pos h.pos.2.1, cR_t (ly_t230 h.1), y_errs_f h, cA_s]
theorem y_wants_f {k p : Nat} {v : Int32} (h : FlM pl L k p tp ln M) : f_X12_wants (some 230) v M = some ((), M) := by
  unfold f_X12_wants
  rw [gI_t (ly_t230 h.1), h.2.2.1, if_neg h.pos.1, gI_t (ly_t230 h.1), h.2.2.1, if_neg h.pos.1]
theorem y_isSign_f {v : Int32} (hl : Lay pl L M) : ∃ x, f_X12_isSign (some 230) v M = some (x, M) := by
  unfold f_X12_isSign
  rw [gI_t (ly_t230 hl)]
  by_cases e : mI M 230 21 = (3 : Int32)
  · rw [if_pos e, gI_t (ly_t230 hl)]
    by_cases z : mI M 230 22 = v
    · rw [if_pos z, tv_1]; exact ⟨_, rfl⟩
    · rw [if_neg z, tv_0]; exact ⟨_, rfl⟩
  · rw [if_neg e, tv_0]; exact ⟨_, rfl⟩
theorem y_wants_y (h : CfM pl L tp ln st a op F W O M) (ha : a ≤ ln) : ∃ M', f_X12_wants (some 230) (1 : Int32) M = some ((), M') ∧ Fx zA zF M M' ∧ CfM pl L tp ln st (tNx tp ln a) op F W O M' := by
  obtain ⟨M1, b1, b2, b3⟩ := h.nx ha
  refine ⟨M1, ?_, b2, b3⟩
  unfold f_X12_wants
  rw [gI_t (ly_t230 h.1), h.2.2.2.1.1, if_pos (show nI 0 = (0 : Int32) from rfl), if_neg (by decide), gI_t (ly_t230 h.1), h.2.2.2.1.1, if_pos (show nI 0 = (0 : Int32) from rfl), cR_t (ly_t230 h.1), b1, cA_s]
theorem y_wants_n (h : CfM pl L tp ln st a op F W O M) : ∃ M', f_X12_wants (some 230) (0 : Int32) M = some ((), M') ∧ Fx zA zF M M' ∧ FlM pl L 1 (tSt tp ln a) tp ln M' := by
  obtain ⟨M1, b1, b2, b3⟩ := y_errs (k := 1) h (by decide)
  refine ⟨M1, ?_, b2, b3⟩
  unfold f_X12_wants
  rw [gI_t (ly_t230 h.1), h.2.2.2.1.1, if_pos (show nI 0 = (0 : Int32) from rfl), if_pos rfl, cR_t (ly_t230 h.1), show f_X12_errs (some 230) (1 : Int32) M = _ from b1, cA_s, gI_t (ly_t230 b3.1), b3.2.2.1, if_neg b3.pos.1]
/-- the end of a clause -/
theorem y_over {n : Nat} (h : CfM pl L tp ln st a op F W O M) (hn : mI M 230 33 = nI n) (hX : ∀ x, x ∈ W → x.2 = F.length) (hW : W.length ≤ 80) (hF : F.length ≤ 40) (hO : O.length + W.length < 400) (ha : a ≤ ln) : ∃ M', f_X12_clauseIsOver (some 230) M = some ((), M') ∧ Fx zA2 zF2 M M' ∧ CfM pl L tp ln 4 (tNx tp ln a) op [] [] (O ++ (cod (ops W) ++ [(408, 0)])) M' ∧ mI M' 230 33 = nI (n + 1) ∧ mI M' 247 = mI M 247 ∧ mI M' 248 = mI M 248 ∧ mI M' 249 = mI M 249 := by
  obtain ⟨M1, b1, b2, b3⟩ := y_works (r := 1) (by decide) h hW hF (by omega)
  have hwk : wkS 1 F.length W = ([], ops W) := by
    have := wkS_X (r := 1) (n := F.length) (W := []) rfl W (fun x hx => ⟨hX x hx, rk_b.1⟩)
    rw [List.append_nil] at this
    exact this
  rw [hwk] at b3
  have f2 : Fx [243, 244] [(230, 26)] M1 (sI M1 230 26 (nI 0)) := Fx.wI (Or.inr (by decide))
  have c2 : CfM pl L tp ln st a op [] [] (O ++ cod (ops W)) (sI M1 230 26 (nI 0)) := b3.chF f2 mI_e trivial
  obtain ⟨M3, d1, d2, d3⟩ := y_emits c2 (by rw [List.length_append, cod_len]; unfold ops; rw [List.length_map]; omega) 408 0
  have f3 : Fx zA zF M M3 := (b2.tr (f2.mono (by simp) (by simp))).tr d2
  have h33 : mI M3 230 33 = nI n := by rw [f3.i (by decide) (by decide)]; exact hn
  have f4 : Fx [247, 248, 249] [(230, 33), (230, 34)] M3 (sI M3 230 33 (nI (n + 1))) := Fx.wI (Or.inr (by decide))
  have c4 := d3.nw f4
  obtain ⟨M5, e1, e2, e3⟩ := c4.nx ha
  have f6 : Fx zA zF M5 (sI M5 230 32 (nI 4)) := Fx.wI (Or.inr (by decide))
  refine ⟨sI M5 230 32 (nI 4), ?_, ((f3.zn.tr (f4.mono (by simp) (by simp))).tr e2.zn).tr f6.zn, ?_, ?_, ?_, ?_, ?_⟩
  · unfold f_X12_clauseIsOver
    rw [cR_t (ly_t230 h.1), show f_X12_works (some 230) (1 : Int32) M = _ from b1, cA_s, pI_t (ly_t230 b3.1), show (0 : Int32) = nI 0 from rfl, cR_t (ly_t230 c2.1), show f_X12_emits (some 230) (408 : Int32) (nI 0) (sI M1 230 26 (nI 0)) = _ from d1, cA_s, gI_t (ly_t230 d3.1), h33, nI_1, pI_t (ly_t230 d3.1), cR_t (ly_t230 c4.1), e1, cA_s, pI_t (ly_t230 e3.1)]
    rfl
  · rw [← List.append_assoc]; exact e3.chS 4
  · rw [mI_nk (by decide), e2.i (by decide) (by decide), mI_e]
  · rw [mI_na (by decide), e2.ib (by decide), mI_na (by decide), f3.ib (by decide)]
  · rw [mI_na (by decide), e2.ib (by decide), mI_na (by decide), f3.ib (by decide)]
  · rw [mI_na (by decide), e2.ib (by decide), mI_na (by decide), f3.ib (by decide)]
/-- was this told already? -/
theorem y_told0 {T : Txt} {t : Nat} (h1 : 12 ≤ t) (h2 : t ≤ 15) (hl : Lay pl L M) (hn : mI M 230 33 = nI T.length) (hT : T.length ≤ 20) (hk : ∀ (k : Nat) (c : Cl), T[k]? = some c → mI M 247 k = nI (mwd (cTy c)) ∧ cTy c ≤ 16) : ∀ (n f i : Nat) (b : Bool), i + n = T.length → n < f → f_X12_wasTold_4 f (some 230) (nI (t - 11)) (nI b.toNat) (nI i) M = some (nI (b || (T.drop i).any (fun c => cTy c == t)).toNat, M)
  | n, 0, i, b => fun _ z => absurd z (by omega)
  | 0, f + 1, i, b => fun hi _ => by
    obtain rfl : i = T.length := by omega
    rw [show f_X12_wasTold_4 (f + 1) = b_X12_wasTold_4 (f_X12_wasTold_4 f) from rfl]
    unfold b_X12_wasTold_4
    rw [gI_t (ly_t230 hl), hn, if_pos (Int32.le_refl _), List.drop_length, List.any_nil, Bool.or_false]
    cases b
    · exact tv_0
    · exact tv_1
  | n + 1, f + 1, i, b => fun hi hf => by
    obtain ⟨c, hc⟩ : ∃ c, T[i]? = some c := ⟨T[i]'(by omega), List.getElem?_eq_getElem (by omega)⟩
    obtain ⟨k1, k2⟩ := hk i c hc
    have ih := fun b => y_told0 h1 h2 hl hn hT hk n f (i + 1) b (by omega) (by omega)
    have hdrop : (T.drop i).any (fun c => cTy c == t) = ((cTy c == t) || (T.drop (i + 1)).any (fun c => cTy c == t)) := by
      rw [List.drop_eq_getElem_cons (by omega), List.any_cons]
      have : T[i]'(by omega) = c := by
        have := List.getElem?_eq_getElem (l := T) (i := i) (by omega)
        rw [hc] at this
        exact (Option.some.inj this).symm
      rw [this]
    rw [show f_X12_wasTold_4 (f + 1) = b_X12_wasTold_4 (f_X12_wasTold_4 f) from rfl]
    unfold b_X12_wasTold_4
    rw [gI_t (ly_t230 hl), hn, if_neg (nI_ge (by omega) (by omega)), hdrop]
    cases b with
    | true =>
      rw [if_neg (by decide), nI_1]
      have := ih true
      rw [Bool.true_or] at this ⊢
      exact this
    | false =>
      rw [if_pos (by decide), gR_t (ly_t230 hl), ly_r230_35 hl, aI_t (ly_t247 hl) (by omega) (by decide), k1, nI_1, Bool.false_or]
      have hm : mwd (cTy c) < 2 ^ 31 := by unfold mwd; omega
      by_cases z : cTy c = t
      · rw [if_pos (show nI (mwd (cTy c)) = nI (t - 11) by rw [z]; rfl)]
        have := ih true
        rw [Bool.true_or] at this
        rw [show (cTy c == t) = true by rw [z]; simp, Bool.true_or]
        exact this
      · rw [if_neg (nIne hm (by omega) (by unfold mwd; omega))]
        have := ih false
        rw [Bool.false_or] at this
        rw [show (cTy c == t) = false by simp [z], Bool.false_or]
        exact this
theorem fTd_any {y : Nat} : ∀ (T : Txt) (i : Nat), (fTd y T i).isSome = T.any (fun c => cTy c == y)
  | [], _ => rfl
  | d :: T, i => by
    show (if cTy d = y then some i else fTd y T (i + 1)).isSome = ((cTy d == y) || T.any (fun c => cTy c == y))
    by_cases e : cTy d = y
    · rw [if_pos e, show (cTy d == y) = true by simp [e]]; rfl
    · rw [if_neg e, show (cTy d == y) = false by simp [e], Bool.false_or]
      exact fTd_any T (i + 1)
end YCLAUSE
