/-! ===== the reference reads: its steps ===== -/
def srt (t : Nat) : Nat := if t < 20 then 1 else if t = 20 then 2 else if t ≤ 34 then 3 else if t = 35 then 0 else 4
theorem SoM.s {t mm : Nat} {M : Mem} (h : SoM t mm M) (ht : t ≤ 36) : mI M 230 21 = nI (srt t) := by
  obtain ⟨a, b, c, d, e⟩ := h
  unfold srt
  by_cases h1 : t < 20
  · rw [if_pos h1]; exact (a h1).1
  rw [if_neg h1]
  by_cases h2 : t = 20
  · rw [if_pos h2]; exact (b h2).1
  rw [if_neg h2]
  by_cases h3 : t ≤ 34
  · rw [if_pos h3]; exact (c ⟨by omega, h3⟩).1
  rw [if_neg h3]
  by_cases h4 : t = 35
  · rw [if_pos h4]; exact d h4
  · rw [if_neg h4]; exact e (by omega)
theorem srt_b {t : Nat} : srt t ≤ 4 := by unfold srt; repeat' split
                                          all_goals decide
theorem srt_n1 {t : Nat} (h : ¬ t < 20) : srt t ≠ 1 := by
  unfold srt
  rw [if_neg h]
  repeat' split
  all_goals decide
theorem rw_inj : ∀ s, s < 20 → ∀ t, t < 20 → rwT s = rwT t → s = t := by decide +kernel
theorem rw_b : ∀ s, s < 20 → rwT s < 20 := by decide +kernel
theorem sg_inj : ∀ s, s < 35 → 21 ≤ s → ∀ t, t < 35 → 21 ≤ t → sgM s = sgM t → s = t := by decide +kernel
theorem sg_b : ∀ s, s < 35 → 21 ≤ s → sgM s < 400 ∧ 0 < sgM s := by decide +kernel
section YSTEP
variable {pl L : Nat} {tp : Nat → Nat} {ln st a op : Nat} {F W O : List (Nat × Nat)} {M : Mem}
theorem CfM.srt (h : CfM pl L tp ln st a op F W O M) : mI M 230 21 = nI (srt (tTk tp ln a)) := h.2.2.1.2.2.s tTk_le
theorem CfM.wd (h : CfM pl L tp ln st a op F W O M) (ht : tTk tp ln a < 20) : mI M 230 22 = nI (rwT (tTk tp ln a)) := (h.2.2.1.2.2.1 ht).2
theorem CfM.nm (h : CfM pl L tp ln st a op F W O M) (ht : tTk tp ln a = 20) : mI M 230 22 = nI (tMm tp ln a) := (h.2.2.1.2.2.2.1 ht).2
theorem CfM.sg (h : CfM pl L tp ln st a op F W O M) (ht : 21 ≤ tTk tp ln a) (ht' : tTk tp ln a ≤ 34) : mI M 230 22 = nI (sgM (tTk tp ln a)) := (h.2.2.1.2.2.2.2.1 ⟨ht, ht'⟩).2
theorem y_isWord (h : CfM pl L tp ln st a op F W O M) {t : Nat} (ht : t < 20) : f_X12_isWord (some 230) (nI (rwT t)) M = some (nI (decide (tTk tp ln a = t)).toNat, M) := by
  have hs := h.srt
  unfold f_X12_isWord
  rw [gI_t (ly_t230 h.1), hs]
  by_cases e : tTk tp ln a < 20
  · rw [if_pos (show nI (srt (tTk tp ln a)) = (1 : Int32) by unfold srt; rw [if_pos e]; rfl), gI_t (ly_t230 h.1), h.wd e]
    by_cases z : tTk tp ln a = t
    · rw [if_pos (by rw [z]), decide_eq_true z, tv_1]; rfl
    · rw [if_neg (nIne (by have := rw_b _ e; omega) (by have := rw_b _ ht; omega) (fun q => z (rw_inj _ e _ ht q))), decide_eq_false z, tv_0]; rfl
  · rw [if_neg (show ¬ nI (srt (tTk tp ln a)) = (1 : Int32) from nIne (b := 1) (by have := srt_b (t := tTk tp ln a); omega) (by decide) (srt_n1 e)), decide_eq_false (by omega), tv_0]; rfl
theorem y_isSign (h : CfM pl L tp ln st a op F W O M) {t : Nat} (ht : 21 ≤ t) (ht' : t ≤ 34) : f_X12_isSign (some 230) (nI (sgM t)) M = some (nI (decide (tTk tp ln a = t)).toNat, M) := by
  have hs := h.srt
  unfold f_X12_isSign
  rw [gI_t (ly_t230 h.1), hs]
  by_cases e : 21 ≤ tTk tp ln a ∧ tTk tp ln a ≤ 34
  · rw [if_pos (show nI (srt (tTk tp ln a)) = (3 : Int32) by unfold srt; rw [if_neg (by omega), if_neg (by omega), if_pos e.2]; rfl), gI_t (ly_t230 h.1), h.sg e.1 e.2]
    by_cases z : tTk tp ln a = t
    · rw [if_pos (by rw [z]), decide_eq_true z, tv_1]; rfl
    · rw [if_neg (nIne (by have := sg_b _ (by omega) e.1; omega) (by have := sg_b t (by omega) ht; omega) (fun q => z (sg_inj _ (by omega) e.1 _ (by omega) ht q))), decide_eq_false z, tv_0]; rfl
  · rw [if_neg (show ¬ nI (srt (tTk tp ln a)) = (3 : Int32) from nIne (b := 3) (by have := srt_b (t := tTk tp ln a); omega) (by decide) (by
        unfold srt
        by_cases q : tTk tp ln a ≤ 34
        · by_cases q2 : tTk tp ln a < 20
          · rw [if_pos q2]; decide
          · rw [if_neg q2, if_pos (by omega)]; decide
        · rw [if_neg (by omega), if_neg (by omega), if_neg q]
          split <;> decide)), decide_eq_false (by omega), tv_0]; rfl
theorem y_oneOver {f : Nat × Nat} (hf : f.1 ≠ 7) : ∀ (j g : Nat) (O : List (Nat × Nat)) (M : Mem), j < g → j + F.length < 39 → O.length + j ≤ 400 → CfM pl L tp ln st a (op + j) (List.replicate j (7, 0) ++ f :: F) W O M → ∃ M', f_X12_oneIsOver_0 g (some 230) M = some ((), M') ∧ Fx zA zF M M' ∧ CfM pl L tp ln 2 a op (f :: F) W (O ++ cod (List.replicate j 10037)) M'
  | j, 0, O, M => fun z => absurd z (by omega)
  | 0, g + 1, O, M => by
    intro _ hj hO h
    have h : CfM pl L tp ln st a op (f :: F) W O M := h
    refine ⟨sI M 230 32 (nI 2), ?_, Fx.wI (Or.inr (by decide)), by simpa [cod] using h.chS 2⟩
    rw [u_X12_oneIsOver_0]
    unfold b_X12_oneIsOver_0
    have := h.2.2.2.2.2.2.1.2.2.1
    rw [cR_t (ly_t230 h.1), y_top h (by omega), cA_s, if_neg (show ¬ nI f.1 = (7 : Int32) from nIne (b := 7) (by omega) (by decide) hf), pI_t (ly_t230 h.1)]
    rfl
  | j + 1, g + 1, O, M => by
    intro hg hj hO h
    have h : CfM pl L tp ln st a (op + j + 1) ((7, 0) :: (List.replicate j (7, 0) ++ f :: F)) W O M := h
    have hlen : (List.replicate j (7, 0) ++ f :: F).length = j + F.length + 1 := by simp; omega
    have c1 := h.popF
    have c2 := c1.chP (op + j)
    have f2 : Fx zA zF M (sI (sI M 230 26 (nI (List.replicate j (7, 0) ++ f :: F).length)) 230 25 (nI (op + j))) := (Fx.wI (Or.inr (by decide))).I (Or.inr (by decide))
    obtain ⟨M3, b1, b2, b3⟩ := y_emitC c2 (by omega) 10037
    obtain ⟨M4, d1, d2, d3⟩ := y_oneOver hf j g _ M3 (by omega) (by omega) (by simp [cod]; omega) b3
    refine ⟨M4, ?_, (f2.tr b2).tr d2, ?_⟩
    · rw [u_X12_oneIsOver_0]
      unfold b_X12_oneIsOver_0
      rw [cR_t (ly_t230 h.1), y_top h (by omega), cA_s, if_pos (show nI 7 = (7 : Int32) from rfl), gI_t (ly_t230 h.1), h.2.2.2.2.2.2.1.1, show (1 : Int32) = nI 1 from rfl, pk_sub (by simp), List.length_cons, Nat.add_sub_cancel, pI_t (ly_t230 h.1), gI_t (ly_t230 c1.1), c1.2.2.2.2.2.1, pk_sub (by omega), Nat.add_sub_cancel, pI_t (ly_t230 c1.1), cR_t (ly_t230 c2.1), show (402 : Int32) = nI (moC 10037) from rfl, show (0 : Int32) = nI (mvC 10037) from rfl, b1, cA_s]
      exact d1
    · rw [List.append_assoc, ← cod_app] at d3
      exact d3
theorem y_askOver {f : Nat × Nat} (hf : f.1 ≠ 3) : ∀ (j g : Nat) (O : List (Nat × Nat)) (M : Mem), j < g → j + F.length < 39 → O.length + j ≤ 400 → CfM pl L tp ln st a (op + j) (List.replicate j (3, 0) ++ f :: F) W O M → ∃ M', f_X12_askIsOver_0 g (some 230) M = some ((), M') ∧ Fx zA zF M M' ∧ CfM pl L tp ln 3 a op (f :: F) W (O ++ cod (List.replicate j 10019)) M'
  | j, 0, O, M => fun z => absurd z (by omega)
  | 0, g + 1, O, M => by
    intro _ hj hO h
    have h : CfM pl L tp ln st a op (f :: F) W O M := h
    refine ⟨sI M 230 32 (nI 3), ?_, Fx.wI (Or.inr (by decide)), by simpa [cod] using h.chS 3⟩
    rw [show f_X12_askIsOver_0 (g + 1) = b_X12_askIsOver_0 (f_X12_askIsOver_0 g) from rfl]
    unfold b_X12_askIsOver_0
    have := h.2.2.2.2.2.2.1.2.2.1
    rw [cR_t (ly_t230 h.1), y_top h (by omega), cA_s, if_neg (show ¬ nI f.1 = (3 : Int32) from nIne (b := 3) (by omega) (by decide) hf), pI_t (ly_t230 h.1)]
    rfl
  | j + 1, g + 1, O, M => by
    intro hg hj hO h
    have h : CfM pl L tp ln st a (op + j + 1) ((3, 0) :: (List.replicate j (3, 0) ++ f :: F)) W O M := h
    have hlen : (List.replicate j (3, 0) ++ f :: F).length = j + F.length + 1 := by simp; omega
    have c1 := h.popF
    have c2 := c1.chP (op + j)
    have f2 : Fx zA zF M (sI (sI M 230 26 (nI (List.replicate j (3, 0) ++ f :: F).length)) 230 25 (nI (op + j))) := (Fx.wI (Or.inr (by decide))).I (Or.inr (by decide))
    obtain ⟨M3, b1, b2, b3⟩ := y_emitC c2 (by omega) 10019
    obtain ⟨M4, d1, d2, d3⟩ := y_askOver hf j g _ M3 (by omega) (by omega) (by simp [cod]; omega) b3
    refine ⟨M4, ?_, (f2.tr b2).tr d2, ?_⟩
    · rw [show f_X12_askIsOver_0 (g + 1) = b_X12_askIsOver_0 (f_X12_askIsOver_0 g) from rfl]
      unfold b_X12_askIsOver_0
      rw [cR_t (ly_t230 h.1), y_top h (by omega), cA_s, if_pos (show nI 3 = (3 : Int32) from rfl), gI_t (ly_t230 h.1), h.2.2.2.2.2.2.1.1, show (1 : Int32) = nI 1 from rfl, pk_sub (by simp), List.length_cons, Nat.add_sub_cancel, pI_t (ly_t230 h.1), gI_t (ly_t230 c1.1), c1.2.2.2.2.2.1, pk_sub (by omega), Nat.add_sub_cancel, pI_t (ly_t230 c1.1), cR_t (ly_t230 c2.1), show (405 : Int32) = nI (moC 10019) from rfl, show (0 : Int32) = nI (mvC 10019) from rfl, b1, cA_s]
      exact d1
    · rw [List.append_assoc, ← cod_app] at d3
      exact d3
/-- so many steps of the reading -/
def Rn (s : Nat) (M M' : Mem) : Prop := ∀ f, f_X12_text_75 (f + s) (some 230) M = f_X12_text_75 f (some 230) M'
theorem Rn.rf : Rn 0 M M := fun _ => rfl
theorem Rn.tr {s t : Nat} {M1 M2 M3 : Mem} (h : Rn s M1 M2) (k : Rn t M2 M3) : Rn (s + t) M1 M3 := fun f => by
  rw [show f + (s + t) = (f + t) + s by omega, h, k]
theorem y_r97 (h : CfM pl L tp ln st a op F W O M) (hs : st < 4) (f : Nat) : f_X12_text_75 (f + 1) (some 230) M = f_X12_text_97 (f_X12_text_75 f) (some 230) M := by
  rw [u_X12_text_75]
  unfold b_X12_text_75
  rw [gI_t (ly_t230 h.1), h.2.2.2.1.1, if_pos (show nI 0 = (0 : Int32) from rfl), gI_t (ly_t230 h.1), h.2.2.2.2.1, if_neg (show ¬ nI st = (4 : Int32) from nIne (b := 4) (by omega) (by decide) (by omega))]
theorem y_r0 {M' : Mem} (h : CfM pl L tp ln 0 a op F W O M) (e : f_X12_asks (some 230) M = some ((), M')) : Rn 1 M M' := fun f => by
  rw [y_r97 h (by decide)]
  unfold f_X12_text_97
  rw [gI_t (ly_t230 h.1), h.2.2.2.2.1, if_pos (show nI 0 = (0 : Int32) from rfl), cR_t (ly_t230 h.1), e, cA_s]
theorem y_r1 {M' : Mem} (h : CfM pl L tp ln 1 a op F W O M) (e : f_X12_begins (some 230) M = some ((), M')) : Rn 1 M M' := fun f => by
  rw [y_r97 h (by decide)]
  unfold f_X12_text_97
  rw [gI_t (ly_t230 h.1), h.2.2.2.2.1, if_neg (show ¬ nI 1 = (0 : Int32) by decide), if_pos (show nI 1 = (1 : Int32) from rfl), cR_t (ly_t230 h.1), e, cA_s]
theorem y_r2 {M' : Mem} (h : CfM pl L tp ln 2 a op F W O M) (e : f_X12_goesOn (some 230) M = some ((), M')) : Rn 1 M M' := fun f => by
  rw [y_r97 h (by decide)]
  unfold f_X12_text_97
  rw [gI_t (ly_t230 h.1), h.2.2.2.2.1, if_neg (show ¬ nI 2 = (0 : Int32) by decide), if_neg (show ¬ nI 2 = (1 : Int32) by decide), if_pos (show nI 2 = (2 : Int32) from rfl), cR_t (ly_t230 h.1), e, cA_s]
theorem y_r3 {M' : Mem} (h : CfM pl L tp ln 3 a op F W O M) (e : f_X12_asksOn (some 230) M = some ((), M')) : Rn 1 M M' := fun f => by
  rw [y_r97 h (by decide)]
  unfold f_X12_text_97
  rw [gI_t (ly_t230 h.1), h.2.2.2.2.1, if_neg (show ¬ nI 3 = (0 : Int32) by decide), if_neg (show ¬ nI 3 = (1 : Int32) by decide), if_neg (show ¬ nI 3 = (2 : Int32) by decide), if_pos (show nI 3 = (3 : Int32) from rfl), cR_t (ly_t230 h.1), e, cA_s]
/-- a sign or word that opens -/
theorem y_opens {k : Nat} (h : CfM pl L tp ln st a op F W O M) (hk : k < 10 ∧ k ≠ 5) (hF : F.length < 40) (ha : a ≤ ln) (ho : op < 8) : ∃ M', f_X12_opensSign (some 230) (nI k) M = some (1, M') ∧ Fx zA zF M M' ∧ CfM pl L tp ln st (tNx tp ln a) (op + 1) ((k, 0) :: F) W O M' := by
  have c1 := h.chP (op + 1)
  obtain ⟨M2, a1, a2, a3⟩ := y_push c1 hF hk
  obtain ⟨M3, b1, b2, b3⟩ := a3.nx ha
  have f1 : Fx zA zF M (sI M 230 25 (nI (op + 1))) := Fx.wI (Or.inr (by decide))
  refine ⟨M3, ?_, (f1.tr a2).tr b2, b3⟩
  unfold f_X12_opensSign
  rw [gI_t (ly_t230 h.1), h.2.2.2.2.2.1, if_neg (show ¬ nI op = (8 : Int32) from nIne (b := 8) (by omega) (by decide) (by omega)), gI_t (ly_t230 h.1), h.2.2.2.2.2.1, nI_1, pI_t (ly_t230 h.1), cR_t (ly_t230 c1.1), a1, cA_s, cR_t (ly_t230 a3.1), b1, cA_s, tv_1]
theorem y_opensN {k : Nat} (h : CfM pl L tp ln st a 8 F W O M) : ∃ M', f_X12_opensSign (some 230) (nI k) M = some (0, M') ∧ Fx zA zF M M' ∧ FlM pl L 3 (tSt tp ln a) tp ln M' := by
  obtain ⟨M1, a1, a2, a3⟩ := y_errs (k := 3) h (by decide)
  refine ⟨M1, ?_, a2, a3⟩
  unfold f_X12_opensSign
  rw [gI_t (ly_t230 h.1), h.2.2.2.2.2.1, if_pos (show nI 8 = (8 : Int32) from rfl), cR_t (ly_t230 h.1), show f_X12_errs (some 230) (3 : Int32) M = _ from a1, cA_s, tv_0]
/-- a sign or word that waits -/
theorem y_waits {t : Nat} (h : CfM pl L tp ln st a op F W O M) (ht : isOp t) (hW : W.length < 80) (hF : F.length ≤ 40) (hO : O.length + W.length ≤ 400) (ha : a ≤ ln) : ∃ M', f_X12_waitsFor (some 230) (nI (moC (10000 + t))) M = some ((), M') ∧ Fx zA zF M M' ∧ CfM pl L tp ln st (tNx tp ln a) op F ((t, F.length) :: (wkS (rk t) F.length W).1) (O ++ cod (wkS (rk t) F.length W).2) M' := by
  have hrk := rk_b (t := t)
  obtain ⟨M1, a1, a2, a3⟩ := y_works (r := rk t) hrk.2 h (by omega) hF hO
  have hle : (wkS (rk t) F.length W).1.length ≤ W.length := by
    clear h a1 a2 a3 hW hO
    induction W with
    | nil => simp [wkS]
    | cons w W ih =>
      rw [wkS]
      by_cases z : w.2 = F.length ∧ rk t ≤ rk w.1
      · rw [if_pos z]; simp; omega
      · rw [if_neg z]; simp
  generalize (wkS (rk t) F.length W).1 = W1 at a3 hle ⊢
  generalize O ++ cod (wkS (rk t) F.length W).2 = O1 at a3 ⊢
  have f1 : Fx [245, 246] [(230, 29)] M1 (sI M1 245 W1.length (nI (moC (10000 + t)))) := Fx.wI (Or.inl (by decide))
  have f2 : Fx [245, 246] [(230, 29)] M1 (sI (sI M1 245 W1.length (nI (moC (10000 + t)))) 246 W1.length (nI F.length)) := f1.I (Or.inl (by decide))
  have f3 : Fx [245, 246] [(230, 29)] M1 (sI (sI (sI M1 245 W1.length (nI (moC (10000 + t)))) 246 W1.length (nI F.length)) 230 29 (nI (W1.length + 1))) := f2.I (Or.inr (by decide))
  have hl1 := a3.1.fx f1 (by decide) (by decide)
  have hl2 := a3.1.fx f2 (by decide) (by decide)
  have c2 := a3.chW (W' := (t, F.length) :: W1) f3 (by rw [mI_e]; simp) ⟨by rw [mI_na (by decide), mI_na (by decide), mI_e], by rw [mI_na (by decide), mI_e], ht, hF, a3.2.2.2.2.2.2.2.1.2.cg (fun j hj => ⟨by rw [mI_na (by decide), mI_na (by decide), mI_nk (by omega)], by rw [mI_na (by decide), mI_nk (by omega), mI_na (by decide)]⟩)⟩
  obtain ⟨M3, b1, b2, b3⟩ := c2.nx ha
  refine ⟨M3, ?_, (a2.tr (f3.mono (by simp) (by simp))).tr b2, b3⟩
  have w0 := a3.2.2.2.2.2.2.2.1.1
  have h26 := a3.2.2.2.2.2.2.1.1
  unfold f_X12_waitsFor
  rw [y_rank ht, cA_s, cR_t (ly_t230 h.1), a1, cA_s, gR_t (ly_t230 a3.1), ly_r230_30 a3.1, gI_t (ly_t230 a3.1), w0, wI_t (ly_t245 a3.1) (by omega) (by decide), gR_t (ly_t230 hl1), ly_r230_31 hl1, gI_t (ly_t230 hl1), mI_na (by decide), w0, gI_t (ly_t230 hl1), mI_na (by decide), h26, wI_t (ly_t246 hl1) (by omega) (by decide), gI_t (ly_t230 hl2), mI_na (by decide), mI_na (by decide), w0, nI_1, pI_t (ly_t230 hl2), cR_t (ly_t230 c2.1), b1, cA_s]
end YSTEP
