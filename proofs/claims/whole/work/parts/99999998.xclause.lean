/-! ===== the class reads a clause: its pieces ===== -/
def Fq (P : Nat → Nat → Prop) (M M' : Mem) : Prop := mT M' = mT M ∧ mZ M' = mZ M ∧ mR M' = mR M ∧ ∀ b j, ¬ P b j → mI M' b j = mI M b j ∧ mL M' b j = mL M b j
section FQ
variable {P Q : Nat → Nat → Prop} {M M' M'' : Mem}
theorem Fq.rf : Fq P M M := ⟨rfl, rfl, rfl, fun _ _ _ => ⟨rfl, rfl⟩⟩
theorem Fq.tr (h : Fq P M M') (h' : Fq P M' M'') : Fq P M M'' := ⟨h'.1.trans h.1, h'.2.1.trans h.2.1, h'.2.2.1.trans h.2.2.1, fun b j hb => ⟨((h'.2.2.2 b j hb).1).trans (h.2.2.2 b j hb).1, ((h'.2.2.2 b j hb).2).trans (h.2.2.2 b j hb).2⟩⟩
theorem Fq.i (h : Fq P M M') {b j : Nat} (hb : ¬ P b j) : mI M' b j = mI M b j := (h.2.2.2 b j hb).1
theorem Fq.mono (h : Fq P M M') (hs : ∀ b j, P b j → Q b j) : Fq Q M M' := ⟨h.1, h.2.1, h.2.2.1, fun b j hb => h.2.2.2 b j (fun z => hb (hs b j z))⟩
theorem Fq.w {a k : Nat} {v : Int32} (hh : P a k) : Fq P M (sI M a k v) := ⟨rfl, rfl, rfl, fun b j hb => ⟨by
  rw [mI_s, if_neg]
  rintro ⟨rfl, rfl⟩
  exact hb hh, rfl⟩⟩
end FQ
/-- what reading a move's clause may write -/
def XO (r o b j : Nat) : Prop := XP r b j ∨ (b = o ∧ 2 ≤ j ∧ j ≤ 5)
section XCLAUSE
variable {pl L r : Nat} {tp : Nat → Nat} {ln : Nat} {M M' : Mem}
theorem XFr.xo {o : Nat} (h : XFr r M M') : Fq (XO r o) M M' := Fq.mono (P := XP r) h (fun _ _ z => Or.inl z)
theorem Lay.wo {o k : Nat} {v : Int32} (hl : Lay pl L M) (ho : 18 ≤ o) (hk : k ≠ 0) : Lay pl L (sI M o k v) := by
  obtain ⟨l1, l2, l3, l4, l5, l6, l7, l8, l9, l10, l11, l12, l13⟩ := hl
  exact ⟨l1, l2, l3, l4, l5, fun r' hr' i hi => by rw [mI_nk (Ne.symm hk)]; exact l6 r' hr' i hi, l7, l8, fun k => by rw [mI_na (by omega)]; exact l9 k, fun k => by rw [mI_na (by omega)]; exact l10 k, fun k => by rw [mI_na (by omega)]; exact l11 k, fun k => by rw [mI_na (by omega)]; exact l12 k, fun k => by rw [mI_na (by omega)]; exact l13 k⟩
theorem ClX.wo {a n k : Nat} {c : List Nat} {v : Int32} (hr : isRA r) (hn : n < 20) (h : ClX pl L r tp ln a c M) (hk : k ≠ 0) : ClX pl L r tp ln a c (sI M (r + 5 + n) k v) := by
  obtain ⟨c1, c2, c3, c4, c5, c6, c7⟩ := h
  have h43 := ra_43 hr
  have hb := ra_blk hr hr (i := 5 + n) (by omega)
  have n43 : 43 ≠ r + 5 + n := by omega
  have n44 : 44 ≠ r + 5 + n := by omega
  refine ⟨c1.wo (by omega) hk, ⟨c2.1, by rw [mI_na n43]; exact c2.2.1, fun i hi => ⟨(c2.2.2 i hi).1, by rw [mI_na n44]; exact (c2.2.2 i hi).2⟩⟩, c3, ⟨by rw [mI_na n43]; exact c4.1, by rw [mI_na n43]; exact c4.2⟩, ?_, by rw [mI_na (by omega)]; exact c6, fun j hj => by rw [mI_na (by omega)]; exact c7 j hj⟩
  unfold TkX at *
  rw [mI_na n43]
  exact c5
theorem FlX.wo {n k f p : Nat} {v : Int32} (hr : isRA r) (hn : n < 20) (h : FlX pl L r tp ln f p M) (hk : k ≠ 0) : FlX pl L r tp ln f p (sI M (r + 5 + n) k v) := by
  obtain ⟨c1, c2, c3, c4, c5, c6, m, m1', m2⟩ := h
  have h43 := ra_43 hr
  have hb := ra_blk hr hr (i := 5 + n) (by omega)
  have n43 : 43 ≠ r + 5 + n := by omega
  have n44 : 44 ≠ r + 5 + n := by omega
  exact ⟨c1.wo (by omega) hk, ⟨c2.1, by rw [mI_na n43]; exact c2.2.1, fun i hi => ⟨(c2.2.2 i hi).1, by rw [mI_na n44]; exact (c2.2.2 i hi).2⟩⟩, c3, c4, by rw [mI_na n43]; exact c5, by rw [mI_na n43]; exact c6, m, m1', by rw [mI_na (by omega)]; exact m2⟩
theorem x_num {hi a : Nat} {c : List Nat} (hr : isRA r) (hh : hi < 9999) (hC : ClX pl L r tp ln a c M) (hc : c.length ≤ 300) (ha : a ≤ ln) : match pNum tp ln hi a with
    | .inl e => ∃ v M', f_X5_number (some 43) (nI hi) M = some (v, M') ∧ XFr r M M' ∧ FlX pl L r tp ln e.1 (tSt tp ln e.2) M'
    | .inr q => ∃ M', f_X5_number (some 43) (nI hi) M = some (nI q.2, M') ∧ XFr r M M' ∧ ClX pl L r tp ln q.1 c M' := by
  have hl43 := ly_t43 hC.1
  have htk := tTk_le (tp := tp) (ln := ln) (a := a)
  obtain ⟨c1, c2, c3, c4, c5, c6, c7⟩ := id hC
  unfold pNum f_X5_number
  rw [gI_t hl43, c4.1, if_pos (show nI 0 = (0 : Int32) from rfl), gI_t hl43, gI_t hl43, c5.2.1]
  by_cases e20 : tTk tp ln a = 20
  · have hnl : tNm tp ln a ≤ 10000 := nmV_le _ _ 0 (by omega)
    rw [if_pos e20, if_pos (show nI (tTk tp ln a) = (20 : Int32) by rw [e20]; rfl), c5.2.2.2 e20]
    by_cases z : tNm tp ln a ≤ hi
    · obtain ⟨M1, b1, b2, b3⟩ := x_adv_c hr hC ha
      rw [if_pos z]
      refine ⟨M1, ?_, b2, b3⟩
      rw [if_pos (nI_le z (by omega)), cR_t hl43, b1, cA_s]
    · obtain ⟨M1, b1, b2, b3⟩ := x_fail_c (k := 2) hr hC hc (by decide)
      rw [if_neg z]
      refine ⟨_, M1, ?_, b2, b3⟩
      rw [if_neg (nI_ge (by omega) (by omega)), cR_t hl43, show f_X5_fail (some 43) (2 : Int32) M = _ from b1, cA_s]
  · obtain ⟨M1, b1, b2, b3⟩ := x_fail_c (k := 1) hr hC hc (by decide)
    rw [if_neg e20]
    refine ⟨_, M1, ?_, b2, b3⟩
    rw [if_neg (show ¬ nI (tTk tp ln a) = (20 : Int32) from nIne (b := 20) (by omega) (by decide) e20), cR_t hl43, show f_X5_fail (some 43) (1 : Int32) M = _ from b1, cA_s]
theorem x_num_f {f p : Nat} {v : Int32} (hF : FlX pl L r tp ln f p M) : f_X5_number (some 43) v M = some (0, M) := by
  unfold f_X5_number
  rw [gI_t (ly_t43 hF.1), if_neg hF.nz]
/-- a fault stays a fault -/
def FxR (pl L r : Nat) (tp : Nat → Nat) (ln f p o : Nat) (M : Mem) (x : Option (Unit × Mem)) : Prop := ∃ M', x = some ((), M') ∧ Fq (XO r o) M M' ∧ FlX pl L r tp ln f p M'
theorem x_a41_f {f p n : Nat} (hr : isRA r) (hn : n < 20) (hF : FlX pl L r tp ln f p M) : FxR pl L r tp ln f p (r + 5 + n) M (f_X5_act_41 (some 43) (some (r + 5 + n)) M) := by
  have h1 : FlX pl L r tp ln f p (sI M (r + 5 + n) 4 (0 : Int32)) := hF.wo hr hn (by decide)
  have h2 : FlX pl L r tp ln f p (sI (sI M (r + 5 + n) 4 (0 : Int32)) (r + 5 + n) 5 (0 : Int32)) := h1.wo hr hn (by decide)
  obtain ⟨-, -, -, -, -, t6⟩ := ly_ra hF.1 hr
  obtain ⟨-, -, -, -, -, t6'⟩ := ly_ra h1.1 hr
  refine ⟨_, ?_, (Fq.w (Or.inr ⟨rfl, by decide, by decide⟩)).tr (Fq.w (Or.inr ⟨rfl, by decide, by decide⟩)), h2⟩
  unfold f_X5_act_41
  rw [gI_t (t6 n hn), cR_t (ly_t43 hF.1), x_expect_f hF, cA_s, cR_t (ly_t43 hF.1), x_num_f hF, cA_s, pI_t (t6 n hn), cR_t (ly_t43 h1.1), x_expect_f h1, cA_s, cR_t (ly_t43 h1.1), x_num_f h1, cA_s, pI_t (t6' n hn)]
end XCLAUSE
