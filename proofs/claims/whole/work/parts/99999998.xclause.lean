/-! ===== the class reads a clause: its pieces ===== -/
def Fq (P : Nat → Nat → Prop) (M M' : Mem) : Prop := mT M' = mT M ∧ mZ M' = mZ M ∧ mR M' = mR M ∧ ∀ b j, ¬ P b j → mI M' b j = mI M b j ∧ mL M' b j = mL M b j
section FQ
variable {P Q : Nat → Nat → Prop} {M M' M'' : Mem}
theorem Fq.rf : Fq P M M := ⟨rfl, rfl, rfl, fun _ _ _ => ⟨rfl, rfl⟩⟩
theorem Fq.tr (h : Fq P M M') (h' : Fq P M' M'') : Fq P M M'' := ⟨h'.1.trans h.1, h'.2.1.trans h.2.1, h'.2.2.1.trans h.2.2.1, fun b j hb => ⟨((h'.2.2.2 b j hb).1).trans (h.2.2.2 b j hb).1, ((h'.2.2.2 b j hb).2).trans (h.2.2.2 b j hb).2⟩⟩
theorem Fq.i (h : Fq P M M') {b j : Nat} (hb : ¬ P b j) : mI M' b j = mI M b j := (h.2.2.2 b j hb).1
theorem Fq.mono (h : Fq P M M') (hs : ∀ b j, P b j → Q b j) : Fq Q M M' := ⟨h.1, h.2.1, h.2.2.1, fun b j hb => h.2.2.2 b j (fun z => hb (hs b j z))⟩
theorem Fq.w {a k : Nat} {v : Int32} (hh : P a k) : Fq P M (sI M a k v) := ⟨rfl, rfl, rfl, fun b j hb => ⟨by
  rw [mI_s, if_neg]
  rintro ⟨rfl, rfl⟩
  exact hb hh, rfl⟩⟩
end FQ
/-- what reading a move's clause may write -/
def XO (r o b j : Nat) : Prop := XP r b j ∨ (b = o ∧ 2 ≤ j ∧ j ≤ 5)
section XCLAUSE
variable {pl L r : Nat} {tp : Nat → Nat} {ln : Nat} {M M' : Mem}
theorem XFr.xo {o : Nat} (h : XFr r M M') : Fq (XO r o) M M' := Fq.mono (P := XP r) h (fun _ _ z => Or.inl z)
theorem Lay.wo {o k : Nat} {v : Int32} (hl : Lay pl L M) (ho : 18 ≤ o) (hk : k ≠ 0) : Lay pl L (sI M o k v) := by
  obtain ⟨l1, l2, l3, l4, l5, l6, l7, l8, l9, l10, l11, l12, l13⟩ := hl
  exact ⟨l1, l2, l3, l4, l5, fun r' hr' i hi => by rw [mI_nk (Ne.symm hk)]; exact l6 r' hr' i hi, l7, l8, fun k => by rw [mI_na (by omega)]; exact l9 k, fun k => by rw [mI_na (by omega)]; exact l10 k, fun k => by rw [mI_na (by omega)]; exact l11 k, fun k => by rw [mI_na (by omega)]; exact l12 k, fun k => by rw [mI_na (by omega)]; exact l13 k⟩
theorem ClX.wo {a n k : Nat} {c : List Nat} {v : Int32} (hr : isRA r) (hn : n < 20) (h : ClX pl L r tp ln a c M) (hk : k ≠ 0) : ClX pl L r tp ln a c (sI M (r + 5 + n) k v) := by
  obtain ⟨c1, c2, c3, c4, c5, c6, c7⟩ := h
  have h43 := ra_43 hr
  have hb := ra_blk hr hr (i := 5 + n) (by omega)
  have n43 : 43 ≠ r + 5 + n := by omega
  have n44 : 44 ≠ r + 5 + n := by omega
  refine ⟨c1.wo (by omega) hk, ⟨c2.1, by rw [mI_na n43]; exact c2.2.1, fun i hi => ⟨(c2.2.2 i hi).1, by rw [mI_na n44]; exact (c2.2.2 i hi).2⟩⟩, c3, ⟨by rw [mI_na n43]; exact c4.1, by rw [mI_na n43]; exact c4.2⟩, ?_, by rw [mI_na (by omega)]; exact c6, fun j hj => by rw [mI_na (by omega)]; exact c7 j hj⟩
  unfold TkX at *
  rw [mI_na n43]
  exact c5
theorem FlX.wo {n k f p : Nat} {v : Int32} (hr : isRA r) (hn : n < 20) (h : FlX pl L r tp ln f p M) (hk : k ≠ 0) : FlX pl L r tp ln f p (sI M (r + 5 + n) k v) := by
  obtain ⟨c1, c2, c3, c4, c5, c6, m, m1', m2⟩ := h
  have h43 := ra_43 hr
  have hb := ra_blk hr hr (i := 5 + n) (by omega)
  have n43 : 43 ≠ r + 5 + n := by omega
  have n44 : 44 ≠ r + 5 + n := by omega
  exact ⟨c1.wo (by omega) hk, ⟨c2.1, by rw [mI_na n43]; exact c2.2.1, fun i hi => ⟨(c2.2.2 i hi).1, by rw [mI_na n44]; exact (c2.2.2 i hi).2⟩⟩, c3, c4, by rw [mI_na n43]; exact c5, by rw [mI_na n43]; exact c6, m, m1', by rw [mI_na (by omega)]; exact m2⟩
theorem x_num {hi a : Nat} {c : List Nat} (hr : isRA r) (hh : hi < 9999) (hC : ClX pl L r tp ln a c M) (hc : c.length ≤ 300) (ha : a ≤ ln) : match pNum tp ln hi a with
    | .inl e => ∃ v M', f_X5_number (some 43) (nI hi) M = some (v, M') ∧ XFr r M M' ∧ FlX pl L r tp ln e.1 (tSt tp ln e.2) M'
    | .inr q => ∃ M', f_X5_number (some 43) (nI hi) M = some (nI q.2, M') ∧ XFr r M M' ∧ ClX pl L r tp ln q.1 c M' := by
  have hl43 := ly_t43 hC.1
  have htk := tTk_le (tp := tp) (ln := ln) (a := a)
  obtain ⟨c1, c2, c3, c4, c5, c6, c7⟩ := id hC
  unfold pNum f_X5_number
  rw [gI_t hl43, c4.1, if_pos (show nI 0 = (0 : Int32) from rfl), gI_t hl43, gI_t hl43, c5.2.1]
  by_cases e20 : tTk tp ln a = 20
  · have hnl : tNm tp ln a ≤ 10000 := nmV_le _ _ 0 (by omega)
    rw [if_pos e20, if_pos (show nI (tTk tp ln a) = (20 : Int32) by rw [e20]; rfl), c5.2.2.2 e20]
    by_cases z : tNm tp ln a ≤ hi
    · obtain ⟨M1, b1, b2, b3⟩ := x_adv_c hr hC ha
      rw [if_pos z]
      refine ⟨M1, ?_, b2, b3⟩
      rw [if_pos (nI_le z (by omega)), cR_t hl43, b1, cA_s]
    · obtain ⟨M1, b1, b2, b3⟩ := x_fail_c (k := 2) hr hC hc (by decide)
      rw [if_neg z]
      refine ⟨nI (tNm tp ln a), M1, ?_, b2, b3⟩
      rw [if_neg (nI_ge (by omega) (by omega)), cR_t hl43, show f_X5_fail (some 43) (2 : Int32) M = _ from b1, cA_s]
  · obtain ⟨M1, b1, b2, b3⟩ := x_fail_c (k := 1) hr hC hc (by decide)
    rw [if_neg e20]
    refine ⟨mI M 43 8, M1, ?_, b2, b3⟩
    rw [if_neg (show ¬ nI (tTk tp ln a) = (20 : Int32) from nIne (b := 20) (by omega) (by decide) e20), cR_t hl43, show f_X5_fail (some 43) (1 : Int32) M = _ from b1, cA_s]
theorem x_num_f {f p : Nat} {v : Int32} (hF : FlX pl L r tp ln f p M) : f_X5_number (some 43) v M = some (0, M) := by
  unfold f_X5_number
  rw [gI_t (ly_t43 hF.1), if_neg hF.nz]
/-- a fault stays a fault -/
def FxR (pl L r : Nat) (tp : Nat → Nat) (ln f p o : Nat) (M : Mem) (x : Option (Unit × Mem)) : Prop := ∃ M', x = some ((), M') ∧ Fq (XO r o) M M' ∧ FlX pl L r tp ln f p M'
theorem x_a41_f {f p n : Nat} (hr : isRA r) (hn : n < 20) (hF : FlX pl L r tp ln f p M) : FxR pl L r tp ln f p (r + 5 + n) M (f_X5_act_41 (some 43) (some (r + 5 + n)) M) := by
  have h1 : FlX pl L r tp ln f p (sI M (r + 5 + n) 4 (0 : Int32)) := hF.wo hr hn (by decide)
  have h2 : FlX pl L r tp ln f p (sI (sI M (r + 5 + n) 4 (0 : Int32)) (r + 5 + n) 5 (0 : Int32)) := h1.wo hr hn (by decide)
  obtain ⟨-, -, -, -, -, t6⟩ := ly_ra hF.1 hr
  obtain ⟨-, -, -, -, -, t6'⟩ := ly_ra h1.1 hr
  refine ⟨_, ?_, (Fq.w (Or.inr ⟨rfl, by decide, by decide⟩)).tr (Fq.w (Or.inr ⟨rfl, by decide, by decide⟩)), h2⟩
  unfold f_X5_act_41
  rw [gI_t (t6 n hn), cR_t (ly_t43 hF.1), x_expect_f hF, cA_s, cR_t (ly_t43 hF.1), x_num_f hF, cA_s, pI_t (t6 n hn), cR_t (ly_t43 h1.1), x_expect_f h1, cA_s, cR_t (ly_t43 h1.1), x_num_f h1, cA_s, pI_t (t6' n hn)]
theorem FxR.pre {f p o : Nat} {M1 : Mem} {x x' : Option (Unit × Mem)} (h : FxR pl L r tp ln f p o M1 x) (fr : Fq (XO r o) M M1) (e : x' = x) : FxR pl L r tp ln f p o M x' := by
  subst e
  obtain ⟨M', a, b, c⟩ := h
  exact ⟨M', a, fr.tr b, c⟩
def AcX (pl L r : Nat) (tp : Nat → Nat) (ln o : Nat) (c : List Nat) (M : Mem) (x : Option (Unit × Mem)) (res : (Nat × Nat) ⊕ (Nat × Nat × Nat × Nat × Nat)) : Prop := match res with
  | .inl e => FxR pl L r tp ln e.1 (tSt tp ln e.2) o M x
  | .inr q => ∃ M', x = some ((), M') ∧ Fq (XO r o) M M' ∧ ClX pl L r tp ln q.1 c M' ∧ mI M' o 2 = nI q.2.1 ∧ mI M' o 3 = nI q.2.2.1 ∧ mI M' o 4 = nI q.2.2.2.1 ∧ mI M' o 5 = nI q.2.2.2.2
theorem xo_n {n k b : Nat} (hr : isRA r) (hn : n < 20) (hk : k < 2 ∨ 5 < k) (hb : b = r + 5 + n) : ¬ XO r (r + 5 + n) b k := by
  have h43 := ra_43 hr
  have hb' := ra_blk hr hr (i := 5 + n) (by omega)
  unfold XO XP
  omega
theorem xfr_o {n k : Nat} (hr : isRA r) (hn : n < 20) (h : XFr r M M') : mI M' (r + 5 + n) k = mI M (r + 5 + n) k := h.i (by
  have h43 := ra_43 hr
  have hb' := ra_blk hr hr (i := 5 + n) (by omega)
  unfold XP
  omega)
theorem x_a41 {a n mv : Nat} {c : List Nat} (hr : isRA r) (hn : n < 20) (hC : ClX pl L r tp ln a c M) (hc : c.length ≤ 300) (ha : a ≤ ln) (h2 : mI M (r + 5 + n) 2 = nI mv) (h3 : mI M (r + 5 + n) 3 = nI (tTk tp ln a)) : AcX pl L r tp ln (r + 5 + n) c M (f_X5_act_41 (some 43) (some (r + 5 + n)) M) (bnG (pNum tp ln 3 (tNx tp ln a)) (fun k => bnG (pWd tp ln 33 33 k.1) (fun s => bnG (pNum tp ln 3 s.1) (fun z => .inr (z.1, mv, tTk tp ln a, k.2, z.2))))) := by
  obtain ⟨-, -, -, -, -, t6⟩ := ly_ra hC.1 hr
  have hx := tNx_b (tp := tp) ha
  obtain ⟨M1, b1, b2, b3⟩ := x_expect_y hr hC ha
  have hnum := x_num (hi := 3) hr (by decide) b3 hc hx.1
  have e43 := ly_t43 hC.1
  cases hp : pNum tp ln 3 (tNx tp ln a) with
  | inl e =>
    rw [hp] at hnum
    obtain ⟨v, M2, d1, d2, d3⟩ := hnum
    obtain ⟨-, -, -, -, -, u6⟩ := ly_ra d3.1 hr
    have h4 : FlX pl L r tp ln e.1 (tSt tp ln e.2) (sI M2 (r + 5 + n) 4 v) := d3.wo hr hn (by decide)
    obtain ⟨-, -, -, -, -, w6⟩ := ly_ra h4.1 hr
    have h5 : FlX pl L r tp ln e.1 (tSt tp ln e.2) (sI (sI M2 (r + 5 + n) 4 v) (r + 5 + n) 5 (0 : Int32)) := h4.wo hr hn (by decide)
    refine ⟨_, ?_, ((b2.xo.tr d2.xo).tr (Fq.w (Or.inr ⟨rfl, by decide, by decide⟩))).tr (Fq.w (Or.inr ⟨rfl, by decide, by decide⟩)), h5⟩
    unfold f_X5_act_41
    rw [gI_t (t6 n hn), h3, cR_t e43, b1, cA_s, cR_t (ly_t43 b3.1), show f_X5_number (some 43) (3 : Int32) M1 = _ from d1, cA_s, pI_t (u6 n hn), cR_t (ly_t43 h4.1), x_expect_f h4, cA_s, cR_t (ly_t43 h4.1), x_num_f h4, cA_s, pI_t (w6 n hn)]
  | inr k =>
    rw [hp] at hnum
    obtain ⟨M2, d1, d2, d3⟩ := hnum
    have hk1 : k.1 ≤ ln := by obtain ⟨-, rfl, -, -, zl⟩ := pNum_ok hx.1 hp; exact zl
    obtain ⟨-, -, -, -, -, u6⟩ := ly_ra d3.1 hr
    have h4 : ClX pl L r tp ln k.1 c (sI M2 (r + 5 + n) 4 (nI k.2)) := d3.wo hr hn (by decide)
    obtain ⟨-, -, -, -, -, w6⟩ := ly_ra h4.1 hr
    have fr4 : Fq (XO r (r + 5 + n)) M (sI M2 (r + 5 + n) 4 (nI k.2)) := (b2.xo.tr d2.xo).tr (Fq.w (Or.inr ⟨rfl, by decide, by decide⟩))
    show AcX pl L r tp ln (r + 5 + n) c M _ (bnG (pWd tp ln 33 33 k.1) _)
    by_cases e33 : tTk tp ln k.1 = 33
    · obtain ⟨M4, f1, f2, f3⟩ := x_expect_y hr h4 hk1
      rw [e33] at f1
      have hxk := tNx_b (tp := tp) hk1
      rw [show pWd tp ln 33 33 k.1 = .inr (tNx tp ln k.1, tTk tp ln k.1) from if_pos (by omega)]
      show AcX pl L r tp ln (r + 5 + n) c M _ (bnG (pNum tp ln 3 (tNx tp ln k.1)) _)
      have hnum2 := x_num (hi := 3) hr (by decide) f3 hc hxk.1
      have start : ∀ v M5, f_X5_number (some 43) (nI 3) M4 = some (v, M5) → mT M5 (r + 5 + n) = (1, 1) → f_X5_act_41 (some 43) (some (r + 5 + n)) M = some ((), sI M5 (r + 5 + n) 5 v) := fun v M5 q1 q2 => by
        unfold f_X5_act_41
        rw [gI_t (t6 n hn), h3, cR_t e43, b1, cA_s, cR_t (ly_t43 b3.1), show f_X5_number (some 43) (3 : Int32) M1 = _ from d1, cA_s, pI_t (u6 n hn), cR_t (ly_t43 h4.1), show f_X5_expect (some 43) (33 : Int32) _ = _ from f1, cA_s, cR_t (ly_t43 f3.1), show f_X5_number (some 43) (3 : Int32) M4 = _ from q1, cA_s, pI_t q2]
      cases hp2 : pNum tp ln 3 (tNx tp ln k.1) with
      | inl e =>
        rw [hp2] at hnum2
        obtain ⟨v, M5, g1, g2, g3⟩ := hnum2
        obtain ⟨-, -, -, -, -, y6⟩ := ly_ra g3.1 hr
        exact ⟨_, start v M5 g1 (y6 n hn), ((fr4.tr f2.xo).tr g2.xo).tr (Fq.w (Or.inr ⟨rfl, by decide, by decide⟩)), g3.wo hr hn (by decide)⟩
      | inr z =>
        rw [hp2] at hnum2
        obtain ⟨M5, g1, g2, g3⟩ := hnum2
        obtain ⟨-, -, -, -, -, y6⟩ := ly_ra g3.1 hr
        refine ⟨_, start _ M5 g1 (y6 n hn), ((fr4.tr f2.xo).tr g2.xo).tr (Fq.w (Or.inr ⟨rfl, by decide, by decide⟩)), g3.wo hr hn (by decide), ?_, ?_, ?_, mI_e⟩
        · rw [mI_nk (by decide), xfr_o hr hn g2, xfr_o hr hn f2, mI_nk (by decide), xfr_o hr hn d2, xfr_o hr hn b2, h2]
        · rw [mI_nk (by decide), xfr_o hr hn g2, xfr_o hr hn f2, mI_nk (by decide), xfr_o hr hn d2, xfr_o hr hn b2, h3]
        · rw [mI_nk (by decide), xfr_o hr hn g2, xfr_o hr hn f2, mI_e]
    · obtain ⟨M4, f1, f2, f3⟩ := x_expect_n (t := 33) hr h4 hc (by decide) e33
      rw [show pWd tp ln 33 33 k.1 = .inl (1, k.1) from if_neg (by omega)]
      obtain ⟨-, -, -, -, -, y6⟩ := ly_ra f3.1 hr
      refine ⟨sI M4 (r + 5 + n) 5 (0 : Int32), ?_, (fr4.tr f2.xo).tr (Fq.w (Or.inr ⟨rfl, by decide, by decide⟩)), f3.wo hr hn (by decide)⟩
      unfold f_X5_act_41
      rw [gI_t (t6 n hn), h3, cR_t e43, b1, cA_s, cR_t (ly_t43 b3.1), show f_X5_number (some 43) (3 : Int32) M1 = _ from d1, cA_s, pI_t (u6 n hn), cR_t (ly_t43 h4.1), show f_X5_expect (some 43) (33 : Int32) _ = _ from f1, cA_s, cR_t (ly_t43 f3.1), x_num_f f3, cA_s, pI_t (y6 n hn)]
end XCLAUSE
