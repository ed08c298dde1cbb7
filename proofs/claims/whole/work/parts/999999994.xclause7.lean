/-! ===== the class reads a clause: all of it ===== -/
section XCLAUSE7
variable {pl L r : Nat} {tp : Nat → Nat} {ln : Nat} {M M' : Mem}
def XcR (pl L r : Nat) (tp : Nat → Nat) (ln : Nat) (T : Txt) (c : List Nat) (M : Mem) (x : Option (Unit × Mem)) (res : (Nat × Nat) ⊕ (Nat × Cl)) : Prop := match res with
  | .inl e => ∃ M', x = some ((), M') ∧ Fg r M M' ∧ FlX pl L r tp ln e.1 (tSt tp ln e.2) M'
  | .inr q => ∃ M', x = some ((), M') ∧ Fg r M M' ∧ TxX pl L r tp ln (T ++ [q.2]) q.1 (c ++ cCd q.2) M'
theorem xo_i {n i k : Nat} (hr : isRA r) (hi : i < n) (hn : n < 20) : ¬ XO r (r + 5 + n) (r + 5 + i) k := by
  have h43 := ra_43 hr
  have hb' := ra_blk hr hr (i := 5 + i) (by omega)
  unfold XO XP
  omega
theorem xo_4 {n : Nat} (hr : isRA r) : ¬ XO r (r + 5 + n) r 4 := by
  have h43 := ra_43 hr
  unfold XO XP
  omega
theorem XO.iq {n b j : Nat} (hn : n < 20) (h : XO r (r + 5 + n) b j) : IQ r b j := by
  unfold XO XP at h
  unfold IQ
  omega
theorem x_c28 {T : Txt} {a : Nat} {c : List Nat} (hr : isRA r) (h : TxX pl L r tp ln T a c M) (hT : T.length ≤ 20) (hc : c.length ≤ a) (ha : a ≤ ln) (e : tTk tp ln a = 0 ∨ (12 ≤ tTk tp ln a ∧ tTk tp ln a ≤ 16)) : XcR pl L r tp ln T c M (f_X5_clause_28 (some 43) (nI (tTk tp ln a)) M) (pCl tp ln T a) := by
  have htk := tTk_le (tp := tp) (ln := ln) (a := a)
  have hC := h.1
  have h300 := hC.2.1.1
  have hx := tNx_b (tp := tp) ha
  have hlt := hx.2.2 (by omega)
  obtain ⟨t1, -, -, -, -, t6⟩ := ly_ra hC.1 hr
  unfold pCl f_X5_clause_28
  rw [if_pos e, gR_t (ly_t43 hC.1), hC.2.2.1, cR_t t1, x_singleOf hr h htk, cA_s]
  by_cases e4 : 12 ≤ tTk tp ln a ∧ tTk tp ln a ≤ 15 ∧ (fTd (tTk tp ln a) T 0).isSome = true
  · rw [if_pos e4, if_pos (show 12 ≤ tTk tp ln a ∧ tTk tp ln a ≤ 15 from ⟨e4.1, e4.2.1⟩)]
    obtain ⟨M1, b1, b2, b3⟩ := x_fail_c (k := 4) hr hC (by omega) (by decide)
    refine ⟨M1, ?_, b2.fg, b3⟩
    obtain ⟨k, hk⟩ := Option.isSome_iff_exists.mp e4.2.2
    rw [hk, if_neg (show ¬ adr r (some k) = none from fun z => by cases z), cR_t (ly_t43 hC.1), show f_X5_fail (some 43) (4 : Int32) M = _ from b1, cA_s]
  have hnt : 12 ≤ tTk tp ln a → tTk tp ln a ≤ 15 → (fTd (tTk tp ln a) T 0).isSome = false := fun z1 z2 => by
    cases hs : (fTd (tTk tp ln a) T 0).isSome with
    | false => rfl
    | true => exact absurd ⟨z1, z2, hs⟩ e4
  have hv : (if 12 ≤ tTk tp ln a ∧ tTk tp ln a ≤ 15 then adr r (fTd (tTk tp ln a) T 0) else none) = none := by
    by_cases z : 12 ≤ tTk tp ln a ∧ tTk tp ln a ≤ 15
    · rw [if_pos z]
      have := hnt z.1 z.2
      cases hf : fTd (tTk tp ln a) T 0 with
      | none => rfl
      | some k => rw [hf] at this; cases this
    · rw [if_neg z]
  rw [if_neg e4, hv, if_pos rfl, gR_t (ly_t43 hC.1), hC.2.2.1, cR_t t1]
  by_cases e5 : T.length = 20
  · rw [if_pos e5, x_addN hr h e5, cA_s, if_pos rfl, cR_t (ly_t43 hC.1)]
    obtain ⟨M1, b1, b2, b3⟩ := x_fail_c (k := 5) hr hC (by omega) (by decide)
    exact ⟨M1, by rw [show f_X5_fail (some 43) (5 : Int32) M = _ from b1, cA_s], b2.fg, b3⟩
  rw [if_neg e5]
  have hn : T.length < 20 := by omega
  obtain ⟨M2, a1, a2, a3, a4, a5, a6, a7, a8, a9⟩ := x_add (t := tTk tp ln a) hr h htk hn
  obtain ⟨M4, b1, b2, b3⟩ := x_adv_c hr a3 ha
  rw [a1, cA_s, if_neg (show ¬ some (r + 5 + T.length) = none from fun z => by cases z), cR_t (ly_t43 a3.1), b1, cA_s]
  have k2 := b2.ko (n := T.length) hr
  -- from what was added to the new text
  have fin : ∀ (M5 M' : Mem) (q : Nat × Cl), Fq (XO r (r + 5 + T.length)) M4 M5 → KO r T.length M5 M' → ClX pl L r tp ln q.1 (c ++ cCd q.2) M' → mI M' (r + 5 + T.length) 7 = nI (c ++ cCd q.2).length → cTy q.2 = tTk tp ln a → (cTy q.2 = 0 → mI M5 (r + 5 + T.length) 2 = nI (cMv q.2) ∧ mI M5 (r + 5 + T.length) 3 = nI (cAc q.2) ∧ mI M5 (r + 5 + T.length) 4 = nI (cKd q.2) ∧ mI M5 (r + 5 + T.length) 5 = nI (cDr q.2)) → TxX pl L r tp ln (T ++ [q.2]) q.1 (c ++ cCd q.2) M' := by
    intro M5 M' q x1 x2 x3 x4 x5 x6
    refine h.snoc x3 ?_ (fun i k hi => ?_) ?_ (fun z => ?_) ?_ x4 (fun m => ?_) (fun y hy => ?_) (fun z1 z2 => ?_)
    · rw [x2.2.1, x1.i (xo_4 hr), k2.2.1, a4]
    · rw [x2.1 i k (by omega) (Or.inl (by omega)), x1.i (xo_i hr hi hn), k2.1 i k (by omega) (Or.inl (by omega)), a7 i k hi]
    · rw [x2.1 _ 1 hn (Or.inr (by decide)), x1.i (xo_n hr hn (Or.inl (by decide)) rfl), k2.1 _ 1 hn (Or.inr (by decide)), a5, x5]
    · rw [x2.1 _ 2 hn (Or.inr (by decide)), x2.1 _ 3 hn (Or.inr (by decide)), x2.1 _ 4 hn (Or.inr (by decide)), x2.1 _ 5 hn (Or.inr (by decide))]
      exact x6 z
    · rw [x2.1 _ 6 hn (Or.inr (by decide)), x1.i (xo_n hr hn (Or.inr (by decide)) rfl), k2.1 _ 6 hn (Or.inr (by decide)), a6]
    · rw [x2.2.2, x1.2.2.1, k2.2.2, a8]
    · rw [x2.2.2, x1.2.2.1, k2.2.2, a9 y hy, x5]
    · rw [x5] at z1 z2 ⊢; exact hnt z1 z2
  have fr4 : Fg r M M4 := a2.tr b2.fg
  by_cases e0 : tTk tp ln a = 0
  · rw [if_pos e0, if_pos (show nI (tTk tp ln a) = (0 : Int32) by rw [e0]; rfl), cR_t (ly_t43 b3.1)]
    have hact := x_act (n := T.length) hr hn b3 (by omega) hx.1
    cases hp : pAct tp ln (tNx tp ln a) with
    | inl q =>
      rw [hp] at hact
      obtain ⟨M5, d1, d2, d3⟩ := hact
      obtain ⟨M6, f1, f2, f3⟩ := x_c96_f (v := nI (tTk tp ln a)) hr hn d3
      exact ⟨M6, by rw [d1, cA_s, f1], (fr4.tr (d2.fg (fun _ _ z => z.iq hn))).tr f2, f3⟩
    | inr x =>
      rw [hp] at hact
      obtain ⟨g1, g2, -⟩ := pAct_ok hx.1 hp
      obtain ⟨M5, d1, d2, d3, d4, d5, d6, d7⟩ := hact
      have hbo := x_c96_0 (mv := x.2.1) (ac := x.2.2.1) (kd := x.2.2.2.1) (dr := x.2.2.2.2) hr hn d3 (by omega) g2
      rw [d1, cA_s, e0]
      show XcR pl L r tp ln T c M _ (if tTk tp ln x.1 = 11 then pBod tp ln 0 0 x.2.1 x.2.2.1 x.2.2.2.1 x.2.2.2.2 (tNx tp ln x.1) else pFin tp ln 0 x.2.1 x.2.2.1 x.2.2.2.1 x.2.2.2.2 x.1 [])
      have fr5 : Fg r M M5 := fr4.tr (d2.fg (fun _ _ z => z.iq hn))
      have hcl : ∀ q, (if tTk tp ln x.1 = 11 then pBod tp ln 0 0 x.2.1 x.2.2.1 x.2.2.2.1 x.2.2.2.2 (tNx tp ln x.1) else pFin tp ln 0 x.2.1 x.2.2.1 x.2.2.2.1 x.2.2.2.2 x.1 []) = .inr q → cTy q.2 = 0 ∧ cMv q.2 = x.2.1 ∧ cAc q.2 = x.2.2.1 ∧ cKd q.2 = x.2.2.2.1 ∧ cDr q.2 = x.2.2.2.2 := fun q hq => by
        by_cases z : tTk tp ln x.1 = 11
        · rw [if_pos z] at hq
          obtain ⟨_, _, -, -, rfl, -⟩ := pBod_ok (by decide) (tNx_b g2).1 hq
          exact ⟨rfl, rfl, rfl, rfl, rfl⟩
        · rw [if_neg z] at hq
          obtain ⟨-, rfl, -⟩ := pFin_ok g2 hq
          exact ⟨rfl, rfl, rfl, rfl, rfl⟩
      cases hres : (if tTk tp ln x.1 = 11 then pBod tp ln 0 0 x.2.1 x.2.2.1 x.2.2.2.1 x.2.2.2.2 (tNx tp ln x.1) else pFin tp ln 0 x.2.1 x.2.2.1 x.2.2.2.1 x.2.2.2.2 x.1 []) with
      | inl q =>
        rw [hres] at hbo
        obtain ⟨M6, f1, f2, f3⟩ := hbo
        exact ⟨M6, f1, fr5.tr f2, f3⟩
      | inr q =>
        rw [hres] at hbo
        obtain ⟨M6, f1, f2, f3, f4, f5⟩ := hbo
        obtain ⟨y1, y2, y3, y4, y5⟩ := hcl q hres
        exact ⟨M6, f1, fr5.tr f2, fin M5 M6 q d2 f5 f3 f4 (by rw [y1, e0]) (fun _ => ⟨by rw [y2]; exact d4, by rw [y3]; exact d5, by rw [y4]; exact d6, by rw [y5]; exact d7⟩)⟩
  · have z0 : ¬ nI (tTk tp ln a) = (0 : Int32) := ne_0 (by omega) e0
    rw [if_neg e0, if_neg z0]
    have c96 : ∀ M6, f_X5_clause_96 (some 43) (nI (tTk tp ln a)) (some (r + 5 + T.length)) M6 = x_tl (r + 5 + T.length) M6 := fun M6 => by
      unfold f_X5_clause_96
      rw [if_neg z0]
      rfl
    have go : ∀ l, l ≤ 5 → XcR pl L r tp ln T c M (cA (f_X5_level (some 43) (nI l) (0 : Int32) M4) fun _ M6 => f_X5_clause_96 (some 43) (nI (tTk tp ln a)) (some (r + 5 + T.length)) M6) (pBod tp ln l (tTk tp ln a) 0 0 0 0 (tNx tp ln a)) := fun l hl => by
      have hbo := x_body (n := T.length) (t := tTk tp ln a) (mv := 0) (ac := 0) (kd := 0) (dr := 0) hr hn hl b3 (by omega) hx.1
      rw [show (fun (_ : Unit) M6 => f_X5_clause_96 (some 43) (nI (tTk tp ln a)) (some (r + 5 + T.length)) M6) = (fun (_ : Unit) M6 => x_tl (r + 5 + T.length) M6) from funext (fun _ => funext c96)]
      cases hres : pBod tp ln l (tTk tp ln a) 0 0 0 0 (tNx tp ln a) with
      | inl q =>
        rw [hres] at hbo
        obtain ⟨M6, f1, f2, f3⟩ := hbo
        exact ⟨M6, f1, fr4.tr f2, f3⟩
      | inr q =>
        rw [hres] at hbo
        obtain ⟨M6, f1, f2, f3, f4, f5⟩ := hbo
        have hty : cTy q.2 = tTk tp ln a := by
          obtain ⟨_, _, -, -, rfl, -⟩ := pBod_ok hl hx.1 hres
          rfl
        exact ⟨M6, f1, fr4.tr f2, fin M4 M6 q Fq.rf f5 f3 f4 hty (fun z => absurd (hty.symm.trans z) e0)⟩
    by_cases e16 : tTk tp ln a = 16
    · have g := go 0 (by decide)
      rw [if_pos e16, if_pos (show nI (tTk tp ln a) = (16 : Int32) by rw [e16]; rfl), cR_t (ly_t43 b3.1)]
      exact g
    · have g := go 3 (by decide)
      rw [if_neg e16, if_neg (show ¬ nI (tTk tp ln a) = (16 : Int32) from nIne (b := 16) (by omega) (by decide) e16), cR_t (ly_t43 b3.1)]
      exact g
end XCLAUSE7
