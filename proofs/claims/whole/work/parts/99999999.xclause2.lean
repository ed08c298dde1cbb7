/-! ===== the class reads a clause ===== -/
section XCLAUSE2
variable {pl L r : Nat} {tp : Nat → Nat} {ln : Nat} {M M' : Mem}
theorem x_act {a n : Nat} {c : List Nat} (hr : isRA r) (hn : n < 20) (hC : ClX pl L r tp ln a c M) (hc : c.length ≤ 300) (ha : a ≤ ln) : AcX pl L r tp ln (r + 5 + n) c M (f_X5_act (some 43) (some (r + 5 + n)) M) (pAct tp ln a) := by
  have hnum := x_num (hi := 7) hr (by decide) hC hc ha
  unfold pAct
  cases hp : pNum tp ln 7 a with
  | inl e =>
    rw [hp] at hnum
    obtain ⟨v, M1, b1, b2, b3⟩ := hnum
    obtain ⟨-, -, -, -, -, t6⟩ := ly_ra b3.1 hr
    have h2 : FlX pl L r tp ln e.1 (tSt tp ln e.2) (sI M1 (r + 5 + n) 2 v) := b3.wo hr hn (by decide)
    obtain ⟨-, -, -, -, -, u6⟩ := ly_ra h2.1 hr
    have h3 : ∀ w : Int32, FlX pl L r tp ln e.1 (tSt tp ln e.2) (sI (sI M1 (r + 5 + n) 2 v) (r + 5 + n) 3 w) := fun w => h2.wo hr hn (by decide)
    have fr : ∀ w : Int32, Fq (XO r (r + 5 + n)) M (sI (sI M1 (r + 5 + n) 2 v) (r + 5 + n) 3 w) := fun w => (b2.xo.tr (Fq.w (Or.inr ⟨rfl, by decide, by decide⟩))).tr (Fq.w (Or.inr ⟨rfl, by decide, by decide⟩))
    refine (x_a41_f hr hn (h3 (mI (sI M1 (r + 5 + n) 2 v) 43 6))).pre (fr _) ?_
    have hx := h3 (mI (sI M1 (r + 5 + n) 2 v) 43 6)
    unfold f_X5_act
    rw [cR_t (ly_t43 hC.1), show f_X5_number (some 43) (7 : Int32) M = _ from b1, cA_s, pI_t (t6 n hn), gI_t (ly_t43 h2.1), pI_t (u6 n hn), gI_t (ly_t43 hx.1), gI_t (ly_t43 hx.1), cR_t (ly_t43 hx.1), x_fail_f hx, cA_s]
    repeat' split
    all_goals rfl
  | inr z =>
    rw [hp] at hnum
    obtain ⟨M1, b1, b2, b3⟩ := hnum
    have hz : z.1 ≤ ln := by obtain ⟨-, rfl, -, -, zl⟩ := pNum_ok ha hp; exact zl
    have htk := tTk_le (tp := tp) (ln := ln) (a := z.1)
    obtain ⟨-, -, -, -, -, t6⟩ := ly_ra b3.1 hr
    have h2 : ClX pl L r tp ln z.1 c (sI M1 (r + 5 + n) 2 (nI z.2)) := b3.wo hr hn (by decide)
    obtain ⟨-, -, -, -, -, u6⟩ := ly_ra h2.1 hr
    have h3 : ClX pl L r tp ln z.1 c (sI (sI M1 (r + 5 + n) 2 (nI z.2)) (r + 5 + n) 3 (nI (tTk tp ln z.1))) := h2.wo hr hn (by decide)
    have fr : Fq (XO r (r + 5 + n)) M (sI (sI M1 (r + 5 + n) 2 (nI z.2)) (r + 5 + n) 3 (nI (tTk tp ln z.1))) := (b2.xo.tr (Fq.w (Or.inr ⟨rfl, by decide, by decide⟩))).tr (Fq.w (Or.inr ⟨rfl, by decide, by decide⟩))
    have m2 : mI (sI (sI M1 (r + 5 + n) 2 (nI z.2)) (r + 5 + n) 3 (nI (tTk tp ln z.1))) (r + 5 + n) 2 = nI z.2 := by rw [mI_nk (by decide), mI_e]
    have m3 : mI (sI (sI M1 (r + 5 + n) 2 (nI z.2)) (r + 5 + n) 3 (nI (tTk tp ln z.1))) (r + 5 + n) 3 = nI (tTk tp ln z.1) := mI_e
    have start : f_X5_act (some 43) (some (r + 5 + n)) M = (if nI (tTk tp ln z.1) < (7 : Int32) then cR (sI (sI M1 (r + 5 + n) 2 (nI z.2)) (r + 5 + n) 3 (nI (tTk tp ln z.1))) (some 43) (1, 5) (cA (f_X5_fail (some 43) (1 : Int32) (sI (sI M1 (r + 5 + n) 2 (nI z.2)) (r + 5 + n) 3 (nI (tTk tp ln z.1)))) fun _ M4 => f_X5_act_41 (some 43) (some (r + 5 + n)) M4) else if nI (tTk tp ln z.1) ≤ (10 : Int32) then f_X5_act_41 (some 43) (some (r + 5 + n)) (sI (sI M1 (r + 5 + n) 2 (nI z.2)) (r + 5 + n) 3 (nI (tTk tp ln z.1))) else cR (sI (sI M1 (r + 5 + n) 2 (nI z.2)) (r + 5 + n) 3 (nI (tTk tp ln z.1))) (some 43) (1, 5) (cA (f_X5_fail (some 43) (1 : Int32) (sI (sI M1 (r + 5 + n) 2 (nI z.2)) (r + 5 + n) 3 (nI (tTk tp ln z.1)))) fun _ M5 => f_X5_act_41 (some 43) (some (r + 5 + n)) M5)) := by
      unfold f_X5_act
      rw [cR_t (ly_t43 hC.1), show f_X5_number (some 43) (7 : Int32) M = _ from b1, cA_s, pI_t (t6 n hn), gI_t (ly_t43 h2.1), h2.2.2.2.2.1.2.1, pI_t (u6 n hn), gI_t (ly_t43 h3.1), h3.2.2.2.2.1.2.1, gI_t (ly_t43 h3.1), h3.2.2.2.2.1.2.1]
    generalize sI (sI M1 (r + 5 + n) 2 (nI z.2)) (r + 5 + n) 3 (nI (tTk tp ln z.1)) = M3 at h3 fr m2 m3 start
    show AcX pl L r tp ln (r + 5 + n) c M _ (bnG (pWd tp ln 7 10 z.1) _)
    rw [start]
    by_cases e : 7 ≤ tTk tp ln z.1 ∧ tTk tp ln z.1 ≤ 10
    · rw [show pWd tp ln 7 10 z.1 = .inr (tNx tp ln z.1, tTk tp ln z.1) from if_pos e, if_neg (show ¬ nI (tTk tp ln z.1) < (7 : Int32) from nI_nlt (b := 7) e.1 (by omega)), if_pos (show nI (tTk tp ln z.1) ≤ (10 : Int32) from nI_le (b := 10) e.2 (by decide))]
      have h41 := x_a41 (mv := z.2) hr hn h3 hc hz m2 m3
      show AcX pl L r tp ln (r + 5 + n) c M _ (bnG (pNum tp ln 3 (tNx tp ln z.1)) (fun k => bnG (pWd tp ln 33 33 k.1) (fun s => bnG (pNum tp ln 3 s.1) (fun z' => .inr (z'.1, z.2, tTk tp ln z.1, k.2, z'.2)))))
      revert h41
      generalize (bnG (pNum tp ln 3 (tNx tp ln z.1)) (fun k => bnG (pWd tp ln 33 33 k.1) (fun s => bnG (pNum tp ln 3 s.1) (fun z' => .inr (z'.1, z.2, tTk tp ln z.1, k.2, z'.2)))) : (Nat × Nat) ⊕ (Nat × Nat × Nat × Nat × Nat)) = res
      intro h41
      cases res with
      | inl q => exact FxR.pre h41 fr rfl
      | inr q =>
        obtain ⟨M', x1, x2, x3⟩ := h41
        exact ⟨M', x1, fr.tr x2, x3⟩
    · rw [show pWd tp ln 7 10 z.1 = .inl (1, z.1) from if_neg e]
      obtain ⟨M4, f1, f2, f3⟩ := x_fail_c (k := 1) hr h3 hc (by decide)
      show FxR pl L r tp ln 1 (tSt tp ln z.1) (r + 5 + n) M _
      refine (x_a41_f hr hn f3).pre (fr.tr f2.xo) ?_
      by_cases z1 : tTk tp ln z.1 < 7
      · rw [if_pos (show nI (tTk tp ln z.1) < (7 : Int32) from nI_lt (b := 7) z1 (by decide)), cR_t (ly_t43 h3.1), show f_X5_fail (some 43) (1 : Int32) M3 = _ from f1, cA_s]
      · rw [if_neg (show ¬ nI (tTk tp ln z.1) < (7 : Int32) from nI_nlt (b := 7) (by omega) (by omega)), if_neg (show ¬ nI (tTk tp ln z.1) ≤ (10 : Int32) from nI_ge (a := 10) (by omega) (by omega)), cR_t (ly_t43 h3.1), show f_X5_fail (some 43) (1 : Int32) M3 = _ from f1, cA_s]
end XCLAUSE2
