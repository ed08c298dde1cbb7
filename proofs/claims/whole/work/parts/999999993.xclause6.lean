/-! ===== the class reads clauses ===== -/
section XCLAUSE6
variable {pl L r : Nat} {tp : Nat → Nat} {ln : Nat} {M M' : Mem}
theorem getD_l {c d : List Nat} {j : Nat} (h : j < c.length) : (c ++ d).getD j 0 = c.getD j 0 := by
  rw [List.getD_eq_getElem?_getD, List.getD_eq_getElem?_getD, List.getElem?_append_left h]
theorem getD_r {c d : List Nat} {j : Nat} : (c ++ d).getD (c.length + j) 0 = d.getD j 0 := by
  rw [List.getD_eq_getElem?_getD, List.getD_eq_getElem?_getD, List.getElem?_append_right (by omega), Nat.add_sub_cancel_left]
theorem TxX.snoc {T : Txt} {a a' : Nat} {c : List Nat} {d : Cl} (h : TxX pl L r tp ln T a c M) (hC : ClX pl L r tp ln a' (c ++ cCd d) M') (h4 : mI M' r 4 = nI (T.length + 1)) (ho : ∀ i k, i < T.length → mI M' (r + 5 + i) k = mI M (r + 5 + i) k) (n1 : mI M' (r + 5 + T.length) 1 = nI (cTy d)) (n2 : cTy d = 0 → mI M' (r + 5 + T.length) 2 = nI (cMv d) ∧ mI M' (r + 5 + T.length) 3 = nI (cAc d) ∧ mI M' (r + 5 + T.length) 4 = nI (cKd d) ∧ mI M' (r + 5 + T.length) 5 = nI (cDr d)) (n6 : mI M' (r + 5 + T.length) 6 = nI c.length) (n7 : mI M' (r + 5 + T.length) 7 = nI (c ++ cCd d).length) (m2 : ∀ m, mR M' (r + 2) m = mR M (r + 2) m) (m3 : ∀ y, y < 4 → mR M' (r + 3) y = if cTy d = 12 + y then some (r + 5 + T.length) else mR M (r + 3) y) (hs : 12 ≤ cTy d → cTy d ≤ 15 → (fTd (cTy d) T 0).isSome = false) : TxX pl L r tp ln (T ++ [d]) a' (c ++ cCd d) M' := by
  obtain ⟨h1, h2, h3, h5, h6⟩ := h
  refine ⟨hC, by rw [h4]; simp, fun i e he => ?_, fun m hm => by rw [m2]; exact h5 m hm, fun y hy => ?_⟩
  · by_cases z : i < T.length
    · rw [List.getElem?_append_left z] at he
      obtain ⟨q1, q2, cs, q3, q4, q5, q6⟩ := h3 i e he
      refine ⟨by rw [ho i _ z]; exact q1, fun w => by rw [ho i _ z, ho i _ z, ho i _ z, ho i _ z]; exact q2 w, cs, by rw [ho i _ z]; exact q3, by rw [ho i _ z]; exact q4, by rw [List.length_append]; omega, fun j hj => by rw [getD_l (by omega)]; exact q6 j hj⟩
    · rw [List.getElem?_append_right (by omega)] at he
      by_cases y : i = T.length
      · rw [y, Nat.sub_self] at he
        cases he
        subst y
        exact ⟨n1, n2, c.length, n6, by rw [n7, List.length_append], by rw [List.length_append]; omega, fun j hj => getD_r⟩
      · rw [List.getElem?_eq_none (by simp; omega)] at he; cases he
  · rw [m3 y hy, fTd_snoc]
    by_cases z : cTy d = 12 + y
    · rw [if_pos z]
      have := hs (by omega) (by omega)
      rw [z] at this
      cases hf : fTd (12 + y) T 0 with
      | some k => rw [hf] at this; cases this
      | none =>
        dsimp only
        rw [if_pos z, Nat.zero_add]
        rfl
    · rw [if_neg z, h6 y hy]
      cases hf : fTd (12 + y) T 0 with
      | some k => rfl
      | none => dsimp only; rw [if_neg z]
theorem x_c96_f {f p n : Nat} {v : Int32} (hr : isRA r) (hn : n < 20) (hF : FlX pl L r tp ln f p M) : ∃ M', f_X5_clause_96 (some 43) v (some (r + 5 + n)) M = some ((), M') ∧ Fg r M M' ∧ FlX pl L r tp ln f p M' := by
  obtain ⟨M1, a1, a2, a3⟩ := x_tl_f hr hn hF
  refine ⟨M1, ?_, a2, a3⟩
  unfold f_X5_clause_96
  rw [gI_t (ly_t43 hF.1), if_neg hF.nz]
  by_cases z : v = 0
  · rw [if_pos z]; exact a1
  · rw [if_neg z]; exact a1
theorem x_c96_0 {a n mv ac kd dr : Nat} {c : List Nat} (hr : isRA r) (hn : n < 20) (hC : ClX pl L r tp ln a c M) (hc : c.length ≤ a) (ha : a ≤ ln) : BoX pl L r tp ln n c M (f_X5_clause_96 (some 43) 0 (some (r + 5 + n)) M) (if tTk tp ln a = 11 then pBod tp ln 0 0 mv ac kd dr (tNx tp ln a) else pFin tp ln 0 mv ac kd dr a []) := by
  have htk := tTk_le (tp := tp) (ln := ln) (a := a)
  have h300 := hC.2.1.1
  have hx := tNx_b (tp := tp) ha
  unfold f_X5_clause_96
  rw [if_pos rfl, gI_t (ly_t43 hC.1), hC.2.2.2.1.1, if_pos (show nI 0 = (0 : Int32) from rfl), gI_t (ly_t43 hC.1), hC.2.2.2.2.1.2.1]
  by_cases e : tTk tp ln a = 11
  · rw [if_pos e, if_pos (show nI (tTk tp ln a) = (11 : Int32) by rw [e]; rfl), cR_t (ly_t43 hC.1)]
    obtain ⟨M1, b1, b2, b3⟩ := x_adv_c hr hC ha
    have hlt := hx.2.2 (by omega)
    refine (x_body hr hn (by decide) b3 (by omega) hx.1).pre b2.fg (b2.ko hr) ?_
    rw [b1, cA_s, cR_t (ly_t43 b3.1)]
    rfl
  · rw [if_neg e, if_neg (show ¬ nI (tTk tp ln a) = (11 : Int32) from nIne (b := 11) (by omega) (by decide) e)]
    have hC' : ClX pl L r tp ln a (c ++ []) M := by rw [List.append_nil]; exact hC
    exact x_fin hr hn hC' (by rw [List.append_nil]; omega) ha
end XCLAUSE6
