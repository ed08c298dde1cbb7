/-! ===== the reference: pieces, names, sums, clauses ===== -/
section MOD2
variable {w h L nt : Nat} {τ : Nat → Txt} {π : Pos} {M : Mem}
theorem y_pieces_l {s : Nat} (hb : Bs w h L nt τ M) (hM : MPos π M) (ok : okP π) (hs : s < 2) : ∀ (k n p : Nat), p + k = w * h → k < n → f_X12_piecesOf_4 n (some 230) (nI s) (nI (cntS π.1 s p)) (nI p) M = some (nI (cntS π.1 s (w * h)), M)
  | k, 0, p, _, hn => absurd hn (by omega)
  | 0, n + 1, p, hp, _ => by
    obtain rfl : p = w * h := by omega
    rw [u_X12_piecesOf_4]
    unfold b_X12_piecesOf_4
    rw [gI_t (ly_t230 hb.lay), hb.dim.2.2.2.2.2.2.1, if_pos (Int32.le_refl _)]
  | k + 1, n + 1, p, hp, hn => by
    have hl := hb.lay
    have hw := hb.1.le
    have ih := y_pieces_l hb hM ok hs k n (p + 1) (by omega) (by omega)
    have k9 := ok.1 p
    have hv := hM.1 p (by omega)
    rw [u_X12_piecesOf_4]
    unfold b_X12_piecesOf_4
    rw [gI_t (ly_t230 hl), hb.dim.2.2.2.2.2.2.1, if_neg (nI_ge (by omega) (by omega)), gR_t (ly_t230 hl), ly_r230_43 hl, aI_t (ly_t254 hl) (by omega) (by decide), hv]
    rw [cntS_s] at ih
    by_cases hz : π.1 p = 0
    · rw [if_pos (by rw [hz]; decide), nI_1, show (0 : Int32) = nI 0 from rfl, nI_add]
      rw [if_neg (fun q => q.1 hz)] at ih
      exact ih
    · rw [if_neg (nI_nle (by omega) (by omega)), gR_t (ly_t230 hl), ly_r230_43 hl, aI_t (ly_t254 hl) (by omega) (by decide), hv, nz_4, show (1 : Int32) = nI 1 from rfl, show (4 : Int32) = nI 4 from rfl, pk_sub (by omega), pk_div (by omega) (by decide) (by decide)]
      by_cases hc : (π.1 p - 1) / 4 = s
      · rw [if_pos (by rw [hc]), nI_add, nI_add]
        rw [if_pos ⟨hz, hc⟩] at ih
        exact ih
      · rw [if_neg (nIne (by omega) (by omega) hc), show (0 : Int32) = nI 0 from rfl, nI_add, nI_add]
        rw [if_neg (fun q => hc q.2)] at ih
        exact ih
theorem y_pieces {s : Nat} (hb : Bs w h L nt τ M) (hM : MPos π M) (ok : okN w h π) (hs : s < 2) : f_X12_piecesOf (some 230) (nI s) M = some (nI (cntS π.1 s 12), M) := by
  have hw := hb.1.le
  have e := y_pieces_l hb hM ok.1 hs (w * h) FU 0 (by omega) (by unfold FU; omega)
  rw [← cntS_stop ok.2.1 12 hw] at e
  exact e
theorem y_names {m : Nat} {f t : Int} (hb : Bs w h L nt τ M) (hM : MPos π M) (ok : okN w h π) (hm : m < 8) : ∃ M', f_X12_names (some 230) (nI m) (i32 f) (i32 t) M = some ((), M') ∧ Fx [252] [] M M' ∧ ∀ k, k < 7 → mI M' 252 k = i32 (nmS π m f t k) := by
  have hl := hb.lay
  have ht := ok.1.2.2.2
  have hs := hM.2.2
  have hv := hM.2.1 m hm
  have f1 : Fx [252] [] M (sI (sI (sI (sI M 252 0 (nI m)) 252 1 (nI (π.2.1 m))) 252 2 (i32 f)) 252 3 (i32 t)) := (((Fx.wI (Or.inl (by decide))).I (Or.inl (by decide))).I (Or.inl (by decide))).I (Or.inl (by decide))
  have p1 := y_pieces (hb.fx f1 (by decide) (by decide)) (hM.fx f1 (by decide) (by decide)) ok ht
  have f2 := f1.I (k := 4) (v := nI (cntS π.1 π.2.2 12)) (Or.inl (show 252 ∈ [252] by decide))
  have p2 := y_pieces (hb.fx f2 (by decide) (by decide)) (hM.fx f2 (by decide) (by decide)) ok (s := 1 - π.2.2) (by omega)
  unfold f_X12_names
  refine ⟨sI (sI (sI (sI (sI (sI (sI M 252 0 (nI m)) 252 1 (nI (π.2.1 m))) 252 2 (i32 f)) 252 3 (i32 t)) 252 4 (nI (cntS π.1 π.2.2 12))) 252 5 (nI (cntS π.1 (1 - π.2.2) 12))) 252 6 (nI π.2.2), ?_, ?_, ?_⟩
  · simp (disch := first | omega | (simp (disch := omega) only [↓litm, lit, tN_n, nI_add, pk_mul, pk_sub, pk_div, nI_remN, nI_remN', nI_eq, nI_leI, nI_ltI, nI_nm1, m1_nI, m1_m1, m1_le, m1_lt, le_m1, lt_m1, oI_n, oI_s, bS_inN, bS_addN, bS_delN, not_true_eq_false, not_false_eq_true, and_true, true_and, if_true, if_false, mT_sI, mT_sL, mT_sR, mR_sI, mR_sL, mI_sL, mI_sR, mL_sI, mL_sR, mI_e, mI_na, mI_nk, mL_e, mL_na, mL_nk, inB_n, hs, hv, p1, p2]; done) | (simp (disch := omega) only [↓litm, lit, tN_n, nI_add, pk_mul, pk_sub, pk_div, nI_remN, nI_remN', nI_eq, nI_leI, nI_ltI, nI_nm1, m1_nI, m1_m1, m1_le, m1_lt, le_m1, lt_m1, oI_n, oI_s, bS_inN, bS_addN, bS_delN, not_true_eq_false, not_false_eq_true, and_true, true_and, if_true, if_false, mT_sI, mT_sL, mT_sR, mR_sI, mR_sL, mI_sL, mI_sR, mL_sI, mL_sR, mI_e, mI_na, mI_nk, mL_e, mL_na, mL_nk, inB_n, hs, hv, p1, p2]; omega)) only [↓T_230 hl, ly_r230_41 hl, ly_r230_44 hl, ↓A_252 hl, ↓A_255 hl, ↓e_gI, ↓e_gL, ↓e_gR, ↓e_pI, ↓e_pL, ↓e_pR, ↓e_cR, ↓e_aI, ↓e_aL, ↓e_aR, ↓e_wI, ↓e_wL, ↓e_aN, ↓t_sI, ↓t_sL, ↓t_sR, ↓q_sI, ↓q_sL, ↓q_sR, ↓n_sI, ↓n_sL, ↓n_sR, ↓cA_s, tv_0, tv_1, tv_n0, tv_n1, ↓nz_y, ↓reduceIte, mT_sI, mT_sL, mT_sR, mR_sI, mR_sL, mI_sL, mI_sR, mL_sI, mL_sR, mI_e, mI_na, mI_nk, mL_e, mL_na, mL_nk, ↓litm, lit, tN_n, nI_add, pk_mul, pk_sub, pk_div, nI_remN, nI_remN', nI_eq, nI_leI, nI_ltI, nI_nm1, m1_nI, m1_m1, m1_le, m1_lt, le_m1, lt_m1, oI_n, oI_s, bS_inN, bS_addN, bS_delN, not_true_eq_false, not_false_eq_true, and_true, true_and, if_true, if_false, hs, hv, p1, p2]
  · exact (f2.I (Or.inl (by decide))).I (Or.inl (by decide))
  · intro k hk
    unfold nmS
    rcases (show k = 0 ∨ k = 1 ∨ k = 2 ∨ k = 3 ∨ k = 4 ∨ k = 5 ∨ k = 6 by omega) with rfl | rfl | rfl | rfl | rfl | rfl | rfl
    all_goals simp only [mI_s]; simp [i32_n]
/-- the clause's sum in the reference -/
theorem y_val {t k : Nat} {c : Cl} {nm : Nat → Int} (hb : Bs w h L nt τ M) (ht : t < nt) (hc : (τ t)[k]? = some c) (h2 : cCd c ≠ []) (hn : nmOk nm) (hnm : ∀ k, k < 7 → mI M 252 k = i32 (nm k)) : ∃ M', f_X12_saysOf (some 230) (mI M 236 (20 * t + k)) M = some (i64 (evV nm (cCd c)), M') ∧ Fx [253] [] M M' := by
  obtain ⟨o1, o2, o3⟩ := hb.2.2.2.2.2 t ht
  obtain ⟨b, hw⟩ := (o1.2.1 k c hc).wt h2
  obtain ⟨-, -, -, -, q⟩ := o3.2 k c hc
  obtain ⟨off, e1, e2, -⟩ := q h2
  obtain ⟨M', u1, u2⟩ := y_says hn hw hb.lay e2 hnm
  exact ⟨M', by rw [e1]; exact u1, Fx.of1 u2 (by decide)⟩
theorem y_toBy {t k m p : Nat} {c : Cl} (hb : Bs w h L nt τ M) (hM : MPos π M) (ok : okN w h π) (ht : t < nt) (hc : (τ t)[k]? = some c) (h0 : cTy c = 0) (hm : m < 8) (hp : p < w * h) : ∃ M', f_X12_toBy (some 230) (nI (20 * t + k)) (nI m) (nI p) M = some (oI (toS w h π m p c), M') ∧ Fx [252, 253] [] M M' := by
  have hl := hb.lay
  have hw := hb.1.le
  have h6 := hb.2.2.2.2.1
  obtain ⟨o1, o2, o3⟩ := hb.2.2.2.2.2 t ht
  obtain ⟨q1, q2, q3, q4, q5⟩ := o3.2 k c hc
  obtain ⟨f8, f9, f0⟩ := q3 h0
  have hk : k < 20 := by
    have h1 := (List.getElem?_eq_some_iff.mp hc).1
    have h2 := o1.1
    omega
  have hokc : cMv c < 8 ∧ 7 ≤ cAc c ∧ cAc c ≤ 10 ∧ cKd c < 4 ∧ cDr c < 4 ∧ (cCd c = [] ∨ wtC (cCd c) true) := by
    rcases o1.2.1 k c hc with q | q | q
    · exact q.2
    · have := q.1; omega
    · have := q.1; omega
  have hact := y_actTo hb hM ok.1 (show 20 * t + k < 120 by omega) f8 f9 f0 ⟨hokc.2.1, hokc.2.2.1, hokc.2.2.2.1, hokc.2.2.2.2.1⟩ hp
  unfold f_X12_toBy
  rw [cR_t (ly_t230 hl), hact, cA_s]
  by_cases hcell : π.1 p = 1 + cKd c + 4 * π.2.2
  · rw [if_pos hcell]
    cases hg : goalS w h π c p with
    | none =>
      refine ⟨M, ?_, Fx.rf⟩
      rw [oI_n, if_pos (show m1 = -1 from rfl)]
      unfold toS
      rw [hg]
      simp [oI_n]
    | some g =>
      have hg2 := goalS_lt hb.1 hp hg
      have hts : toS w h π m p c = if cCd c = [] then some g else if evV (nmS π m p g) (cCd c) = 0 then none else some g := by
        unfold toS
        rw [hg, if_pos hcell]
      rw [oI_s, if_neg (show ¬ nI g = -1 from fun q => (nI_nm1 (by omega)).mp q), gR_t (ly_t230 hl), ly_r230_11 hl, aI_t (ly_t236 hl) (by omega) (by decide), hts]
      by_cases e : cCd c = []
      · refine ⟨M, ?_, Fx.rf⟩
        rw [q4 e, if_pos (show m1 = -1 from rfl), if_pos e, oI_s]
      · obtain ⟨off, e1, e2, -⟩ := q5 e
        have ho := e2.1
        rw [e1, if_neg (show ¬ nI off = -1 from fun q => (nI_nm1 (by omega)).mp q), cR_t (ly_t230 hl)]
        obtain ⟨M1, u1, u2, u3⟩ := y_names (f := (p : Int)) (t := (g : Int)) hb hM ok hm
        rw [i32_n, i32_n] at u1
        have hb1 := hb.fx u2 (by decide) (by decide)
        have hno := nmS_ok (f := (p : Int)) (t := (g : Int)) ok.1 hm (by omega) (by omega)
        have hwt : wtC (cCd c) true := by rcases hokc.2.2.2.2.2 with q | q; exact absurd q e; exact q
        obtain ⟨M2, v1, v2⟩ := y_val hb1 ht hc e hno u3
        rw [u1, cA_s, gR_t (ly_t230 hb1.lay), ly_r230_11 hb1.lay, aI_t (ly_t236 hb1.lay) (by omega) (by decide), cR_t (ly_t230 hb1.lay), v1, cA_s, if_neg e, i64_0]
        refine ⟨M2, ?_, (u2.mono (by decide) (by decide)).tr (v2.mono (by decide) (by decide))⟩
        have hv := evV_ok hno hwt
        rcases hv.2 rfl with ev | ev
        · rw [ev, if_pos rfl, if_pos ((lg_cmp_le _ _).mpr (Int64.le_refl _)), oI_n]; rfl
        · rw [ev, if_neg (show ¬ lg_cmp (i64 1) (i64 0) ≤ 0 from fun q => by have := (i64_le (b01.vl (Or.inr rfl)).sm.bg vl0.sm.bg).mp ((lg_cmp_le _ _).mp q); omega), if_neg (show ¬ (1 : Int) = 0 by decide), oI_s]
  · refine ⟨M, ?_, Fx.rf⟩
    rw [if_neg hcell, oI_n, if_pos (show m1 = -1 from rfl)]
    unfold toS
    rw [if_neg hcell, oI_n]
theorem take_s {T : Txt} {k : Nat} {c : Cl} (hc : T[k]? = some c) : T.take (k + 1) = T.take k ++ [c] := by
  rw [List.take_succ, hc]
  rfl
theorem wor_take {T : Txt} {k y : Nat} {c : Cl} {nm : Nat → Int} (ok : okT T) (hc : T[k]? = some c) (hy : 12 ≤ y ∧ y ≤ 15) : worS (T.take (k + 1)) y nm = if cTy c = y then evV nm (cCd c) else worS (T.take k) y nm := by
  unfold worS
  rw [take_s hc, List.find?_append]
  by_cases e : cTy c = y
  · have hn : (T.take k).find? (fun c => cTy c == y) = none := by
      rw [List.find?_eq_none]
      intro d hd
      obtain ⟨i, hi, rfl⟩ := List.mem_take_iff_getElem.mp hd
      intro q
      have q : cTy T[i] = y := by simpa using q
      have := ok.2.2 i k T[i] c (List.getElem?_eq_getElem _) hc (by rw [q, e]) (by omega) (by omega)
      omega
    rw [hn, if_pos e, Option.none_or, List.find?_cons_of_pos (by simpa using e)]
  · rw [if_neg e, List.find?_cons_of_neg (by simpa using e), List.find?_nil, Option.or_none]
end MOD2
