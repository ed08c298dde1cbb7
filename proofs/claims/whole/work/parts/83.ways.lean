/-! ===== what players do by their ways ===== -/
def fI (b : Bst) : Int := match b with
  | none => -1
  | some q => q.2.1
def gI' (b : Bst) : Int := match b with
  | none => -1
  | some q => q.2.2.1
theorem bF_i (b : Bst) : bF b = i32 (fI b) := by cases b with
  | none => exact m1_i32
  | some q => exact n_i32 _
theorem bG_i (b : Bst) : bG b = i32 (gI' b) := by cases b with
  | none => exact m1_i32
  | some q => exact n_i32 _
section WAYS
variable {w h L nt : Nat} {τ : Nat → Txt} {π : Pos}
/-- the names of a move as it would be done -/
def nmA (w h : Nat) (T : Txt) (π : Pos) (m : Nat) : Nat → Int := nmS π m (fI (canS w h T π m)) (gI' (canS w h T π m))
theorem nmA_ok {T : Txt} {m : Nat} (hd : okD w h) (okt : okT T) (ok : okP π) (hm : m < 8) : nmOk (nmA w h T π m) ∧ (-1 ≤ fI (canS w h T π m) ∧ fI (canS w h T π m) ≤ 12) ∧ (-1 ≤ gI' (canS w h T π m) ∧ gI' (canS w h T π m) ≤ 12) := by
  have hle := hd.le
  have key : (-1 ≤ fI (canS w h T π m) ∧ fI (canS w h T π m) ≤ 12) ∧ (-1 ≤ gI' (canS w h T π m) ∧ gI' (canS w h T π m) ≤ 12) := by
    cases hc : canS w h T π m with
    | none => exact ⟨⟨by decide, by decide⟩, ⟨by decide, by decide⟩⟩
    | some b =>
      obtain ⟨q1, q2, q3, -⟩ := bst_ok hd okt ok hm _ (Nat.le_refl _) b hc
      refine ⟨⟨?_, ?_⟩, ?_, ?_⟩
      · show (-1 : Int) ≤ (b.2.1 : Int); omega
      · show (b.2.1 : Int) ≤ 12; omega
      · show (-1 : Int) ≤ (b.2.2.1 : Int); omega
      · show (b.2.2.1 : Int) ≤ 12; omega
  exact ⟨nmS_ok ok hm key.1 key.2, key⟩
/-- a clause's sum for a move, in the class -/
theorem x_pval {M : Mem} {x y : Option Nat} {a i m : Nat} {c : Cl} (hb : Bs w h L nt τ M) (ok : okP π) (ha : isPA a) (hP : PosAt a π M) (hN : NmAt π M) (hx : okX nt x) (hL : LookAt (lkB w h (tT τ x) π) M) (hy : okX nt y) (hc : (tT τ y)[i]? = some c) (h2 : cCd c ≠ []) (hm : m < 8) (hab : ablS w h (tT τ x) π m = true) : ∃ M', f_X3_value (some 209) (some a) (some (rT y)) (some (rT y + 5 + i)) (nI m) M = some (i32 (evV (nmA w h (tT τ x) π m) (cCd c)), M') ∧ Fx [201, 202] [] M M' ∧ NmAt π M' := by
  have hl := hb.lay
  have hle := hb.1.le
  obtain ⟨h1, b, hcn⟩ := abl_can hab
  have hB : lkB w h (tT τ x) π m = some b := by unfold lkB; rw [if_pos (by simpa using h1), hcn]
  obtain ⟨l1, l2, l3, l4, l5, l6, l7, l8⟩ := hL.2 m hm b hB
  have hcnt := x_count hP ok hm
  have tp := hP.1
  have fr1 : Fx [201, 202] [] M (sI (sI (sI (sI M 201 0 (nI m)) 201 1 (nI (π.2.1 m))) 201 2 (nI b.2.1)) 201 3 (nI b.2.2.1)) := (((Fx.wI (Or.inl (by decide))).I (Or.inl (by decide))).I (Or.inl (by decide))).I (Or.inl (by decide))
  have hb1 := hb.fx fr1 (by decide) (by decide)
  have hl1 := hb1.lay
  have hnm := aim_nm (m := m) (p := b.2.1) (g := b.2.2.1) hN
  have hno := (nmA_ok hb.1 (hb.okT hx) ok hm).1
  have enm : nmA w h (tT τ x) π m = nmS π m b.2.1 b.2.2.1 := by unfold nmA; rw [hcn]; rfl
  rw [enm] at hno ⊢
  obtain ⟨M2, v1, v2⟩ := x_val hb1 hy hc h2 hno hnm
  refine ⟨M2, ?_, fr1.tr (v2.mono (by decide) (by decide)), ?_⟩
  · unfold f_X3_value
    rw [gR_t (ly_t209 hl), ly_r209_3 hl, cR_t tp, hcnt, cA_s, gR_t (ly_t209 hl), ly_r209_2 hl, gR_t (ly_t203 hl), ly_r203_0 hl, aI_t (ly_t204 hl) hm (by decide), l6, gR_t (ly_t209 hl), ly_r209_2 hl, gR_t (ly_t203 hl), ly_r203_1 hl, aI_t (ly_t205 hl) hm (by decide), l7, cR_t (ly_t200 hl), x_aim hb, cA_s, gR_t (ly_t209 hl1), ly_r209_3 hl1, cR_t (ly_t200 hl1), v1, cA_s]
  · have : NmAt π (sI (sI (sI (sI M 201 0 (nI m)) 201 1 (nI (π.2.1 m))) 201 2 (nI b.2.1)) 201 3 (nI b.2.2.1)) := by
      obtain ⟨n4, n5, n6⟩ := hN
      unfold NmAt
      simp (disch := first | omega | (simp (disch := omega) only [↓litm, lit, tN_n, nI_add, pk_mul, pk_sub, pk_div, nI_remN, nI_remN', nI_eq, nI_leI, nI_ltI, nI_nm1, m1_nI, m1_m1, m1_le, m1_lt, le_m1, lt_m1, oI_n, oI_s, bS_inN, bS_addN, bS_delN, not_true_eq_false, not_false_eq_true, and_true, true_and, if_true, if_false, mT_sI, mT_sL, mT_sR, mR_sI, mR_sL, mI_sL, mI_sR, mL_sI, mL_sR, mI_e, mI_na, mI_nk, mL_e, mL_na, mL_nk, inB_n, n4, n5, n6]; done) | (simp (disch := omega) only [↓litm, lit, tN_n, nI_add, pk_mul, pk_sub, pk_div, nI_remN, nI_remN', nI_eq, nI_leI, nI_ltI, nI_nm1, m1_nI, m1_m1, m1_le, m1_lt, le_m1, lt_m1, oI_n, oI_s, bS_inN, bS_addN, bS_delN, not_true_eq_false, not_false_eq_true, and_true, true_and, if_true, if_false, mT_sI, mT_sL, mT_sR, mR_sI, mR_sL, mI_sL, mI_sR, mL_sI, mL_sR, mI_e, mI_na, mI_nk, mL_e, mL_na, mL_nk, inB_n, n4, n5, n6]; omega)) only [↓e_gI, ↓e_gL, ↓e_gR, ↓e_pI, ↓e_pL, ↓e_pR, ↓e_cR, ↓e_aI, ↓e_aL, ↓e_aR, ↓e_wI, ↓e_wL, ↓e_aN, ↓t_sI, ↓t_sL, ↓t_sR, ↓q_sI, ↓q_sL, ↓q_sR, ↓n_sI, ↓n_sL, ↓n_sR, ↓cA_s, tv_0, tv_1, tv_n0, tv_n1, ↓nz_y, ↓reduceIte, mT_sI, mT_sL, mT_sR, mR_sI, mR_sL, mI_sL, mI_sR, mL_sI, mL_sR, mI_e, mI_na, mI_nk, mL_e, mL_na, mL_nk, ↓litm, lit, tN_n, nI_add, pk_mul, pk_sub, pk_div, nI_remN, nI_remN', nI_eq, nI_leI, nI_ltI, nI_nm1, m1_nI, m1_m1, m1_le, m1_lt, le_m1, lt_m1, oI_n, oI_s, bS_inN, bS_addN, bS_delN, not_true_eq_false, not_false_eq_true, and_true, true_and, if_true, if_false, n4, n5, n6]
    exact this.fx v2 (by decide)
/-- what the moves are worth by a clause of a way -/
def wgS (w h : Nat) (T W : Txt) (π : Pos) (y m : Nat) : Int := worS W y (nmA w h T π m)
def wgX (w h : Nat) (T W : Txt) (π : Pos) (y m : Nat) : Int := if ablS w h T π m = true then wgS w h T W π y m else 0
theorem x_single {M : Mem} {y : Option Nat} {k : Nat} (hb : Bs w h L nt τ M) (hy : okX nt y) (hk : 12 ≤ k ∧ k ≤ 15) : f_X6_singleOf (some (rT y)) (nI k) M = some (adr (rT y) (fTd k (tT τ y) 0), M) := by
  have hl := hb.lay
  have hra := hy.ra hb.2.2.2.2.1
  obtain ⟨t1, t2, t3, t4, t5, t6⟩ := ly_ra hl hra
  have hs : mR M (rT y + 3) (k - 12) = adr (rT y) (fTd k (tT τ y) 0) := by
    have := (hb.rules hy).2.2.2 (k - 12) (by omega)
    rwa [show 12 + (k - 12) = k by omega] at this
  have hr2 : mR M (rT y) 2 = some (rT y + 3) := (hl.2.2.2.2.1 _ hra).2.2.1
  unfold f_X6_singleOf f_X6_isSingle
  rw [if_neg (show ¬ nI k < (12 : Int32) from nI_nlt (b := 12) (by omega) (by omega)), if_neg (show ¬ (15 : Int32) < nI k from nI_nlt (a := 15) (by omega) (by decide)), tv_1, cA_s, if_neg (by decide), gR_t t1, hr2, show (12 : Int32) = nI 12 from rfl, pk_sub (by omega), aR_t t4 (by omega) (by decide), hs]
theorem x_weigh_l {x y : Option Nat} {a k : Nat} (ok : okP π) (ha : isPA a) (hx : okX nt x) (hy : okX nt y) (hk : 12 ≤ k ∧ k ≤ 15) : ∀ (j n m : Nat) (M : Mem), m + j = 8 → j < n → Bs w h L nt τ M → PosAt a π M → NmAt π M → LookAt (lkB w h (tT τ x) π) M → (∀ i, i < m → mI M 210 i = i32 (wgX w h (tT τ x) (tT τ y) π k i)) → ∃ M', f_X3_weigh_10 n (some 209) (some a) (some (rT y)) (adr (rT y) (fTd k (tT τ y) 0)) (nI m) M = some ((), M') ∧ Fx [201, 202, 210] [] M M' ∧ NmAt π M' ∧ ∀ i, i < 8 → mI M' 210 i = i32 (wgX w h (tT τ x) (tT τ y) π k i)
  | j, 0, m, M => fun _ z => absurd z (by omega)
  | 0, n + 1, m, M => by
    intro hm _ hb hP hN hL hW
    obtain rfl : m = 8 := by omega
    refine ⟨M, ?_, Fx.rf, hN, hW⟩
    rw [u_X3_weigh_10]
    unfold b_X3_weigh_10
    rw [if_pos (by decide)]
  | j + 1, n + 1, m, M => by
    intro hm hn hb hP hN hL hW
    have hl := hb.lay
    have hm8 : m < 8 := by omega
    -- the way on, with a value
    have on : ∀ (M1 : Mem) (v : Int), Fx [201, 202] [] M M1 → NmAt π M1 → v = wgX w h (tT τ x) (tT τ y) π k m → ∃ M', f_X3_weigh_10 n (some 209) (some a) (some (rT y)) (adr (rT y) (fTd k (tT τ y) 0)) (nI (m + 1)) (sI M1 210 m (i32 v)) = some ((), M') ∧ Fx [201, 202, 210] [] M M' ∧ NmAt π M' ∧ ∀ i, i < 8 → mI M' 210 i = i32 (wgX w h (tT τ x) (tT τ y) π k i) := by
      intro M1 v fr hN1 hv
      have fr1 : Fx [201, 202, 210] [] M (sI M1 210 m (i32 v)) := (fr.mono (by decide) (by decide)).I (Or.inl (by decide))
      obtain ⟨M', z1, z2, z3, z4⟩ := x_weigh_l ok ha hx hy hk j n (m + 1) (sI M1 210 m (i32 v)) (by omega) (by omega) (hb.fx fr1 (by decide) (by decide)) (hP.fx fr1 (by rcases ha with rfl | rfl | rfl | rfl | rfl | rfl <;> decide)) (hN1.fx (Fx.wI (A := [210]) (F := []) (Or.inl (by decide))) (by decide)) (hL.fx fr1 (by decide) (by decide)) (fun i hi => by
        by_cases e : i = m
        · subst e; rw [mI_e, hv]
        · rw [mI_nk e, fr.ib (by decide)]; exact hW i (by omega))
      exact ⟨M', z1, fr1.tr z2, z3, z4⟩
    have zero : wgX w h (tT τ x) (tT τ y) π k m = 0 → ∃ M', f_X3_weigh_42 (f_X3_weigh_10 n) (some 209) (some a) (some (rT y)) (adr (rT y) (fTd k (tT τ y) 0)) (nI m) 0 M = some ((), M') ∧ Fx [201, 202, 210] [] M M' ∧ NmAt π M' ∧ ∀ i, i < 8 → mI M' 210 i = i32 (wgX w h (tT τ x) (tT τ y) π k i) := by
      intro hz
      unfold f_X3_weigh_42
      rw [gR_t (ly_t209 hl), ly_r209_5 hl, if_pos rfl, wI_t (ly_t210 hl) hm8 (by decide), nI_1]
      exact on M 0 Fx.rf hN hz.symm
    rw [u_X3_weigh_10]
    unfold b_X3_weigh_10
    rw [if_neg (show ¬ (8 : Int32) ≤ nI m from nI_ge (b := 8) (by omega) (by decide))]
    cases ho : fTd k (tT τ y) 0 with
    | none =>
      rw [ho] at zero
      rw [show adr (rT y) none = none from rfl, if_pos rfl]
      exact zero (by unfold wgX wgS; rw [fTd_none _ _ ho]; split <;> rfl)
    | some i =>
      rw [ho] at zero on
      rw [show adr (rT y) (some i) = some (rT y + 5 + i) from rfl] at zero on ⊢
      rw [if_neg (by simp), gR_t (ly_t209 hl), ly_r209_2 hl, gI_t (ly_t203 hl), hL.abl]
      cases hab : ablS w h (tT τ x) π m with
      | false =>
        rw [if_pos ((bS_in (by decide) hm8).mpr hab)]
        exact zero (by unfold wgX; rw [hab]; rfl)
      | true =>
        rw [if_neg (fun z => by rw [bS_in (by decide) hm8, hab] at z; cases z)]
        obtain ⟨k', c', h1, h2, h3, h4⟩ := fTd_some (nm := nmA w h (tT τ x) π m) _ _ _ ho
        rw [Nat.zero_add] at h1
        subst h1
        have hne : cCd c' ≠ [] := by
          rcases (hb.okT hy).2.1 _ c' h2 with q | q | q
          · have := q.1; omega
          · exact wtC_ne q.2.2
          · exact wtC_ne q.2
        obtain ⟨M1, v1, v2, v3⟩ := x_pval hb ok ha hP hN hx hL hy h2 hne hm8 hab
        have hb1 := hb.fx v2 (by decide) (by decide)
        unfold f_X3_weigh_42
        rw [gR_t (ly_t209 hl), ly_r209_5 hl, if_neg (by decide), cR_t (ly_t209 hl), v1, cA_s, wI_t (ly_t210 hb1.lay) hm8 (by decide), nI_1]
        exact on M1 _ v2 v3 (by unfold wgX wgS; rw [hab, h4]; rfl)
theorem x_weigh {M : Mem} {x y : Option Nat} {a k : Nat} (hb : Bs w h L nt τ M) (ok : okP π) (ha : isPA a) (hP : PosAt a π M) (hN : NmAt π M) (hx : okX nt x) (hL : LookAt (lkB w h (tT τ x) π) M) (hy : okX nt y) (hk : 12 ≤ k ∧ k ≤ 15) : ∃ M', f_X3_weigh (some 209) (some a) (some (rT y)) (nI k) M = some ((), M') ∧ Fx [201, 202, 210] [] M M' ∧ NmAt π M' ∧ ∀ i, i < 8 → mI M' 210 i = i32 (wgX w h (tT τ x) (tT τ y) π k i) := by
  have hl := hb.lay
  have hra := hy.ra hb.2.2.2.2.1
  unfold f_X3_weigh
  rw [cR_t (ly_ra hl hra).1, x_single hb hy hk, cA_s]
  exact x_weigh_l ok ha hx hy hk 8 FU 0 M (by omega) (by decide) hb hP hN hL (fun i hi => absurd hi (by omega))
/-- the greatest of some -/
def grt (f : Nat → Int) (p : Nat → Bool) : List Nat → Option Nat → Option Nat
  | [], b => b
  | m :: l, b => grt f p l (if p m = true then (match b with
      | none => some m
      | some b => if f b < f m then some m else some b) else b)
theorem grt_c {f : Nat → Int} {p : Nat → Bool} {m : Nat} {l : List Nat} {b : Option Nat} : grt f p (m :: l) b = grt f p l (if p m = true then (match b with
      | none => some m
      | some b => if f b < f m then some m else some b) else b) := rfl
theorem x_great_l {M : Mem} {ψ : Chi} {f : Nat → Int} (hb : Bs w h L nt τ M) (hW : ∀ i, i < 8 → mI M 210 i = i32 (f i)) (hf : ∀ i, i < 8 → vl (f i)) : ∀ (j n m : Nat) (b : Option Nat), m + j = 8 → j < n → (∀ q, b = some q → q < 8) → f_X3_greatest_13 n (some 209) (nI (bS ψ 8)) (oI b) (nI m) M = some (nI ((grt f ψ (List.range' m j) b).getD 0), M)
  | j, 0, m, b, _, hn => absurd hn (by omega)
  | 0, n + 1, m, b, hm, _ => by
    intro hq
    obtain rfl : m = 8 := by omega
    rw [u_X3_greatest_13]
    unfold b_X3_greatest_13
    rw [if_pos (by decide)]
    cases b with
    | none => rw [oI_n, if_pos (show m1 = -1 from rfl)]; rfl
    | some q =>
      have := hq q rfl
      rw [oI_s, if_neg (show ¬ nI q = -1 from fun z => (nI_nm1 (by omega)).mp z)]; rfl
  | j + 1, n + 1, m, b, hm, hn => by
    intro hq
    have hl := hb.lay
    rw [u_X3_greatest_13, List.range'_succ, grt_c]
    unfold b_X3_greatest_13
    rw [if_neg (show ¬ (8 : Int32) ≤ nI m from nI_ge (b := 8) (by omega) (by decide))]
    cases hp : ψ m with
    | false =>
      rw [if_pos ((bS_in (by decide) (by omega)).mpr hp), nI_1, if_neg (show ¬ false = true by decide)]
      exact x_great_l hb hW hf j n (m + 1) b (by omega) (by omega) hq
    | true =>
      rw [if_neg (fun z => by rw [bS_in (by decide) (by omega), hp] at z; cases z), if_pos rfl]
      have up := x_great_l (ψ := ψ) hb hW hf j n (m + 1) (some m) (by omega) (by omega) (fun q e => by cases e; omega)
      rw [oI_s] at up
      cases b with
      | none =>
        rw [oI_n, if_pos (show m1 = -1 from rfl), nI_1]
        exact up
      | some q =>
        have hq8 := hq q rfl
        rw [oI_s, if_neg (show ¬ nI q = -1 from fun z => (nI_nm1 (by omega)).mp z), gR_t (ly_t209 hl), ly_r209_5 hl, aI_t (ly_t210 hl) (by omega) (by decide), hW m (by omega), gR_t (ly_t209 hl), ly_r209_5 hl, aI_t (ly_t210 hl) hq8 (by decide), hW q hq8, nI_1]
        by_cases hlt : f q < f m
        · rw [if_neg (fun z => by have := (i32_le (hf m (by omega)).sm (hf q hq8).sm).mp z; omega)]
          dsimp only
          rw [if_pos hlt]
          exact up
        · rw [if_pos ((i32_le (hf m (by omega)).sm (hf q hq8).sm).mpr (by omega))]
          dsimp only
          rw [if_neg hlt]
          have := x_great_l (ψ := ψ) hb hW hf j n (m + 1) (some q) (by omega) (by omega) (fun z e => by cases e; omega)
          rw [oI_s] at this
          exact this
theorem wgX_vl {T W : Txt} {k m : Nat} (hd : okD w h) (okt : okT T) (okw : okT W) (ok : okP π) (hm : m < 8) (hk : 12 ≤ k ∧ k ≤ 15) : vl (wgX w h T W π k m) := by
  unfold wgX
  split
  · exact worS_vl okw (nmA_ok hd okt ok hm).1 hk
  · exact vl0
theorem x_great {M : Mem} {x y : Option Nat} {a k : Nat} {ψ : Chi} (hb : Bs w h L nt τ M) (ok : okP π) (ha : isPA a) (hP : PosAt a π M) (hN : NmAt π M) (hx : okX nt x) (hL : LookAt (lkB w h (tT τ x) π) M) (hy : okX nt y) (hk : 12 ≤ k ∧ k ≤ 15) : ∃ M', f_X3_greatest (some 209) (some a) (some (rT y)) (nI k) (nI (bS ψ 8)) M = some (nI ((grt (wgX w h (tT τ x) (tT τ y) π k) ψ mem3 none).getD 0), M') ∧ Fx [201, 202, 210] [] M M' ∧ NmAt π M' := by
  have hl := hb.lay
  obtain ⟨M1, e1, e2, e3, e4⟩ := x_weigh hb ok ha hP hN hx hL hy hk
  have hb1 := hb.fx e2 (by decide) (by decide)
  refine ⟨M1, ?_, e2, e3⟩
  unfold f_X3_greatest
  rw [cR_t (ly_t209 hl), e1, cA_s]
  have := x_great_l (ψ := ψ) hb1 e4 (fun i hi => wgX_vl hb.1 (hb.okT hx) (hb.okT hy) ok hi hk) 8 FU 0 none (by omega) (by decide) (fun q e => by cases e)
  exact this
end WAYS
