/-! ===== the line of the reference: its plies ===== -/
section YLINE2
variable {w h L nt : Nat} {τ : Nat → Txt} {n : Nat} {op : Nat → Chi} {tg : Nat → Nat} {O : Pos → Chi} {S : Pos → Nat → Nat → Pos} {Q : Nat → Pos} {R U : Pos → Nat}
theorem nk0 {q : Nat} : nkO q 0 (qx q) (qy q) (qz q) := Or.inl ⟨rfl, rfl, rfl, rfl⟩
theorem nk1 {q : Nat} : nkO q 1 (qy q) (qx q) (qz q) := Or.inr (Or.inl ⟨rfl, rfl, rfl, rfl⟩)
theorem nk2 {q : Nat} : nkO q 2 (qz q) (qx q) (qy q) := Or.inr (Or.inr ⟨rfl, rfl, rfl, rfl⟩)
abbrev lnF3 : List (Nat × Nat) := [(230, 66), (230, 67), (230, 68)]
/-- behind winsOn and losesOn -/
def LnM (O : Pos → Chi) (S : Pos → Nat → Nat → Pos) (R U : Pos → Nat) (π : Pos) (M : Mem) : Prop := mI M 230 66 = nI (lnQ O S R U π) ∧ mI M 230 67 = nI (lnN S R U π (lnQ O S R U π)) ∧ mI M 230 68 = nI (lnD S R U π (lnQ O S R U π) (lnN S R U π (lnQ O S R U π)))
theorem VlM.fl {M M' : Mem} (hV : VlM O S Q n op tg R U M) (fr : Fx [] lnF3 M M') : VlM O S Q n op tg R U M' := hV.fx fr (by decide) (by decide) (by decide) (by decide)
theorem y_l78y {i q k no a b f : Nat} {sh : Nat} {M : Mem} (hb : Bs w h L nt τ M) (hV : VlM O S Q n op tg R U M) (hi : i < n) (hq : q ∈ TQ) (ho : inq (op i) q = true) (hk : nkO q k no a b) (h66 : mI M 230 66 = nI q) (hsh : sh ≤ 100000) (hc : sh ≤ wbP S R U (Q i) no a b) : f_X12_losesOn_78 (f + 1) (some 230) (nI i) (nI sh) (nI k) M = f_X12_losesOn_78 f (some 230) (nI i) (nI sh) (nI (k + 1)) M := by
  rw [y_l78 hb hV hi hq ho hk h66 hsh, if_pos hc]
theorem y_l78n {i q k no a b f : Nat} {sh : Nat} {M : Mem} (hb : Bs w h L nt τ M) (hV : VlM O S Q n op tg R U M) (hi : i < n) (hq : q ∈ TQ) (ho : inq (op i) q = true) (hk : nkO q k no a b) (h66 : mI M 230 66 = nI q) (hsh : sh ≤ 100000) (hc : wbP S R U (Q i) no a b < sh) : f_X12_losesOn_78 (f + 1) (some 230) (nI i) (nI sh) (nI k) M = f_X12_losesOn_78 f (some 230) (nI i) (nI (wbP S R U (Q i) no a b)) (nI (k + 1)) (sI (sI M 230 67 (nI no)) 230 68 (nI (if U (S (Q i) no a) = wbP S R U (Q i) no a b then a else b))) := by
  rw [y_l78 hb hV hi hq ho hk h66 hsh, if_neg (show ¬ sh ≤ wbP S R U (Q i) no a b by omega)]
theorem y_w83y {i q k no a b f : Nat} {lg : Int32} {M : Mem} (hb : Bs w h L nt τ M) (hV : VlM O S Q n op tg R U M) (hi : i < n) (hq : q ∈ TQ) (ho : inq (op i) q = true) (hk : nkO q k no a b) (h66 : mI M 230 66 = nI q) (hc : nI (lbP S R U (Q i) no a b) ≤ lg) : f_X12_winsOn_83 (f + 1) (some 230) (nI i) lg (nI k) M = f_X12_winsOn_83 f (some 230) (nI i) lg (nI (k + 1)) M := by
  rw [y_w83 hb hV hi hq ho hk h66, if_pos hc]
theorem y_w83n {i q k no a b f : Nat} {lg : Int32} {M : Mem} (hb : Bs w h L nt τ M) (hV : VlM O S Q n op tg R U M) (hi : i < n) (hq : q ∈ TQ) (ho : inq (op i) q = true) (hk : nkO q k no a b) (h66 : mI M 230 66 = nI q) (hc : ¬ nI (lbP S R U (Q i) no a b) ≤ lg) : f_X12_winsOn_83 (f + 1) (some 230) (nI i) lg (nI k) M = f_X12_winsOn_83 f (some 230) (nI i) (nI (lbP S R U (Q i) no a b)) (nI (k + 1)) (sI (sI M 230 67 (nI no)) 230 68 (nI (if R (S (Q i) no a) = 2 ∧ U (S (Q i) no a) = lbP S R U (Q i) no a b then a else b))) := by
  rw [y_w83 hb hV hi hq ho hk h66, if_neg hc]
theorem y_w83a {i : Nat} {M : Mem} (hb : Bs w h L nt τ M) (hV : VlM O S Q n op tg R U M) (hi : i < n) (hf : LnF O S R U (Q i)) (hr1 : R (Q i) = 1) (h66 : mI M 230 66 = nI (lnQ O S R U (Q i))) : ∃ M', f_X12_winsOn_83 FU (some 230) (nI i) (-1) (nI 0) M = some ((), M') ∧ Fx [] lnF3 M M' ∧ LnM O S R U (Q i) M' := by
  obtain ⟨q, no, dn, e1, e2, e3, a1, a2, a3, a4, a5, a6, a7, a8⟩ := ln_all hf (hV.2.2.2.2.2 _)
  have ho : inq (op i) q = true := by rw [hV.1.1 i hi]; exact a2
  have hU2 := hV.2.2.2.2.2 (Q i)
  have hof : wiP S R U (Q i) q = U (Q i) - 1 := by unfold ofP at a3; rwa [if_pos hr1] at a3
  have hbd : ∀ no a b, lbP S R U (Q i) no a b < 2 ^ 31 := fun no a b => by
    have := lbV_bd (ra := R (S (Q i) no a)) (rb := R (S (Q i) no b)) (hV.2.2.2.2.2 (S (Q i) no a)) (hV.2.2.2.2.2 (S (Q i) no b))
    unfold lbP
    omega
  have hend : ∀ lg M', Bs w h L nt τ M' → f_X12_winsOn_83 (999999996 + 1) (some 230) (nI i) lg (nI 3) M' = some ((), M') := fun lg M' _ => by
    rw [u_X12_winsOn_83]
    unfold b_X12_winsOn_83
    rw [if_pos (by decide)]
  unfold LnM
  rw [← e1] at h66 ⊢
  rw [← e2, ← e3]
  have hnn : no = if lbP S R U (Q i) (qx q) (qy q) (qz q) = U (Q i) - 1 then qx q else if lbP S R U (Q i) (qy q) (qx q) (qz q) = U (Q i) - 1 then qy q else qz q := by
    rw [e2]
    unfold lnN nvP
    simp only [if_pos hr1]
  have hdd : dn = if R (S (Q i) no (ot1 q no)) = 2 ∧ U (S (Q i) no (ot1 q no)) = U (Q i) - 1 then ot1 q no else ot2 q no := by
    rw [e3]
    unfold lnD
    rw [hr1]
  obtain ⟨x1, x2, x3, x4, x5, x6⟩ := ot_x a1
  unfold wiP at hof
  -- the three steps
  have st0 := y_w83n (f := 999999999) (lg := (-1 : Int32)) hb hV hi a1 ho nk0 h66 (fun z => (le_m1 (hbd _ _ _)).mp z)
  generalize hM1 : sI (sI M 230 67 (nI (qx q))) 230 68 (nI (if R (S (Q i) (qx q) (qy q)) = 2 ∧ U (S (Q i) (qx q) (qy q)) = lbP S R U (Q i) (qx q) (qy q) (qz q) then qy q else qz q)) = M1 at st0
  have f1 : Fx [] lnF3 M M1 := by rw [← hM1]; exact (Fx.wI (Or.inr (by decide))).I (Or.inr (by decide))
  have m1a : mI M1 230 67 = nI (qx q) := by rw [← hM1, mI_nk (by decide), mI_e]
  have m1b : mI M1 230 68 = nI (if R (S (Q i) (qx q) (qy q)) = 2 ∧ U (S (Q i) (qx q) (qy q)) = lbP S R U (Q i) (qx q) (qy q) (qz q) then qy q else qz q) := by rw [← hM1, mI_e]
  have m1c : mI M1 230 66 = nI q := by rw [← hM1, mI_nk (by decide), mI_nk (by decide)]; exact h66
  have hb1 := hb.fx f1 (by decide) (by decide)
  have hV1 := hV.fl f1
  have top : ∀ X, f_X12_winsOn_83 999999999 (some 230) (nI i) (nI (lbP S R U (Q i) (qx q) (qy q) (qz q))) (nI 1) M1 = X → f_X12_winsOn_83 FU (some 230) (nI i) (-1) (nI 0) M = X := fun X hX => by rw [← hX]; exact st0
  by_cases z0 : lbP S R U (Q i) (qx q) (qy q) (qz q) = U (Q i) - 1
  · rw [if_pos z0] at hnn
    subst hnn
    rw [x1, x2] at hdd
    have st1 := y_w83y (f := 999999998) (lg := nI (lbP S R U (Q i) (qx q) (qy q) (qz q))) hb1 hV1 hi a1 ho nk1 m1c (nI_le (by omega) (hbd _ _ _))
    have st2 := y_w83y (f := 999999997) (lg := nI (lbP S R U (Q i) (qx q) (qy q) (qz q))) hb1 hV1 hi a1 ho nk2 m1c (nI_le (by omega) (hbd _ _ _))
    refine ⟨M1, top _ (Eq.trans st1 (Eq.trans st2 (hend _ _ hb1))), f1, m1c, m1a, ?_⟩
    rw [m1b, hdd, z0]
  · rw [if_neg z0] at hnn
    by_cases z1 : lbP S R U (Q i) (qy q) (qx q) (qz q) = U (Q i) - 1
    · rw [if_pos z1] at hnn
      subst hnn
      rw [x3, x4] at hdd
      have st1 := y_w83n (f := 999999998) (lg := nI (lbP S R U (Q i) (qx q) (qy q) (qz q))) hb1 hV1 hi a1 ho nk1 m1c (nI_ge (by omega) (hbd _ _ _))
      generalize hM2 : sI (sI M1 230 67 (nI (qy q))) 230 68 (nI (if R (S (Q i) (qy q) (qx q)) = 2 ∧ U (S (Q i) (qy q) (qx q)) = lbP S R U (Q i) (qy q) (qx q) (qz q) then qx q else qz q)) = M2 at st1
      have f2 : Fx [] lnF3 M1 M2 := by rw [← hM2]; exact (Fx.wI (Or.inr (by decide))).I (Or.inr (by decide))
      have m2a : mI M2 230 67 = nI (qy q) := by rw [← hM2, mI_nk (by decide), mI_e]
      have m2b : mI M2 230 68 = nI (if R (S (Q i) (qy q) (qx q)) = 2 ∧ U (S (Q i) (qy q) (qx q)) = lbP S R U (Q i) (qy q) (qx q) (qz q) then qx q else qz q) := by rw [← hM2, mI_e]
      have m2c : mI M2 230 66 = nI q := by rw [← hM2, mI_nk (by decide), mI_nk (by decide)]; exact m1c
      have hb2 := hb1.fx f2 (by decide) (by decide)
      have st2 := y_w83y (f := 999999997) (lg := nI (lbP S R U (Q i) (qy q) (qx q) (qz q))) hb2 (hV1.fl f2) hi a1 ho nk2 m2c (nI_le (by omega) (hbd _ _ _))
      refine ⟨M2, top _ (Eq.trans st1 (Eq.trans st2 (hend _ _ hb2))), f1.tr f2, m2c, m2a, ?_⟩
      rw [m2b, hdd, z1]
    · rw [if_neg z1] at hnn
      subst hnn
      rw [x5, x6] at hdd
      have z2 : lbP S R U (Q i) (qz q) (qx q) (qy q) = U (Q i) - 1 := by omega
      have fin : ∀ (lg M2 : _), f_X12_winsOn_83 999999999 (some 230) (nI i) (nI (lbP S R U (Q i) (qx q) (qy q) (qz q))) (nI 1) M1 = f_X12_winsOn_83 (999999997 + 1) (some 230) (nI i) (nI lg) (nI 2) M2 → lg < U (Q i) - 1 → Fx [] lnF3 M M2 → mI M2 230 66 = nI q → ∃ M', f_X12_winsOn_83 FU (some 230) (nI i) (-1) (nI 0) M = some ((), M') ∧ Fx [] lnF3 M M' ∧ mI M' 230 66 = nI q ∧ mI M' 230 67 = nI (qz q) ∧ mI M' 230 68 = nI dn := by
        intro lg M2 hst hlg f2 m2c
        have hb2 := hb.fx f2 (by decide) (by decide)
        have st2 := y_w83n (f := 999999997) (lg := nI lg) hb2 (hV.fl f2) hi a1 ho nk2 m2c (nI_ge (by omega) (hbd _ _ _))
        refine ⟨_, top _ (Eq.trans hst (Eq.trans st2 (hend _ _ (hb2.fx ((Fx.wI (A := []) (F := lnF3) (Or.inr (by decide))).I (Or.inr (by decide))) (by decide) (by decide))))), f2.tr ((Fx.wI (Or.inr (by decide))).I (Or.inr (by decide))), ?_, ?_, ?_⟩
        · rw [mI_nk (by decide), mI_nk (by decide)]; exact m2c
        · rw [mI_nk (by decide), mI_e]
        · rw [mI_e, hdd, z2]
      by_cases y : lbP S R U (Q i) (qy q) (qx q) (qz q) ≤ lbP S R U (Q i) (qx q) (qy q) (qz q)
      · have st1 := y_w83y (f := 999999998) (lg := nI (lbP S R U (Q i) (qx q) (qy q) (qz q))) hb1 hV1 hi a1 ho nk1 m1c (nI_le y (hbd _ _ _))
        exact fin _ M1 st1 (by omega) f1 m1c
      · have st1 := y_w83n (f := 999999998) (lg := nI (lbP S R U (Q i) (qx q) (qy q) (qz q))) hb1 hV1 hi a1 ho nk1 m1c (nI_ge (by omega) (hbd _ _ _))
        refine fin _ _ st1 (by omega) (f1.tr ((Fx.wI (Or.inr (by decide))).I (Or.inr (by decide)))) ?_
        rw [mI_nk (by decide), mI_nk (by decide)]
        exact m1c
theorem y_l78a {i : Nat} {M : Mem} (hb : Bs w h L nt τ M) (hV : VlM O S Q n op tg R U M) (hi : i < n) (hf : LnF O S R U (Q i)) (hr1 : R (Q i) = 2) (h66 : mI M 230 66 = nI (lnQ O S R U (Q i))) : ∃ M', f_X12_losesOn_78 FU (some 230) (nI i) (nI 100000) (nI 0) M = some ((), M') ∧ Fx [] lnF3 M M' ∧ LnM O S R U (Q i) M' := by
  obtain ⟨q, no, dn, e1, e2, e3, a1, a2, a3, a4, a5, a6, a7, a8⟩ := ln_all hf (hV.2.2.2.2.2 _)
  have ho : inq (op i) q = true := by rw [hV.1.1 i hi]; exact a2
  have hU2 := hV.2.2.2.2.2 (Q i)
  have hr1n : ¬ R (Q i) = 1 := by omega
  have hof : loP S R U (Q i) q = U (Q i) - 1 := by unfold ofP at a3; rwa [if_neg hr1n] at a3
  have hbd : ∀ no a b, wbP S R U (Q i) no a b ≤ 100000 := fun no a b => by
    have := wbV_bd (ra := R (S (Q i) no a)) (rb := R (S (Q i) no b)) (hV.2.2.2.2.2 (S (Q i) no a)) (hV.2.2.2.2.2 (S (Q i) no b))
    unfold wbP
    omega
  have hwl : ∀ no a b, wbP S R U (Q i) no a b = U (Q i) - 1 → R (S (Q i) no a) = 1 := fun no a b z => by
    have := (wbV_lt (ra := R (S (Q i) no a)) (ta := U (S (Q i) no a)) (rb := R (S (Q i) no b)) (tb := U (S (Q i) no b)) (B := 100000) (Nat.le_refl _)).mp (by show wbP S R U (Q i) no a b < 100000; omega)
    exact this.1.1
  have hend : ∀ lg M', f_X12_losesOn_78 (999999996 + 1) (some 230) (nI i) lg (nI 3) M' = some ((), M') := fun lg M' => by
    rw [u_X12_losesOn_78]
    unfold b_X12_losesOn_78
    rw [if_pos (by decide)]
  unfold LnM
  rw [← e1] at h66 ⊢
  rw [← e2, ← e3]
  have hnn : no = if wbP S R U (Q i) (qx q) (qy q) (qz q) = U (Q i) - 1 then qx q else if wbP S R U (Q i) (qy q) (qx q) (qz q) = U (Q i) - 1 then qy q else qz q := by
    rw [e2]
    unfold lnN nvP
    simp only [if_neg hr1n]
  have hdd : dn = if R (S (Q i) no (ot1 q no)) = 1 ∧ U (S (Q i) no (ot1 q no)) = U (Q i) - 1 then ot1 q no else ot2 q no := by
    rw [e3]
    unfold lnD
    rw [hr1]
  obtain ⟨x1, x2, x3, x4, x5, x6⟩ := ot_x a1
  unfold loP at hof
  have dnk : ∀ no a b, wbP S R U (Q i) no a b = U (Q i) - 1 → (if U (S (Q i) no a) = wbP S R U (Q i) no a b then a else b) = if R (S (Q i) no a) = 1 ∧ U (S (Q i) no a) = U (Q i) - 1 then a else b := by
    intro no a b z
    have := hwl _ _ _ z
    rw [z]
    by_cases y : U (S (Q i) no a) = U (Q i) - 1
    · rw [if_pos y, if_pos ⟨this, y⟩]
    · rw [if_neg y, if_neg (fun t => y t.2)]
  -- a step that writes, and what stands behind it
  have wr : ∀ (M : Mem) (a d : Nat), Fx [] lnF3 M (sI (sI M 230 67 (nI a)) 230 68 (nI d)) ∧ mI (sI (sI M 230 67 (nI a)) 230 68 (nI d)) 230 67 = nI a ∧ mI (sI (sI M 230 67 (nI a)) 230 68 (nI d)) 230 68 = nI d ∧ mI (sI (sI M 230 67 (nI a)) 230 68 (nI d)) 230 66 = mI M 230 66 := fun M a d => ⟨(Fx.wI (Or.inr (by decide))).I (Or.inr (by decide)), by rw [mI_nk (by decide), mI_e], mI_e, by rw [mI_nk (by decide), mI_nk (by decide)]⟩
  -- from the second step on
  have third : ∀ (sh : Nat) (M2 : Mem), Fx [] lnF3 M M2 → mI M2 230 66 = nI q → sh ≤ 100000 → U (Q i) - 1 < sh → wbP S R U (Q i) (qz q) (qx q) (qy q) = U (Q i) - 1 → no = qz q → ∃ M', f_X12_losesOn_78 (999999997 + 1) (some 230) (nI i) (nI sh) (nI 2) M2 = some ((), M') ∧ Fx [] lnF3 M M' ∧ mI M' 230 66 = nI q ∧ mI M' 230 67 = nI no ∧ mI M' 230 68 = nI dn := by
    intro sh M2 f2 m2 h1 h2 z hno
    have hb2 := hb.fx f2 (by decide) (by decide)
    have st := y_l78n (f := 999999997) (sh := sh) hb2 (hV.fl f2) hi a1 ho nk2 m2 h1 (by omega)
    rw [dnk _ _ _ z] at st
    obtain ⟨w1, w2, w3, w4⟩ := wr M2 (qz q) (if R (S (Q i) (qz q) (qx q)) = 1 ∧ U (S (Q i) (qz q) (qx q)) = U (Q i) - 1 then qx q else qy q)
    refine ⟨_, Eq.trans st (hend _ _), f2.tr w1, by rw [w4]; exact m2, by rw [w2, hno], ?_⟩
    rw [w3, hdd, hno, x5, x6]
  have skip2 : ∀ (sh : Nat) (M2 : Mem), Fx [] lnF3 M M2 → mI M2 230 66 = nI q → sh = U (Q i) - 1 → f_X12_losesOn_78 (999999997 + 1) (some 230) (nI i) (nI sh) (nI 2) M2 = some ((), M2) := by
    intro sh M2 f2 m2 h1
    have hb2 := hb.fx f2 (by decide) (by decide)
    exact Eq.trans (y_l78y (f := 999999997) (sh := sh) hb2 (hV.fl f2) hi a1 ho nk2 m2 (by omega) (by omega)) (hend _ _)
  have second : ∀ (sh : Nat) (M1 : Mem), Fx [] lnF3 M M1 → mI M1 230 66 = nI q → sh ≤ 100000 → U (Q i) - 1 < sh → ¬ wbP S R U (Q i) (qx q) (qy q) (qz q) = U (Q i) - 1 → ∃ M', f_X12_losesOn_78 (999999998 + 1) (some 230) (nI i) (nI sh) (nI 1) M1 = some ((), M') ∧ Fx [] lnF3 M M' ∧ mI M' 230 66 = nI q ∧ mI M' 230 67 = nI no ∧ mI M' 230 68 = nI dn := by
    intro sh M1 f1 m1 h1 h2 z0
    have hb1 := hb.fx f1 (by decide) (by decide)
    rw [if_neg z0] at hnn
    by_cases z1 : wbP S R U (Q i) (qy q) (qx q) (qz q) = U (Q i) - 1
    · rw [if_pos z1] at hnn
      have st := y_l78n (f := 999999998) (sh := sh) hb1 (hV.fl f1) hi a1 ho nk1 m1 h1 (by omega)
      rw [dnk _ _ _ z1] at st
      obtain ⟨w1, w2, w3, w4⟩ := wr M1 (qy q) (if R (S (Q i) (qy q) (qx q)) = 1 ∧ U (S (Q i) (qy q) (qx q)) = U (Q i) - 1 then qx q else qz q)
      refine ⟨_, Eq.trans st (skip2 _ _ (f1.tr w1) (by rw [w4]; exact m1) z1), f1.tr w1, by rw [w4]; exact m1, by rw [w2, hnn], ?_⟩
      rw [w3, hdd, hnn, x3, x4]
    · rw [if_neg z1] at hnn
      have z2 : wbP S R U (Q i) (qz q) (qx q) (qy q) = U (Q i) - 1 := by omega
      by_cases y : sh ≤ wbP S R U (Q i) (qy q) (qx q) (qz q)
      · have st := y_l78y (f := 999999998) (sh := sh) hb1 (hV.fl f1) hi a1 ho nk1 m1 h1 y
        obtain ⟨M', t1, t2⟩ := third sh M1 f1 m1 h1 h2 z2 hnn
        exact ⟨M', Eq.trans st t1, t2⟩
      · have st := y_l78n (f := 999999998) (sh := sh) hb1 (hV.fl f1) hi a1 ho nk1 m1 h1 (by omega)
        obtain ⟨w1, w2, w3, w4⟩ := wr M1 (qy q) (if U (S (Q i) (qy q) (qx q)) = wbP S R U (Q i) (qy q) (qx q) (qz q) then qx q else qz q)
        obtain ⟨M', t1, t2⟩ := third (wbP S R U (Q i) (qy q) (qx q) (qz q)) _ (f1.tr w1) (by rw [w4]; exact m1) (hbd _ _ _) (by omega) z2 hnn
        exact ⟨M', Eq.trans st t1, t2⟩
  by_cases z0 : wbP S R U (Q i) (qx q) (qy q) (qz q) = U (Q i) - 1
  · rw [if_pos z0] at hnn
    have st0 := y_l78n (f := 999999999) (sh := 100000) hb hV hi a1 ho nk0 h66 (Nat.le_refl _) (by omega)
    rw [dnk _ _ _ z0] at st0
    obtain ⟨w1, w2, w3, w4⟩ := wr M (qx q) (if R (S (Q i) (qx q) (qy q)) = 1 ∧ U (S (Q i) (qx q) (qy q)) = U (Q i) - 1 then qy q else qz q)
    have hb1 := hb.fx w1 (by decide) (by decide)
    have st1 := y_l78y (f := 999999998) (sh := wbP S R U (Q i) (qx q) (qy q) (qz q)) hb1 (hV.fl w1) hi a1 ho nk1 (by rw [w4]; exact h66) (hbd _ _ _) (by omega)
    refine ⟨_, Eq.trans st0 (Eq.trans st1 (skip2 _ _ w1 (by rw [w4]; exact h66) z0)), w1, by rw [w4]; exact h66, by rw [w2, hnn], ?_⟩
    rw [w3, hdd, hnn, x1, x2]
  · by_cases y : 100000 ≤ wbP S R U (Q i) (qx q) (qy q) (qz q)
    · have st0 := y_l78y (f := 999999999) (sh := 100000) hb hV hi a1 ho nk0 h66 (Nat.le_refl _) y
      obtain ⟨M', t1, t2⟩ := second 100000 M Fx.rf h66 (Nat.le_refl _) (by omega) z0
      exact ⟨M', Eq.trans st0 t1, t2⟩
    · have st0 := y_l78n (f := 999999999) (sh := 100000) hb hV hi a1 ho nk0 h66 (Nat.le_refl _) (by omega)
      obtain ⟨w1, w2, w3, w4⟩ := wr M (qx q) (if U (S (Q i) (qx q) (qy q)) = wbP S R U (Q i) (qx q) (qy q) (qz q) then qy q else qz q)
      obtain ⟨M', t1, t2⟩ := second (wbP S R U (Q i) (qx q) (qy q) (qz q)) _ w1 (by rw [w4]; exact h66) (hbd _ _ _) (by omega) z0
      exact ⟨M', Eq.trans st0 t1, t2⟩
end YLINE2
