/-! ===== line ===== -/
theorem fnd_congr {p p' : Nat → Bool} : ∀ l : List Nat, (∀ q, q ∈ l → p q = p' q) → l.find? p = l.find? p'
  | [], _ => rfl
  | q :: l, h => by
    rw [List.find?_cons, List.find?_cons, h q List.mem_cons_self, fnd_congr l (fun q hq => h q (List.mem_cons_of_mem _ hq))]
theorem tri_TQ {q : Nat} (h1 : q < 512) (h2 : tri q = true) : q ∈ TQ := by
  unfold TQ
  rw [List.mem_filter, List.mem_range'_1]
  exact ⟨by omega, h2⟩
section CLINE
variable {w h L nt : Nat} {τ : Nat → Txt} {n : Nat} {op : Nat → Chi} {tg : Nat → Nat} {O : Pos → Chi} {S : Pos → Nat → Nat → Pos} {Q : Nat → Pos} {R U : Pos → Nat}
theorem lnQ_s {π : Pos} (hf : LnF O S R U π) : TQ.find? (fun q => inq (O π) q && (ofP S R U π q == U π - 1)) = some (lnQ O S R U π) := by
  obtain ⟨-, ⟨q, hq, hi, ho⟩, -⟩ := hf
  unfold lnQ
  cases hfd : TQ.find? (fun q => inq (O π) q && (ofP S R U π q == U π - 1)) with
  | none =>
    have := List.find?_eq_none.mp hfd q hq
    rw [hi, ho] at this
    simp at this
  | some p => rfl
theorem y_w7 {i q0 : Nat} (hi : i < n) (hr : R (Q i) ≠ 0) {M0 : Mem} : ∀ (k f q : Nat) (M : Mem), q + k = 512 → k + 1 < f → Bs w h L nt τ M → VlM O S Q n op tg R U M → mI M 230 66 = m1 → (List.range' q k).find? (fun q => tri q && (inq (op i) q && decide (wiP S R U (Q i) q < U (Q i)))) = some q0 → Fx [] lnF3 M0 M → ∃ M', f_X12_winsOn_7 f (some 230) (nI i) (nI q) M = f_X12_winsOn_83 FU (some 230) (nI i) (-1) (nI 0) M' ∧ Fx [] lnF3 M0 M' ∧ mI M' 230 66 = nI q0
  | k, 0, q, M => fun _ z => absurd z (by omega)
  | 0, f + 1, q, M => by
    intro _ _ _ _ _ h0
    cases h0
  | k + 1, f + 1, q, M => by
    intro hq hf hb hV h66 hfd fr
    have hl := hb.lay
    have hn := hV.2.2.2.1
    have n64 : ∀ {X : Option (Unit × Mem)}, nzI (64 : Int32) X = X := nz_y (y := 64) (by decide)
    have n8 : ∀ {X : Option (Unit × Mem)}, nzI (8 : Int32) X = X := nz_y (y := 8) (by decide)
    have d1 : nI q / (64 : Int32) = nI (qx q) := pk_div (d := 64) (by omega) (by decide) (by decide)
    have d2 : nI q / (8 : Int32) = nI (q / 8) := pk_div (d := 8) (by omega) (by decide) (by decide)
    have d3 : nI (q / 8) - nI (q / 8) / (8 : Int32) * (8 : Int32) = nI (qy q) := pk_rem (d := 8) (by omega) (by decide) (by decide)
    have d4 : nI q - nI (q / 8) * (8 : Int32) = nI (qz q) := nI_remN (d := 8) (by omega) (by decide) (by decide)
    have fw : ∀ v : Int32, Fx [] lnF3 M (sI M 230 66 v) := fun v => Fx.wI (Or.inr (by decide))
    have nxt : (List.range' (q + 1) k).find? (fun q => tri q && (inq (op i) q && decide (wiP S R U (Q i) q < U (Q i)))) = some q0 → ∃ M', f_X12_winsOn_7 f (some 230) (nI i) (nI (q + 1)) (sI M 230 66 m1) = f_X12_winsOn_83 FU (some 230) (nI i) (-1) (nI 0) M' ∧ Fx [] lnF3 M0 M' ∧ mI M' 230 66 = nI q0 := fun hfd' => y_w7 hi hr k f (q + 1) _ (by omega) (by omega) (hb.fx (fw _) (by decide) (by decide)) (hV.fl (fw _)) mI_e hfd' (fr.tr (fw _))
    rw [List.range'_succ, List.find?_cons] at hfd
    rw [u_X12_winsOn_7]
    unfold b_X12_winsOn_7
    rw [if_neg (show ¬ (512 : Int32) ≤ nI q from nI_ge (b := 512) (by omega) (by decide)), gI_t (ly_t230 hl), h66, if_pos (show m1 = (-1 : Int32) from rfl), gR_t (ly_t230 hl), ly_r230_60 hl, aI_t (ly_t263 hl) (by omega) (by decide), hV.2.1.1 i hi, y_isOfferOf (by omega), cA_s, nI_1]
    cases hc : (tri q && inq (op i) q) with
    | false =>
      rw [← Bool.and_assoc, hc, Bool.false_and] at hfd
      rw [if_pos (by decide), pI_t (ly_t230 hl)]
      exact nxt hfd
    | true =>
      rw [← Bool.and_assoc, hc, Bool.true_and] at hfd
      rw [Bool.and_eq_true] at hc
      have hU2 := hV.2.2.2.2.2 (Q i)
      have ht66 : mI M 266 i = nI (U (Q i)) := ((hV.2.2.1 i hi).2.2 hr).1
      have hbd : wiP S R U (Q i) q < 2 ^ 31 := by
        have b1 := lbV_bd (ra := R (S (Q i) (qx q) (qy q))) (rb := R (S (Q i) (qx q) (qz q))) (hV.2.2.2.2.2 (S (Q i) (qx q) (qy q))) (hV.2.2.2.2.2 (S (Q i) (qx q) (qz q)))
        have b2 := lbV_bd (ra := R (S (Q i) (qy q) (qx q))) (rb := R (S (Q i) (qy q) (qz q))) (hV.2.2.2.2.2 (S (Q i) (qy q) (qx q))) (hV.2.2.2.2.2 (S (Q i) (qy q) (qz q)))
        have b3 := lbV_bd (ra := R (S (Q i) (qz q) (qx q))) (rb := R (S (Q i) (qz q) (qy q))) (hV.2.2.2.2.2 (S (Q i) (qz q) (qx q))) (hV.2.2.2.2.2 (S (Q i) (qz q) (qy q)))
        unfold wiP lbP
        omega
      rw [if_neg (by decide), n64, n8, n8, n8, cR_t (ly_t230 hl), d2, d1, d3, d4, y_wiP hb hV hi (tri_TQ (by omega) hc.1) hc.2, cA_s, gR_t (ly_t230 hl), ly_r230_63 hl, aI_t (ly_t266 hl) (by omega) (by decide), ht66]
      by_cases z : wiP S R U (Q i) q < U (Q i)
      · rw [decide_eq_true z] at hfd
        obtain rfl : q = q0 := Option.some.inj hfd
        rw [if_neg (nI_ge z (by omega)), pI_t (ly_t230 hl)]
        refine ⟨sI M 230 66 (nI q), ?_, fr.tr (fw _), mI_e⟩
        obtain ⟨f', rfl⟩ : ∃ f', f = f' + 1 := ⟨f - 1, by omega⟩
        rw [u_X12_winsOn_7]
        unfold b_X12_winsOn_7
        have hl1 := (hb.fx (fw (nI q)) (by decide) (by decide)).lay
        by_cases y : q + 1 = 512
        · rw [if_pos (show (512 : Int32) ≤ nI (q + 1) by rw [y]; decide)]
          rfl
        · rw [if_neg (show ¬ (512 : Int32) ≤ nI (q + 1) from nI_ge (b := 512) (by omega) (by decide)), gI_t (ly_t230 hl1), mI_e, if_neg (show ¬ nI q = (-1 : Int32) from fun t => (nI_nm1 (by omega)).mp t)]
          rfl
      · rw [decide_eq_false z] at hfd
        rw [if_pos (show nI (U (Q i)) ≤ nI (wiP S R U (Q i) q) from nI_le (by omega) hbd), pI_t (ly_t230 hl)]
        exact nxt hfd
theorem y_winsOn {i : Nat} {M : Mem} (hb : Bs w h L nt τ M) (hV : VlM O S Q n op tg R U M) (hi : i < n) (hf : LnF O S R U (Q i)) (hr1 : R (Q i) = 1) : ∃ M', f_X12_winsOn (some 230) (nI i) M = some ((), M') ∧ Fx [] lnF3 M M' ∧ LnM O S R U (Q i) M' := by
  have fw : Fx [] lnF3 M (sI M 230 66 m1) := Fx.wI (Or.inr (by decide))
  have hb1 := hb.fx fw (by decide) (by decide)
  have hV1 := hV.fl fw
  have hU1 := hf.1
  have hfd : (List.range' 0 512).find? (fun q => tri q && (inq (op i) q && decide (wiP S R U (Q i) q < U (Q i)))) = some (lnQ O S R U (Q i)) := by
    rw [← find_fl, ← lnQ_s hf]
    refine fnd_congr _ (fun q hq => ?_)
    rw [hV.1.1 i hi]
    cases hc : inq (O (Q i)) q with
    | false => rw [Bool.false_and, Bool.false_and]
    | true =>
      rw [Bool.true_and, Bool.true_and, Bool.eq_iff_iff, decide_eq_true_eq, beq_iff_eq]
      rcases hf.2.2 with ⟨-, hlo⟩ | ⟨z, -⟩
      · have := hlo q hq hc
        unfold ofP at this ⊢
        rw [if_pos hr1] at this ⊢
        omega
      · omega
  obtain ⟨M1, a1, a2, a3⟩ := y_w7 (M0 := M) hi (by omega) 512 FU 0 _ (by omega) (by decide) hb1 hV1 mI_e hfd fw
  obtain ⟨M2, b1, b2, b3⟩ := y_w83a (hb.fx a2 (by decide) (by decide)) (hV.fl a2) hi hf hr1 a3
  refine ⟨M2, ?_, a2.tr b2, b3⟩
  unfold f_X12_winsOn
  rw [pI_t (ly_t230 hb.lay)]
  exact Eq.trans a1 b1
theorem y_l9b {i : Nat} {T : Nat} (hi : i < n) (hT : T < 100000) {M : Mem} (hb : Bs w h L nt τ M) (hV : VlM O S Q n op tg R U M) (hup : ∀ q, q ∈ TQ → inq (op i) q = true → loP S R U (Q i) q ≤ T) : ∀ (k f q : Nat), q + k = 512 → k < f → f_X12_losesOn_9 f (some 230) (nI i) (nI T) (nI q) M = f_X12_losesOn_78 FU (some 230) (nI i) (nI 100000) (nI 0) M
  | k, 0, q => fun _ z => absurd z (by omega)
  | 0, f + 1, q => by
    intro hq _
    obtain rfl : q = 512 := by omega
    rw [u_X12_losesOn_9]
    unfold b_X12_losesOn_9
    rw [if_pos (by decide)]
    rfl
  | k + 1, f + 1, q => by
    intro hq hf
    have hl := hb.lay
    have hn := hV.2.2.2.1
    have n64 : ∀ {X : Option (Unit × Mem)}, nzI (64 : Int32) X = X := nz_y (y := 64) (by decide)
    have n8 : ∀ {X : Option (Unit × Mem)}, nzI (8 : Int32) X = X := nz_y (y := 8) (by decide)
    have d1 : nI q / (64 : Int32) = nI (qx q) := pk_div (d := 64) (by omega) (by decide) (by decide)
    have d2 : nI q / (8 : Int32) = nI (q / 8) := pk_div (d := 8) (by omega) (by decide) (by decide)
    have d3 : nI (q / 8) - nI (q / 8) / (8 : Int32) * (8 : Int32) = nI (qy q) := pk_rem (d := 8) (by omega) (by decide) (by decide)
    have d4 : nI q - nI (q / 8) * (8 : Int32) = nI (qz q) := nI_remN (d := 8) (by omega) (by decide) (by decide)
    have ih := y_l9b hi hT hb hV hup k f (q + 1) (by omega) (by omega)
    rw [u_X12_losesOn_9]
    unfold b_X12_losesOn_9
    rw [if_neg (show ¬ (512 : Int32) ≤ nI q from nI_ge (b := 512) (by omega) (by decide)), gR_t (ly_t230 hl), ly_r230_60 hl, aI_t (ly_t263 hl) (by omega) (by decide), hV.2.1.1 i hi, y_isOfferOf (by omega), cA_s, nI_1]
    cases hc : (tri q && inq (op i) q) with
    | false => rw [if_pos (by decide)]; exact ih
    | true =>
      rw [Bool.and_eq_true] at hc
      have hq' := tri_TQ (show q < 512 by omega) hc.1
      rw [if_neg (by decide), n64, n8, n8, n8, cR_t (ly_t230 hl), d2, d1, d3, d4, y_loP hb hV hi hq' hc.2, cA_s, if_pos (nI_le (hup q hq' hc.2) (by omega))]
      exact ih
theorem y_l9a {i q0 : Nat} {T : Nat} (hi : i < n) (hT : T < 100000) (hup : ∀ q, q ∈ TQ → inq (op i) q = true → loP S R U (Q i) q ≤ T) {M0 : Mem} : ∀ (k f q : Nat) (lg : Option Nat) (M : Mem), q + k = 512 → k < f → Bs w h L nt τ M → VlM O S Q n op tg R U M → (∀ l, lg = some l → l < T) → (List.range' q k).find? (fun q => tri q && (inq (op i) q && (loP S R U (Q i) q == T))) = some q0 → Fx [] lnF3 M0 M → ∃ M', f_X12_losesOn_9 f (some 230) (nI i) (oI lg) (nI q) M = f_X12_losesOn_78 FU (some 230) (nI i) (nI 100000) (nI 0) M' ∧ Fx [] lnF3 M0 M' ∧ mI M' 230 66 = nI q0
  | k, 0, q, lg, M => fun _ z => absurd z (by omega)
  | 0, f + 1, q, lg, M => by
    intro _ _ _ _ _ h0
    cases h0
  | k + 1, f + 1, q, lg, M => by
    intro hq hf hb hV hlg hfd fr
    have hl := hb.lay
    have hn := hV.2.2.2.1
    have n64 : ∀ {X : Option (Unit × Mem)}, nzI (64 : Int32) X = X := nz_y (y := 64) (by decide)
    have n8 : ∀ {X : Option (Unit × Mem)}, nzI (8 : Int32) X = X := nz_y (y := 8) (by decide)
    have d1 : nI q / (64 : Int32) = nI (qx q) := pk_div (d := 64) (by omega) (by decide) (by decide)
    have d2 : nI q / (8 : Int32) = nI (q / 8) := pk_div (d := 8) (by omega) (by decide) (by decide)
    have d3 : nI (q / 8) - nI (q / 8) / (8 : Int32) * (8 : Int32) = nI (qy q) := pk_rem (d := 8) (by omega) (by decide) (by decide)
    have d4 : nI q - nI (q / 8) * (8 : Int32) = nI (qz q) := nI_remN (d := 8) (by omega) (by decide) (by decide)
    have fw : ∀ v : Int32, Fx [] lnF3 M (sI M 230 66 v) := fun v => Fx.wI (Or.inr (by decide))
    rw [List.range'_succ, List.find?_cons] at hfd
    rw [u_X12_losesOn_9]
    unfold b_X12_losesOn_9
    rw [if_neg (show ¬ (512 : Int32) ≤ nI q from nI_ge (b := 512) (by omega) (by decide)), gR_t (ly_t230 hl), ly_r230_60 hl, aI_t (ly_t263 hl) (by omega) (by decide), hV.2.1.1 i hi, y_isOfferOf (by omega), cA_s, nI_1]
    cases hc : (tri q && inq (op i) q) with
    | false =>
      rw [← Bool.and_assoc, hc, Bool.false_and] at hfd
      rw [if_pos (by decide)]
      exact y_l9a hi hT hup k f (q + 1) lg M (by omega) (by omega) hb hV hlg hfd fr
    | true =>
      rw [← Bool.and_assoc, hc, Bool.true_and] at hfd
      rw [Bool.and_eq_true] at hc
      have hq' := tri_TQ (show q < 512 by omega) hc.1
      have hv := hup q hq' hc.2
      have cmp : nI (loP S R U (Q i) q) ≤ oI lg ↔ ∃ l, lg = some l ∧ loP S R U (Q i) q ≤ l := by
        cases lg with
        | none => exact ⟨fun z => ((le_m1 (by omega)).mp z).elim, fun ⟨l, z, _⟩ => by cases z⟩
        | some l =>
          have := hlg l rfl
          rw [oI_s, nI_leI (by omega) (by omega)]
          exact ⟨fun z => ⟨l, rfl, z⟩, fun ⟨l', z, y⟩ => by cases z; exact y⟩
      rw [if_neg (by decide), n64, n8, n8, n8, cR_t (ly_t230 hl), d2, d1, d3, d4, y_loP hb hV hi hq' hc.2, cA_s]
      by_cases z : loP S R U (Q i) q = T
      · rw [beq_iff_eq.mpr z] at hfd
        obtain rfl : q = q0 := Option.some.inj hfd
        rw [if_neg (fun t => by obtain ⟨l, l1, l2⟩ := cmp.mp t; have := hlg l l1; omega), pI_t (ly_t230 hl), z]
        refine ⟨sI M 230 66 (nI q), ?_, fr.tr (fw _), mI_e⟩
        exact y_l9b hi hT (hb.fx (fw _) (by decide) (by decide)) (hV.fl (fw _)) hup k f (q + 1) (by omega) (by omega)
      · rw [beq_eq_false_iff_ne.mpr z] at hfd
        by_cases y : nI (loP S R U (Q i) q) ≤ oI lg
        · rw [if_pos y]
          exact y_l9a hi hT hup k f (q + 1) lg M (by omega) (by omega) hb hV hlg hfd fr
        · rw [if_neg y, pI_t (ly_t230 hl)]
          exact y_l9a hi hT hup k f (q + 1) (some (loP S R U (Q i) q)) _ (by omega) (by omega) (hb.fx (fw _) (by decide) (by decide)) (hV.fl (fw _)) (fun l e => by cases e; omega) hfd (fr.tr (fw _))
theorem y_losesOn {i : Nat} {M : Mem} (hb : Bs w h L nt τ M) (hV : VlM O S Q n op tg R U M) (hi : i < n) (hf : LnF O S R U (Q i)) (hr1 : R (Q i) = 2) : ∃ M', f_X12_losesOn (some 230) (nI i) M = some ((), M') ∧ Fx [] lnF3 M M' ∧ LnM O S R U (Q i) M' := by
  have fw : Fx [] lnF3 M (sI M 230 66 m1) := Fx.wI (Or.inr (by decide))
  have hb1 := hb.fx fw (by decide) (by decide)
  have hV1 := hV.fl fw
  have hU1 := hf.1
  have hU2 := hV.2.2.2.2.2 (Q i)
  have hof : ∀ q, ofP S R U (Q i) q = loP S R U (Q i) q := fun q => by unfold ofP; rw [if_neg (by omega)]
  have hup : ∀ q, q ∈ TQ → inq (op i) q = true → loP S R U (Q i) q ≤ U (Q i) - 1 := by
    intro q hq hc
    rcases hf.2.2 with ⟨z, -⟩ | ⟨-, hlo⟩
    · omega
    · rw [← hof]; exact hlo q hq (by rw [← hV.1.1 i hi]; exact hc)
  have hfd : (List.range' 0 512).find? (fun q => tri q && (inq (op i) q && (loP S R U (Q i) q == U (Q i) - 1))) = some (lnQ O S R U (Q i)) := by
    rw [← find_fl, ← lnQ_s hf]
    refine fnd_congr _ (fun q hq => ?_)
    rw [hV.1.1 i hi, hof]
  obtain ⟨M1, a1, a2, a3⟩ := y_l9a (M0 := M) hi (by omega) hup 512 FU 0 none _ (by omega) (by decide) hb1 hV1 (fun l z => by cases z) hfd fw
  obtain ⟨M2, b1, b2, b3⟩ := y_l78a (hb.fx a2 (by decide) (by decide)) (hV.fl a2) hi hf hr1 a3
  refine ⟨M2, ?_, a2.tr b2, b3⟩
  unfold f_X12_losesOn
  rw [pI_t (ly_t230 hb.lay)]
  exact Eq.trans a1 b1
theorem y_li_l {v j : Nat} (hv : v < 5) (hj : j < 2 ^ 31) (hC : LnC O S R U Q n) (hZ : ∀ i, i < n → R (Q i) ≠ 0 → (U (Q i) = 0 ↔ any8 (O (Q i)) = false)) {M0 : Mem} : ∀ (u k f p i : Nat) (M : Mem), p + k = j → U (Q i) ≤ u → u + 1 < f → p < 3000 → p + u < 3000 → i < n → Bs w h L nt τ M → VlM O S Q n op tg R U M → Fx [] lnF3 M0 M → ∃ M', f_X12_line_30 f (some 230) (nI j) (nI v) (nI i) (nI p) M = some (if R (Q i) ≠ 0 ∧ k < U (Q i) then nI (lnA O S R U v k (Q i)) else -1, M') ∧ Fx [] lnF3 M0 M'
  | u, k, 0, p, i, M => fun _ _ z => absurd z (by omega)
  | u, k, f + 1, p, i, M => by
    intro hp hu hf hp3 hp4 hi hb hV fr
    have hl := hb.lay
    have hn := hV.2.2.2.1
    have r2 := hV.2.2.2.2.1 (Q i)
    have u2 := hV.2.2.2.2.2 (Q i)
    have g1 : mI M 265 i = nI (R (Q i)) := (hV.2.2.1 i hi).1
    rw [u_X12_line_30]
    unfold b_X12_line_30
    rw [if_neg (nI_nlt (by omega) (by omega)), gR_t (ly_t230 hl), ly_r230_62 hl, aI_t (ly_t265 hl) (by omega) (by decide), g1]
    by_cases hr : R (Q i) = 0
    · refine ⟨M, ?_, fr⟩
      rw [if_pos (show nI (R (Q i)) = 0 by rw [hr]; rfl), if_neg (fun z => z.1 hr)]
    · rw [if_neg (ne_0 (by omega) hr), gR_t (ly_t230 hl), ly_r230_60 hl, aI_t (ly_t263 hl) (by omega) (by decide), hV.2.1.1 i hi]
      by_cases hz : U (Q i) = 0
      · refine ⟨M, ?_, fr⟩
        rw [if_pos (bS_z.mpr (by rw [hV.1.1 i hi]; exact (hZ i hi hr).mp hz)), if_neg (show ¬ (R (Q i) ≠ 0 ∧ k < U (Q i)) from fun t => by omega)]
      · have hf' := hC i hi hr (by omega)
        rw [if_neg (fun t => hz ((hZ i hi hr).mpr (by rw [← hV.1.1 i hi]; exact bS_z.mp t))), gR_t (ly_t230 hl), ly_r230_62 hl, aI_t (ly_t265 hl) (by omega) (by decide), g1]
        obtain ⟨q, no, dn, e1, e2, e3, a1, a2, a3, a4, a5, a6, a7, a8⟩ := ln_all hf' u2
        obtain ⟨hq1, hq2⟩ := TQ_tri q a1
        have ho : inq (op i) q = true := by rw [hV.1.1 i hi]; exact a2
        obtain ⟨o1, o2, o3, o4, o5, o6, o7⟩ := ot_ne a1 a4
        obtain ⟨p1, p2, p3⟩ := o7 _ ho
        have hT : opT op i no dn dn := by
          rcases a6 with z | z
          · rw [z]; exact ⟨o1, o2, o2, o4, o4, p1, p2, p2⟩
          · rw [z]; exact ⟨o1, o3, o3, o5, o5, p1, p3, p3⟩
        -- behind one ply
        have go : ∀ M1, Fx [] lnF3 M M1 → LnM O S R U (Q i) M1 → ∃ M', f_X12_line_79 (f_X12_line_30 f) (some 230) (nI j) (nI v) (nI i) (nI p) M1 = some (if R (Q i) ≠ 0 ∧ k < U (Q i) then nI (lnA O S R U v k (Q i)) else -1, M') ∧ Fx [] lnF3 M0 M' := by
          intro M1 f1 hM1
          have hb1 := hb.fx f1 (by decide) (by decide)
          have hl1 := hb1.lay
          have hV1 := hV.fl f1
          obtain ⟨m1', m2', m3'⟩ := hM1
          rw [← e1] at m1' m2' m3'
          rw [← e2] at m2' m3'
          rw [← e3] at m3'
          unfold f_X12_line_79
          match k, hp with
          | 0, hp =>
            obtain rfl : p = j := by omega
            refine ⟨M1, ?_, fr.tr f1⟩
            rw [if_pos (Int32.le_refl _), nI_1, if_pos (show R (Q i) ≠ 0 ∧ 0 < U (Q i) from ⟨hr, by omega⟩)]
            obtain ⟨f', rfl⟩ : ∃ f', f = f' + 1 := ⟨f - 1, by omega⟩
            rw [u_X12_line_30]
            unfold b_X12_line_30
            rw [if_pos (nI_lt (by omega) (by omega))]
            show _ = some (nI (lnT O S R U (Q i) v), M1)
            unfold lnT
            rw [← e1, ← e2, ← e3]
            rcases (show v = 0 ∨ v = 1 ∨ v = 2 ∨ v = 3 ∨ v = 4 by omega) with rfl | rfl | rfl | rfl | rfl
            · rw [if_neg (by decide), gI_t (ly_t230 hl1), m1', y_partOf hq1 (by decide), cA_s]; rfl
            · rw [if_neg (by decide), gI_t (ly_t230 hl1), m1', y_partOf hq1 (by decide), cA_s]; rfl
            · rw [if_neg (by decide), gI_t (ly_t230 hl1), m1', y_partOf hq1 (by decide), cA_s]; rfl
            · rw [if_pos (by decide), if_pos (by decide), gI_t (ly_t230 hl1), m2']; rfl
            · rw [if_pos (by decide), if_neg (by decide), gI_t (ly_t230 hl1), m3']; rfl
          | k + 1, hp =>
            obtain ⟨s1, -⟩ := hT.s hV hi
            obtain ⟨x1, x2⟩ := (hV1.2.1.2 (64 * i + 8 * no + dn) (by have := hT.2.1; omega)).1 hT.v.1
            have hd8 := hT.2.1
            match u, hu, hf, hp4 with
            | 0, hu, _, _ => exact absurd hu (by omega)
            | u + 1, hu, hf, hp4 =>
            obtain ⟨M', z1, z2⟩ := y_li_l hv hj hC hZ u k f (p + 1) (tg (64 * i + 8 * no + dn)) M1 (by omega) (by rw [s1, a8]; omega) (by omega) (by omega) (by omega) x1 hb1 hV1 (fr.tr f1)
            refine ⟨M', ?_, z2⟩
            rw [if_neg (nI_ge (by omega) (by omega)), gR_t (ly_t230 hl1), ly_r230_61 hl1, gI_t (ly_t230 hl1), m2', gI_t (ly_t230 hl1), m3', e_64, aI_t (ly_t264 hl1) (by omega) (by decide), x2, nI_1, z1, s1]
            congr 2
            have hnx : lnS1 O S R U (Q i) = S (Q i) no dn := by unfold lnS1; rw [← e1, ← e2, ← e3]
            by_cases y : k + 1 < U (Q i)
            · rw [if_pos (show R (S (Q i) no dn) ≠ 0 ∧ k < U (S (Q i) no dn) from ⟨by omega, by omega⟩), if_pos (show R (Q i) ≠ 0 ∧ k + 1 < U (Q i) from ⟨hr, y⟩)]
              show _ = nI (lnA O S R U v k (lnS1 O S R U (Q i)))
              rw [hnx]
            · rw [if_neg (show ¬ (R (S (Q i) no dn) ≠ 0 ∧ k < U (S (Q i) no dn)) from fun t => by omega), if_neg (show ¬ (R (Q i) ≠ 0 ∧ k + 1 < U (Q i)) from fun t => y t.2)]
        by_cases h1 : R (Q i) = 1
        · obtain ⟨M1, b1, b2, b3⟩ := y_winsOn hb hV hi hf' h1
          rw [if_pos (show nI (R (Q i)) = 1 by rw [h1]; rfl), cR_t (ly_t230 hl), b1, cA_s]
          exact go M1 b2 b3
        · obtain ⟨M1, b1, b2, b3⟩ := y_losesOn hb hV hi hf' (by omega)
          rw [if_neg (ne_1 (by omega) h1), cR_t (ly_t230 hl), b1, cA_s]
          exact go M1 b2 b3
end CLINE
