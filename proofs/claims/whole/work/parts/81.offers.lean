/-! ===== the offers in their order ===== -/
theorem TQ_mem {i : Nat} (hi : i < 56) : TQ.getD i 0 ∈ TQ := by
  have h : i < TQ.length := by rw [TQ_len]; exact hi
  rw [List.getD_eq_getElem?_getD, List.getElem?_eq_getElem h, Option.getD_some]
  exact List.getElem_mem _
theorem nthP_past {p : Nat → Bool} : ∀ (l : List Nat) (fd k : Nat), k < fd → fd + l.length < 2 ^ 31 → nthP p l fd (nI k) = none
  | [], _, _, _, _ => rfl
  | q :: l, fd, k, h1, h2 => by
    simp only [List.length_cons] at h2
    cases hp : p q with
    | false => rw [nthP_n hp]; exact nthP_past l fd k h1 (by omega)
    | true => rw [nthP_y hp, if_neg (nIne (by omega) (by omega) (by omega))]; exact nthP_past l (fd + 1) k (by omega) (by omega)
def mem3 : List Nat := List.range' 0 8
theorem TQ_m0 : ∀ q ∈ TQ, nthP (tch q) mem3 0 (nI 0) = some (qx q) ∧ nthP (tch q) mem3 0 (nI 1) = some (qy q) ∧ nthP (tch q) mem3 0 (nI 2) = some (qz q) := by decide +kernel
theorem x_member_l {ψ : Chi} {v : Int32} {M : Mem} : ∀ (k n m fd : Nat), m + k = 8 → k < n → f_X10_member_4 n (nI (bS ψ 8)) v (nI fd) (nI m) M = some (nI ((nthP ψ (List.range' m k) fd v).getD 0), M)
  | k, 0, m, fd, _, hn => absurd hn (by omega)
  | 0, n + 1, m, fd, hm, _ => by
    obtain rfl : m = 8 := by omega
    rw [u_X10_member_4]
    unfold b_X10_member_4
    rw [if_pos (by decide)]
    rfl
  | k + 1, n + 1, m, fd, hm, hn => by
    rw [u_X10_member_4, List.range'_succ]
    unfold b_X10_member_4
    rw [if_neg (show ¬ (8 : Int32) ≤ nI m from nI_ge (b := 8) (by omega) (by decide))]
    cases hp : ψ m with
    | false => rw [if_pos ((bS_in (by decide) (by omega)).mpr hp), nI_1, nthP_n hp]; exact x_member_l k n (m + 1) fd (by omega) (by omega)
    | true =>
      rw [if_neg (fun z => by rw [bS_in (by decide) (by omega), hp] at z; cases z), nthP_y hp]
      by_cases hv : nI fd = v
      · rw [if_pos hv, if_pos hv]; rfl
      · rw [if_neg hv, if_neg hv, nI_1, nI_1]; exact x_member_l k n (m + 1) (fd + 1) (by omega) (by omega)
theorem x_member {ψ : Chi} {v : Int32} {M : Mem} : f_X10_member (nI (bS ψ 8)) v M = some (nI ((nthP ψ mem3 0 v).getD 0), M) := x_member_l 8 FU 0 0 (by omega) (by decide)
theorem x_member3 {q : Nat} {M : Mem} (hq : q ∈ TQ) : f_X10_member (nI (bS (tch q) 8)) 0 M = some (nI (qx q), M) ∧ f_X10_member (nI (bS (tch q) 8)) 1 M = some (nI (qy q), M) ∧ f_X10_member (nI (bS (tch q) 8)) 2 M = some (nI (qz q), M) := by
  obtain ⟨h0, h1, h2⟩ := TQ_m0 q hq
  refine ⟨?_, ?_, ?_⟩
  · rw [x_member, show (0 : Int32) = nI 0 from rfl, h0]; rfl
  · rw [x_member, show (1 : Int32) = nI 1 from rfl, h1]; rfl
  · rw [x_member, show (2 : Int32) = nI 2 from rfl, h2]; rfl
theorem tch_ne {q : Nat} (hq : q ∈ TQ) : ¬ nI (bS (tch q) 8) = 0 := by
  have h := TQ_tri q hq
  have hx : qx q < 8 := by have := h.1; unfold qx; omega
  intro e
  have e' : nI (bS (tch q) 8) = nI (bS (fun _ => false) 8) := by rw [e, bS_0]; rfl
  have := (bS_eqN (by decide)).mp e' _ hx
  simp [tch] at this
theorem x_asTold {q : Nat} {M : Mem} (hq : q ∈ TQ) : f_X10_asTold (nI (bS (tch q) 8)) M = some (nI (told3 q), M) := by
  obtain ⟨h0, h1, h2⟩ := x_member3 (M := M) hq
  unfold f_X10_asTold
  rw [if_neg (tch_ne hq), h0, cA_s, h1, cA_s, h2, cA_s, show (100 : Int32) = nI 100 from rfl, show (10 : Int32) = nI 10 from rfl, pk_mul, pk_mul, nI_add, nI_add]
  rfl
section OFF
variable {w h L nt : Nat} {τ : Nat → Txt} {π : Pos} {M : Mem}
theorem bits_at {i : Nat} (hb : Bs w h L nt τ M) (hi : i < 56) : mI M 46 i = nI (bS (tch (TQ.getD i 0)) 8) := by
  rw [hb.dim.2.2.2.2.2.2.2 i hi, TQ_tr i hi]
theorem x_count_l {χ : Chi} (hb : Bs w h L nt τ M) : ∀ (k n i fd : Nat), i + k = 56 → k < n → f_X10_count_4 n (some 45) (nI (bS χ 8)) (nI fd) (nI i) M = some (nI (fd + (TQ.drop i).countP (inq χ)), M)
  | k, 0, i, fd, _, hn => absurd hn (by omega)
  | 0, n + 1, i, fd, hi, _ => by
    obtain rfl : i = 56 := by omega
    rw [u_X10_count_4]
    unfold b_X10_count_4
    rw [if_pos (by decide), List.drop_of_length_le (by rw [TQ_len]; omega)]
    rfl
  | k + 1, n + 1, i, fd, hi, hn => by
    have hl := hb.lay
    have hq := TQ_tri _ (TQ_mem (show i < 56 by omega))
    rw [u_X10_count_4, TQ_drop (by omega)]
    unfold b_X10_count_4
    rw [if_neg (show ¬ (56 : Int32) ≤ nI i from nI_ge (b := 56) (by omega) (by decide)), gR_t (ly_t45 hl), ly_r45_0 hl, aI_t (ly_t46 hl) (by omega) (by decide), gR_t (ly_t45 hl), ly_r45_0 hl, aI_t (ly_t46 hl) (by omega) (by decide), bits_at hb (by omega)]
    by_cases hc : inq χ (TQ.getD i 0) = true
    · rw [if_pos ((tch_sub hq.1).mpr hc), nI_1, nI_1, x_count_l hb k n (i + 1) (fd + 1) (by omega) (by omega), List.countP_cons_of_pos hc]
      congr 3
      omega
    · rw [if_neg (fun z => hc ((tch_sub hq.1).mp z)), nI_1, x_count_l hb k n (i + 1) fd (by omega) (by omega), List.countP_cons_of_neg hc]
theorem x_count3 {χ : Chi} (hb : Bs w h L nt τ M) : f_X10_count (some 45) (nI (bS χ 8)) M = some (nI (TQ.countP (inq χ)), M) := by
  have := x_count_l (χ := χ) hb 56 FU 0 0 (by omega) (by decide)
  rw [List.drop_zero, Nat.zero_add] at this
  exact this
def bitsO (o : Option Nat) : Int32 := match o with
  | none => 0
  | some q => nI (bS (tch q) 8)
theorem x_nth_l {χ : Chi} {v : Int32} (hb : Bs w h L nt τ M) : ∀ (k n i fd : Nat), i + k = 56 → k < n → f_X10_nth_5 n (some 45) (nI (bS χ 8)) v (nI fd) (nI i) M = some (bitsO (nthP (inq χ) (TQ.drop i) fd v), M)
  | k, 0, i, fd, _, hn => absurd hn (by omega)
  | 0, n + 1, i, fd, hi, _ => by
    obtain rfl : i = 56 := by omega
    rw [u_X10_nth_5]
    unfold b_X10_nth_5
    rw [if_pos (by decide), List.drop_of_length_le (by rw [TQ_len]; omega)]
    rfl
  | k + 1, n + 1, i, fd, hi, hn => by
    have hl := hb.lay
    have hq := TQ_tri _ (TQ_mem (show i < 56 by omega))
    rw [u_X10_nth_5, TQ_drop (by omega)]
    unfold b_X10_nth_5
    rw [if_neg (show ¬ (56 : Int32) ≤ nI i from nI_ge (b := 56) (by omega) (by decide)), gR_t (ly_t45 hl), ly_r45_0 hl, aI_t (ly_t46 hl) (by omega) (by decide), gR_t (ly_t45 hl), ly_r45_0 hl, aI_t (ly_t46 hl) (by omega) (by decide), bits_at hb (by omega)]
    by_cases hc : inq χ (TQ.getD i 0) = true
    · rw [if_pos ((tch_sub hq.1).mpr hc), nthP_y hc]
      by_cases hv : nI fd = v
      · rw [if_pos hv, if_pos hv, gR_t (ly_t45 hl), ly_r45_0 hl, aI_t (ly_t46 hl) (by omega) (by decide), bits_at hb (by omega)]; rfl
      · rw [if_neg hv, if_neg hv, nI_1, nI_1]; exact x_nth_l hb k n (i + 1) (fd + 1) (by omega) (by omega)
    · rw [if_neg (fun z => hc ((tch_sub hq.1).mp z)), nI_1, nthP_n (by cases z : inq χ (TQ.getD i 0); rfl; exact absurd z hc)]
      exact x_nth_l hb k n (i + 1) fd (by omega) (by omega)
theorem x_nth {χ : Chi} {v : Int32} (hb : Bs w h L nt τ M) : f_X10_nth (some 45) (nI (bS χ 8)) v M = some (bitsO (nthP (inq χ) TQ 0 v), M) := by
  have := x_nth_l (χ := χ) (v := v) hb 56 FU 0 0 (by omega) (by decide)
  rw [List.drop_zero] at this
  exact this
/-- what is told of the n-th -/
def toldO (o : Option Nat) : Int32 := oI (o.map told3)
theorem x_pick {χ : Chi} {v : Int32} (hb : Bs w h L nt τ M) : f_X10_pick (some 45) (nI (bS χ 8)) v M = some (if v = -1 then nI (TQ.countP (inq χ)) else toldO (nthP (inq χ) TQ 0 v), M) := by
  have hl := hb.lay
  unfold f_X10_pick
  by_cases hv : v = -1
  · rw [if_pos hv, if_pos hv, cR_t (ly_t45 hl), x_count3 hb, cA_s]
  · rw [if_neg hv, if_neg hv, cR_t (ly_t45 hl), x_nth hb, cA_s]
    cases hn : nthP (inq χ) TQ 0 v with
    | none =>
      unfold f_X10_asTold
      rw [show bitsO none = 0 from rfl, if_pos rfl, cA_s]
      rfl
    | some q =>
      have hq := (nthP_mem _ _ _ hn).1
      rw [show bitsO (some q) = nI (bS (tch q) 8) from rfl, x_asTold hq, cA_s]
      rfl
theorem y_offerAt_l {χ : Chi} {v : Int32} : ∀ (k n q fd : Nat) (r : Int32) (M : Mem), q + k = 512 → k < n → fd ≤ q → Bs w h L nt τ M → mI M 230 49 = nI (bS χ 8) → mI M 230 53 = nI fd → ∃ M', f_X12_offerAt_9 n (some 230) v r (nI q) M = some ((match nthP (fun q => tri q && inq χ q) (List.range' q k) fd v with | none => r | some q => nI (told3 q)), M') ∧ Fx [] [(230, 53)] M M' ∧ mI M' 230 53 = nI (fd + (List.range' q k).countP (fun q => tri q && inq χ q))
  | k, 0, q, fd, r, M => fun _ z => absurd z (by omega)
  | 0, n + 1, q, fd, r, M => by
    intro hq _ hfd hb h49 h53
    obtain rfl : q = 512 := by omega
    refine ⟨M, ?_, Fx.rf, h53⟩
    rw [u_X12_offerAt_9]
    unfold b_X12_offerAt_9
    rw [if_pos (by decide)]
    rfl
  | k + 1, n + 1, q, fd, r, M => by
    intro hq hn hfd hb h49 h53
    have hl := hb.lay
    rw [u_X12_offerAt_9, List.range'_succ]
    unfold b_X12_offerAt_9
    have n64 : ∀ {X : Option (Int32 × Mem)}, nzI (64 : Int32) X = X := nz_y (y := 64) (by decide)
    have n8 : ∀ {X : Option (Int32 × Mem)}, nzI (8 : Int32) X = X := nz_y (y := 8) (by decide)
    have d1 : nI q / (64 : Int32) = nI (qx q) := pk_div (d := 64) (by omega) (by decide) (by decide)
    have d2 : nI q / (8 : Int32) = nI (q / 8) := pk_div (d := 8) (by omega) (by decide) (by decide)
    have d3 : nI (q / 8) - nI (q / 8) / (8 : Int32) * (8 : Int32) = nI (qy q) := pk_rem (d := 8) (by omega) (by decide) (by decide)
    have d4 : nI q - nI (q / 8) * (8 : Int32) = nI (qz q) := nI_remN (d := 8) (by omega) (by decide) (by decide)
    have hx : qx q < 8 := by unfold qx; omega
    have hy : qy q < 8 := by unfold qy; omega
    have hz : qz q < 8 := by unfold qz; omega
    have hof : f_X12_isOffer (some 230) (nI (qx q)) (nI (qy q)) (nI (qz q)) M = some (if (tri q && inq χ q) = true then nI 1 else nI 0, M) := by
      by_cases ht : tri q = true
      · obtain ⟨t1, t2, t3⟩ := tri_lt ht (by omega)
        rw [y_isOffer hb h49 ⟨t1, t2, t3, rfl, rfl, rfl⟩]
        congr 2
        by_cases hc : inq χ q = true
        · have hc' := hc
          unfold inq at hc'
          simp only [Bool.and_eq_true] at hc'
          rw [if_pos ⟨hc'.1.1, hc'.1.2, hc'.2⟩, if_pos (by rw [ht, hc]; rfl)]
        · rw [if_neg (fun z => hc (by unfold inq; simp [z.1, z.2.1, z.2.2])), if_neg (fun z => hc (by simp only [Bool.and_eq_true] at z; exact z.2))]
      · rw [y_isOffer_n hb h49 (by
          rintro ⟨x, y, z, g1, g2, g3, e1, e2, e3⟩
          have k1 := (nI_eq (by omega) (by omega)).mp e1
          have k2 := (nI_eq (by omega) (by omega)).mp e2
          have k3 := (nI_eq (by omega) (by omega)).mp e3
          apply ht
          unfold tri
          simp only [Bool.and_eq_true, decide_eq_true_eq]
          omega), if_neg (fun z => ht (by simp only [Bool.and_eq_true] at z; exact z.1))]
    rw [if_neg (show ¬ (512 : Int32) ≤ nI q from nI_ge (b := 512) (by omega) (by decide)), n64, n8, n8, n8, cR_t (ly_t230 hl), d1, d2, d3, d4, hof, cA_s]
    by_cases hp : (tri q && inq χ q) = true
    · have fr : Fx [] [(230, 53)] M (sI M 230 53 (nI (fd + 1))) := Fx.wI (Or.inr (by decide))
      have hb1 := hb.fx fr (by decide) (by decide)
      have h491 : mI (sI M 230 53 (nI (fd + 1))) 230 49 = nI (bS χ 8) := by rw [mI_nk (by decide)]; exact h49
      rw [if_pos hp, if_neg (by decide), gI_t (ly_t230 hl), h53, nthP_y (p := fun q => tri q && inq χ q) hp, List.countP_cons_of_pos (p := fun q => tri q && inq χ q) hp, n64, n8, n8, n8, gI_t (ly_t230 hl), h53, pI_t (ly_t230 hl), nI_1, nI_1, show (100 : Int32) = nI 100 from rfl, show (10 : Int32) = nI 10 from rfl, pk_mul, pk_mul, nI_add, nI_add]
      by_cases hv : nI fd = v
      · rw [if_pos hv, if_pos hv]
        obtain ⟨M', z1, z2, z3⟩ := y_offerAt_l (v := v) k n (q + 1) (fd + 1) (nI (100 * qx q + 10 * qy q + qz q)) _ (by omega) (by omega) (by omega) hb1 h491 mI_e
        refine ⟨M', ?_, fr.tr z2, by rw [z3]; congr 1; omega⟩
        rw [z1]
        have hno : nthP (fun q => tri q && inq χ q) (List.range' (q + 1) k) (fd + 1) v = none := by
          rw [← hv]
          exact nthP_past _ _ _ (by omega) (by rw [List.length_range']; omega)
        rw [hno]
        rfl
      · rw [if_neg hv, if_neg hv]
        obtain ⟨M', z1, z2, z3⟩ := y_offerAt_l (v := v) k n (q + 1) (fd + 1) r _ (by omega) (by omega) (by omega) hb1 h491 mI_e
        rw [gI_t (ly_t230 hl), h53, pI_t (ly_t230 hl), nI_1]
        exact ⟨M', z1, fr.tr z2, by rw [z3]; congr 1; omega⟩
    · rw [if_neg hp, if_pos (by decide), nI_1, nthP_n (p := fun q => tri q && inq χ q) (by cases z : (tri q && inq χ q); rfl; exact absurd z hp), List.countP_cons_of_neg (p := fun q => tri q && inq χ q) hp]
      exact y_offerAt_l k n (q + 1) fd r M (by omega) (by omega) (by omega) hb h49 h53
theorem y_offerAt {χ : Chi} {v : Int32} (hb : Bs w h L nt τ M) (h49 : mI M 230 49 = nI (bS χ 8)) : ∃ M', f_X12_offerAt (some 230) v M = some (toldO (nthP (inq χ) TQ 0 v), M') ∧ Fx [] [(230, 53)] M M' ∧ mI M' 230 53 = nI (TQ.countP (inq χ)) := by
  have fr : Fx [] [(230, 53)] M (sI M 230 53 0) := Fx.wI (Or.inr (by decide))
  unfold f_X12_offerAt
  rw [pI_t (ly_t230 hb.lay)]
  obtain ⟨M', z1, z2, z3⟩ := y_offerAt_l (χ := χ) (v := v) 512 FU 0 0 (-1) (sI M 230 53 0) (by omega) (by decide) (by omega) (hb.fx fr (by decide) (by decide)) (by rw [mI_nk (by decide)]; exact h49) mI_e
  refine ⟨M', ?_, fr.tr z2, ?_⟩
  · refine Eq.trans z1 ?_
    have : nthP (inq χ) TQ 0 v = nthP (fun q => tri q && inq χ q) (List.range' 0 512) 0 v := nthP_filter _ _
    rw [this]
    cases nthP (fun q => tri q && inq χ q) (List.range' 0 512) 0 v with
    | none => rfl
    | some q => rfl
  · rw [z3, Nat.zero_add]
    unfold TQ
    rw [List.countP_filter]
    congr 1
    apply List.countP_congr
    intro q _
    rw [Bool.and_comm]
end OFF
