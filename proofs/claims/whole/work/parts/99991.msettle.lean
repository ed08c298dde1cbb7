/-! ===== the reference settles ===== -/
section MSETTLE
variable {w h L nt : Nat} {τ : Nat → Txt} {n : Nat} {op : Nat → Chi} {tg rr tm : Nat → Nat} {M : Mem}
def wiQ (rr tm tg : Nat → Nat) (i t q : Nat) : Bool := decide (wiN rr tm tg i (qx q) (qy q) (qz q) < t)
def loQ (rr tm tg : Nat → Nat) (i t q : Nat) : Bool := decide (loN rr tm tg i (qx q) (qy q) (qz q) < t)
theorem op3_q {i q : Nat} (h1 : q < 512) (h2 : tri q = true) (h3 : inq (op i) q = true) : op3 op i (qx q) (qy q) (qz q) := by
  obtain ⟨t1, t2, t3⟩ := tri_lt h2 h1
  unfold inq at h3
  simp only [Bool.and_eq_true] at h3
  exact ⟨by omega, by omega, t3, by omega, by omega, by omega, h3.1.1, h3.1.2, h3.2⟩
/-- what settles leaves -/
def stl (i t : Nat) (wi lo : Bool) (M : Mem) : Option (Int32 × Mem) := if wi = true then some (1, sI (sI M 266 i (nI t)) 268 i (nI 1)) else if lo = true then some (1, sI (sI M 266 i (nI t)) 268 i (nI 2)) else some (0, M)
theorem y_settles_l {i t : Nat} (hb : Bs w h L nt τ M) (hF : FoM n op tg M) (hR : RsM n rr tm M) (hn : n ≤ 2000) (hi : i < n) (ht : t < 100000) : ∀ (k f q : Nat) (wi lo : Bool), q + k = 512 → k < f → f_X12_settles_16 f (some 230) (nI i) (nI t) (nI (bS (op i) 8)) (nI wi.toNat) (nI lo.toNat) (nI q) M = stl i t (wi || (List.range' q k).any (fun q => (tri q && inq (op i) q) && wiQ rr tm tg i t q)) (lo && (List.range' q k).all (fun q => !(tri q && inq (op i) q) || loQ rr tm tg i t q)) M
  | k, 0, q, wi, lo => fun _ z => absurd z (by omega)
  | 0, f + 1, q, wi, lo => by
    intro hq _
    obtain rfl : q = 512 := by omega
    have hl := hb.lay
    have f1 : Fx [266] [] M (sI M 266 i (nI t)) := Fx.wI (Or.inl (by decide))
    have hl1 := (hb.fx f1 (by decide) (by decide)).lay
    rw [u_X12_settles_16]
    unfold b_X12_settles_16 stl f_X12_settles_134
    rw [if_pos (by decide)]
    cases wi with
    | true =>
      rw [if_neg (by decide), gR_t (ly_t230 hl), ly_r230_63 hl, wI_t (ly_t266 hl) (by omega) (by decide), if_neg (by decide), gR_t (ly_t230 hl1), ly_r230_65 hl1, wI_t (ly_t268 hl1) (by omega) (by decide), if_neg (by decide), tv_1]
      rfl
    | false =>
      cases lo with
      | true =>
        rw [if_pos (by decide), if_neg (by decide), gR_t (ly_t230 hl), ly_r230_63 hl, wI_t (ly_t266 hl) (by omega) (by decide), if_pos (by decide), if_neg (by decide), gR_t (ly_t230 hl1), ly_r230_65 hl1, wI_t (ly_t268 hl1) (by omega) (by decide), if_pos (by decide), if_neg (by decide), tv_1]
        rfl
      | false =>
        rw [if_pos (by decide), if_pos (by decide), if_pos (by decide), if_pos (by decide), if_pos (by decide), if_pos (by decide), tv_0]
        rfl
  | k + 1, f + 1, q, wi, lo => by
    intro hq hf
    have hl := hb.lay
    have n64 : ∀ {X : Option (Int32 × Mem)}, nzI (64 : Int32) X = X := nz_y (y := 64) (by decide)
    have n8 : ∀ {X : Option (Int32 × Mem)}, nzI (8 : Int32) X = X := nz_y (y := 8) (by decide)
    have d1 : nI q / (64 : Int32) = nI (qx q) := pk_div (d := 64) (by omega) (by decide) (by decide)
    have d2 : nI q / (8 : Int32) = nI (q / 8) := pk_div (d := 8) (by omega) (by decide) (by decide)
    have d3 : nI (q / 8) - nI (q / 8) / (8 : Int32) * (8 : Int32) = nI (qy q) := pk_rem (d := 8) (by omega) (by decide) (by decide)
    have d4 : nI q - nI (q / 8) * (8 : Int32) = nI (qz q) := nI_remN (d := 8) (by omega) (by decide) (by decide)
    have ih := fun wi lo => y_settles_l hb hF hR hn hi ht k f (q + 1) wi lo (by omega) (by omega)
    rw [u_X12_settles_16, List.range'_succ, List.any_cons, List.all_cons]
    unfold b_X12_settles_16
    rw [if_neg (show ¬ (512 : Int32) ≤ nI q from nI_ge (b := 512) (by omega) (by decide)), y_isOfferOf (by omega), cA_s, nI_1]
    cases hc : (tri q && inq (op i) q) with
    | false =>
      rw [if_pos (show nI false.toNat = 0 by decide), ih]
      simp
    | true =>
      rw [Bool.and_eq_true] at hc
      have ho := op3_q (by omega) hc.1 hc.2
      have hlow : loN rr tm tg i (qx q) (qy q) (qz q) ≤ 100000 := by
        obtain ⟨⟨v1, v2⟩, -⟩ := ho.v
        have o1 := ho.1
        have o2 := ho.2.1
        have o3 := ho.2.2.1
        have := wbN_le (hR.le hF (by omega) v1) (hR.le hF (by omega) v2)
        unfold loN
        omega
      have hwiw : wiN rr tm tg i (qx q) (qy q) (qz q) ≤ 100000 := by
        obtain ⟨⟨v1, v2⟩, ⟨v3, v4⟩, v5, v6⟩ := ho.v
        have o1 := ho.1
        have o2 := ho.2.1
        have o3 := ho.2.2.1
        have := lbN_le (hR.le hF (by omega) v1) (hR.le hF (by omega) v2)
        have := lbN_le (hR.le hF (by omega) v3) (hR.le hF (by omega) v4)
        have := lbN_le (hR.le hF (by omega) v5) (hR.le hF (by omega) v6)
        unfold wiN
        omega
      have s70 : ∀ wi : Bool, f_X12_settles_70 (f_X12_settles_16 f) (some 230) (nI i) (nI t) (nI (bS (op i) 8)) (nI lo.toNat) (nI q) (nI wi.toNat) M = stl i t (wi || (List.range' (q + 1) k).any (fun q => (tri q && inq (op i) q) && wiQ rr tm tg i t q)) (lo && (loQ rr tm tg i t q && (List.range' (q + 1) k).all (fun q => !(tri q && inq (op i) q) || loQ rr tm tg i t q))) M := by
        intro wi
        unfold f_X12_settles_70
        cases lo with
        | false =>
          rw [if_pos (by decide), nI_1]
          have := ih wi false
          rw [Bool.false_and] at this ⊢
          exact this
        | true =>
          rw [if_neg (by decide), n64, n8, n8, n8, cR_t (ly_t230 hl), d2, d1, d3, d4, y_losesBy hb hF hR hn hi ho, cA_s, nI_1, Bool.true_and]
          unfold loQ
          by_cases z : loN rr tm tg i (qx q) (qy q) (qz q) < t
          · rw [if_neg (nI_ge z (by omega)), decide_eq_true z, Bool.true_and]
            have := ih wi true
            rw [Bool.true_and] at this
            exact this
          · rw [if_pos (nI_le (by omega) (by omega)), decide_eq_false z, Bool.false_and]
            have := ih wi false
            rw [Bool.false_and] at this
            exact this
      rw [if_neg (show ¬ nI true.toNat = 0 by decide), Bool.true_and, Bool.not_true, Bool.false_or]
      cases wi with
      | true =>
        rw [if_neg (by decide), Bool.true_or]
        have := s70 true
        rw [Bool.true_or] at this
        exact this
      | false =>
        rw [if_pos (by decide), n64, n8, n8, n8, cR_t (ly_t230 hl), d2, d1, d3, d4, y_winsBy hb hF hR hn hi ho, cA_s, Bool.false_or]
        by_cases z : wiN rr tm tg i (qx q) (qy q) (qz q) < t
        · rw [if_neg (nI_ge z (by omega)), show wiQ rr tm tg i t q = true from decide_eq_true z, Bool.true_or]
          have := s70 true
          rw [Bool.true_or] at this
          exact this
        · rw [if_pos (nI_le (by omega) (by omega)), show wiQ rr tm tg i t q = false from decide_eq_false z, Bool.false_or]
          have := s70 false
          rw [Bool.false_or] at this
          exact this
theorem any_TQ {χ : Chi} {p : Nat → Bool} : (List.range' 0 512).any (fun q => (tri q && inq χ q) && p q) = TQ.any (fun q => inq χ q && p q) := by
  unfold TQ
  rw [List.any_filter]
  congr 1
  funext q
  rw [Bool.and_assoc]
theorem all_TQ {χ : Chi} {p : Nat → Bool} : (List.range' 0 512).all (fun q => !(tri q && inq χ q) || p q) = TQ.all (fun q => !inq χ q || p q) := by
  unfold TQ
  rw [List.all_filter]
  congr 1
  funext q
  cases tri q <;> rfl
theorem y_settles {i t : Nat} (hb : Bs w h L nt τ M) (hF : FoM n op tg M) (hR : RsM n rr tm M) (hn : n ≤ 2000) (hi : i < n) (ht : t < 100000) : f_X12_settles (some 230) (nI i) (nI t) M = stl i t (TQ.any (fun q => inq (op i) q && wiQ rr tm tg i t q)) (TQ.all (fun q => !inq (op i) q || loQ rr tm tg i t q)) M := by
  have hl := hb.lay
  unfold f_X12_settles
  rw [gR_t (ly_t230 hl), ly_r230_60 hl, aI_t (ly_t263 hl) (by omega) (by decide), hF.1 i hi]
  have := y_settles_l hb hF hR hn hi ht 512 FU 0 false true (by omega) (by decide)
  rw [Bool.false_or, Bool.true_and, any_TQ, all_TQ] at this
  exact this
/-- what settles says, by who has won and lost before -/
theorem wi_wn {O : Pos → Chi} {S : Pos → Nat → Nat → Pos} {Q : Nat → Pos} {v : Pos → Nat} {i B q : Nat} (hG : Grf O S Q n op tg) (hi : i < n) (hB : B ≤ 100000) (hv : ∀ j, j < n → rr j = v (Q j)) (hT : ∀ j, j < n → rr j ≠ 0 → tm j < B) (hq : q ∈ TQ) (ho : inq (op i) q = true) : wnS (fun _ => ldS O S v 2 (Q i)) 0 q = wiQ rr tm tg i B q ∧ gnS (fun _ => ldS O S v 1 (Q i)) 0 q = loQ rr tm tg i B q := by
  obtain ⟨hq1, hq2⟩ := TQ_tri q hq
  have h3 := op3_q (op := op) (i := i) hq1 hq2 ho
  obtain ⟨o1, o2, o3, o4, o5, o6, o7, o8, o9⟩ := id h3
  have hop := hG.1 i hi
  have egk : ∀ a b, a < 8 → b < 8 → a ≠ b → op i a = true → op i b = true → eg (O (Q i)) a b = true := fun a b _ _ h3 h4 h5 => by
    rw [← hop]
    unfold eg
    rw [h4, h5]
    simp [h3]
  have ld : ∀ k a b, a < 8 → b < 8 → a ≠ b → op i a = true → op i b = true → (ldS O S v k (Q i) a b = true ↔ rr (tg (64 * i + 8 * a + b)) = k) ∧ (rr (tg (64 * i + 8 * a + b)) ≠ 0 → tm (tg (64 * i + 8 * a + b)) < B) := by
    intro k a b h1 h2 h3 h4 h5
    have e := egk a b h1 h2 h3 h4 h5
    obtain ⟨-, g1, g2⟩ := hG.ex hi h1 h2 e
    refine ⟨?_, hT _ g1⟩
    unfold ldS
    rw [e, Bool.true_and, hv _ g1, g2]
    simp
  obtain ⟨a1, b1⟩ := ld 2 _ _ o1 o2 o4 o7 o8
  obtain ⟨a2, b2⟩ := ld 2 _ _ o1 o3 o5 o7 o9
  obtain ⟨a3, b3⟩ := ld 2 _ _ o2 o1 o4.symm o8 o7
  obtain ⟨a4, b4⟩ := ld 2 _ _ o2 o3 o6 o8 o9
  obtain ⟨a5, b5⟩ := ld 2 _ _ o3 o1 o5.symm o9 o7
  obtain ⟨a6, b6⟩ := ld 2 _ _ o3 o2 o6.symm o9 o8
  have c1 := (ld 1 _ _ o1 o2 o4 o7 o8).1
  have c2 := (ld 1 _ _ o1 o3 o5 o7 o9).1
  have c3 := (ld 1 _ _ o2 o1 o4.symm o8 o7).1
  have c4 := (ld 1 _ _ o2 o3 o6 o8 o9).1
  have c5 := (ld 1 _ _ o3 o1 o5.symm o9 o7).1
  have c6 := (ld 1 _ _ o3 o2 o6.symm o9 o8).1
  constructor
  · rw [wn_tri hq (fun m => by unfold ldS eg; simp), Bool.eq_iff_iff]
    unfold wiQ wiN
    simp only [Bool.and_eq_true, Bool.or_eq_true, decide_eq_true_eq, a1, a2, a3, a4, a5, a6]
    rw [← lbN_lt hB b1 b2, ← lbN_lt hB b3 b4, ← lbN_lt hB b5 b6]
    omega
  · rw [gn_tri hq, Bool.eq_iff_iff]
    unfold loQ loN
    simp only [Bool.and_eq_true, Bool.or_eq_true, decide_eq_true_eq, c1, c2, c3, c4, c5, c6]
    rw [← wbN_lt hB b1 b2, ← wbN_lt hB b3 b4, ← wbN_lt hB b5 b6]
    omega
theorem stl_dc {O : Pos → Chi} {S : Pos → Nat → Nat → Pos} {Q : Nat → Pos} {v : Pos → Nat} {i B : Nat} (hG : Grf O S Q n op tg) (hi : i < n) (hB : B ≤ 100000) (hv : ∀ j, j < n → rr j = v (Q j)) (hT : ∀ j, j < n → rr j ≠ 0 → tm j < B) : dcP (O (Q i)) (ldS O S v 1 (Q i)) (ldS O S v 2 (Q i)) = if TQ.any (fun q => inq (op i) q && wiQ rr tm tg i B q) = true then 1 else if TQ.all (fun q => !inq (op i) q || loQ rr tm tg i B q) = true then 2 else 0 := by
  rw [dcP_eq, ← hG.1 i hi]
  have e1 : TQ.any (fun q => inq (op i) q && wnS (fun _ => ldS O S v 2 (Q i)) 0 q) = TQ.any (fun q => inq (op i) q && wiQ rr tm tg i B q) := by
    rw [Bool.eq_iff_iff, List.any_eq_true, List.any_eq_true]
    constructor
    · rintro ⟨q, hq, z⟩
      rw [Bool.and_eq_true] at z
      exact ⟨q, hq, by rw [z.1, ← (wi_wn hG hi hB hv hT hq z.1).1, z.2]; rfl⟩
    · rintro ⟨q, hq, z⟩
      rw [Bool.and_eq_true] at z
      exact ⟨q, hq, by rw [z.1, (wi_wn hG hi hB hv hT hq z.1).1, z.2]; rfl⟩
  have e2 : TQ.all (fun q => !inq (op i) q || gnS (fun _ => ldS O S v 1 (Q i)) 0 q) = TQ.all (fun q => !inq (op i) q || loQ rr tm tg i B q) := by
    rw [Bool.eq_iff_iff, List.all_eq_true, List.all_eq_true]
    constructor
    · intro z q hq
      have := z q hq
      cases hc : inq (op i) q with
      | false => rfl
      | true => rw [hc, (wi_wn hG hi hB hv hT hq hc).2] at this; exact this
    · intro z q hq
      have := z q hq
      cases hc : inq (op i) q with
      | false => rfl
      | true => rw [hc, ← (wi_wn hG hi hB hv hT hq hc).2] at this; exact this
  rw [e1, e2]
end MSETTLE
