/-! ===== the reference: who is lost by whom ===== -/
theorem any8_t {f : Nat → Bool} : any8 f = true ↔ ∃ m, m < 8 ∧ f m = true := by
  constructor
  · intro h
    apply Classical.byContradiction
    intro z
    have : any8 f = false := any8_f.mpr (fun m hm => by
      cases q : f m
      · rfl
      · exact absurd ⟨m, hm, q⟩ z)
    rw [this] at h
    cases h
  · rintro ⟨m, hm, q⟩
    cases h : any8 f
    · rw [any8_f.mp h m hm] at q; cases q
    · rfl
theorem tch_or {q m : Nat} : tch q m = true ↔ (m = qx q ∨ m = qy q ∨ m = qz q) := by
  unfold tch
  simp only [Bool.or_eq_true, beq_iff_eq, or_assoc]
theorem wn_tri {Ls : Nat → Chi} {q : Nat} (hq : q ∈ TQ) (hd : ∀ m, Ls m m = false) : wnS (fun _ => Ls) 0 q = ((Ls (qx q) (qy q) || Ls (qx q) (qz q)) && (Ls (qy q) (qx q) || Ls (qy q) (qz q)) && (Ls (qz q) (qx q) || Ls (qz q) (qy q))) := by
  obtain ⟨hq1, hq2⟩ := TQ_tri q hq
  obtain ⟨t1, t2, t3⟩ := tri_lt hq2 hq1
  rw [Bool.eq_iff_iff]
  unfold wnS
  rw [all8_t]
  simp only [Bool.and_eq_true, Bool.or_eq_true, beq_iff_eq]
  have key : ∀ m, lnS (fun _ => Ls) 0 q m = true ↔ (tch q m = true ∧ (Ls m (qx q) = true ∨ Ls m (qy q) = true ∨ Ls m (qz q) = true)) := by
    intro m
    unfold lnS
    rw [Bool.and_eq_true, any8_t]
    constructor
    · rintro ⟨a, d, d1, d2⟩
      rw [Bool.and_eq_true] at d2
      refine ⟨a, ?_⟩
      rcases tch_or.mp d2.2 with e | e | e
      · rw [← e]; exact Or.inl d2.1
      · rw [← e]; exact Or.inr (Or.inl d2.1)
      · rw [← e]; exact Or.inr (Or.inr d2.1)
    · rintro ⟨a, b | b | b⟩
      · exact ⟨a, qx q, by omega, by show (Ls m (qx q) && tch q (qx q)) = true; rw [b, tch_or.mpr (Or.inl rfl)]; rfl⟩
      · exact ⟨a, qy q, by omega, by show (Ls m (qy q) && tch q (qy q)) = true; rw [b, tch_or.mpr (Or.inr (Or.inl rfl))]; rfl⟩
      · exact ⟨a, qz q, by omega, by show (Ls m (qz q) && tch q (qz q)) = true; rw [b, tch_or.mpr (Or.inr (Or.inr rfl))]; rfl⟩
  constructor
  · intro z
    have zx := z (qx q) (by omega)
    have zy := z (qy q) (by omega)
    have zz := z (qz q) (by omega)
    have tx : tch q (qx q) = true := tch_or.mpr (Or.inl rfl)
    have ty : tch q (qy q) = true := tch_or.mpr (Or.inr (Or.inl rfl))
    have tz : tch q (qz q) = true := tch_or.mpr (Or.inr (Or.inr rfl))
    have kx := ((key _).mp (zx.trans tx)).2
    have ky := ((key _).mp (zy.trans ty)).2
    have kz := ((key _).mp (zz.trans tz)).2
    rw [hd] at kx ky kz
    refine ⟨⟨?_, ?_⟩, ?_⟩
    · rcases kx with k | k | k
      · cases k
      · exact Or.inl k
      · exact Or.inr k
    · rcases ky with k | k | k
      · exact Or.inl k
      · cases k
      · exact Or.inr k
    · rcases kz with k | k | k
      · exact Or.inl k
      · exact Or.inr k
      · cases k
  · rintro ⟨⟨a, b⟩, c⟩ m _
    cases ht : tch q m with
    | false =>
      cases hl : lnS (fun _ => Ls) 0 q m with
      | false => rfl
      | true => rw [((key m).mp hl).1] at ht; cases ht
    | true =>
      refine (key m).mpr ⟨ht, ?_⟩
      rcases tch_or.mp ht with e | e | e
      · rw [e]; rcases a with a | a
        · exact Or.inr (Or.inl a)
        · exact Or.inr (Or.inr a)
      · rw [e]; rcases b with b | b
        · exact Or.inl b
        · exact Or.inr (Or.inr b)
      · rw [e]; rcases c with c | c
        · exact Or.inl c
        · exact Or.inr (Or.inl c)
theorem gn_tri {W : Nat → Chi} {q : Nat} (hq : q ∈ TQ) : gnS (fun _ => W) 0 q = ((W (qx q) (qy q) && W (qx q) (qz q)) || (W (qy q) (qx q) && W (qy q) (qz q)) || (W (qz q) (qx q) && W (qz q) (qy q))) := by
  obtain ⟨hq1, hq2⟩ := TQ_tri q hq
  obtain ⟨t1, t2, t3⟩ := tri_lt hq2 hq1
  rw [Bool.eq_iff_iff]
  unfold gnS
  rw [any8_t]
  simp only [Bool.and_eq_true, Bool.or_eq_true]
  have key : ∀ m, all8 (fun dn => !(tch q dn && !(dn == m)) || W m dn) = true ↔ ∀ d, (d = qx q ∨ d = qy q ∨ d = qz q) → d ≠ m → W m d = true := by
    intro m
    rw [all8_t]
    constructor
    · intro z d hd hne
      have := z d (by omega)
      rw [tch_or.mpr hd] at this
      simpa [hne] using this
    · intro z d _
      cases ht : tch q d with
      | false => rfl
      | true =>
        by_cases e : d = m
        · simp [e]
        · rw [z d (tch_or.mp ht) e]; simp
  constructor
  · rintro ⟨m, hm, ht, ha⟩
    have ha := (key m).mp ha
    rcases tch_or.mp ht with e | e | e
    · subst e; exact Or.inl (Or.inl ⟨ha _ (Or.inr (Or.inl rfl)) (by omega), ha _ (Or.inr (Or.inr rfl)) (by omega)⟩)
    · subst e; exact Or.inl (Or.inr ⟨ha _ (Or.inl rfl) (by omega), ha _ (Or.inr (Or.inr rfl)) (by omega)⟩)
    · subst e; exact Or.inr ⟨ha _ (Or.inl rfl) (by omega), ha _ (Or.inr (Or.inl rfl)) (by omega)⟩
  · rintro ((⟨a, b⟩ | ⟨a, b⟩) | ⟨a, b⟩)
    · refine ⟨qx q, by omega, tch_or.mpr (Or.inl rfl), (key _).mpr (fun d hd hne => ?_)⟩
      rcases hd with e | e | e
      · exact absurd e hne
      · rw [e]; exact a
      · rw [e]; exact b
    · refine ⟨qy q, by omega, tch_or.mpr (Or.inr (Or.inl rfl)), (key _).mpr (fun d hd hne => ?_)⟩
      rcases hd with e | e | e
      · rw [e]; exact a
      · exact absurd e hne
      · rw [e]; exact b
    · refine ⟨qz q, by omega, tch_or.mpr (Or.inr (Or.inr rfl)), (key _).mpr (fun d hd hne => ?_)⟩
      rcases hd with e | e | e
      · rw [e]; exact a
      · rw [e]; exact b
      · exact absurd e hne
/-- numbers of plies, by what two dones lead to -/
def lbN (rr tm : Nat → Nat) (a b : Nat) : Nat := if rr b = 2 ∧ tm b < (if rr a = 2 then tm a else 100000) then tm b else (if rr a = 2 then tm a else 100000)
def wbN (rr tm : Nat → Nat) (a b : Nat) : Nat := if rr a = 1 ∧ rr b = 1 then (if tm a ≤ tm b then tm b else tm a) else 100000
def wiN (rr tm tg : Nat → Nat) (i x y z : Nat) : Nat := max (max (lbN rr tm (tg (64 * i + 8 * x + y)) (tg (64 * i + 8 * x + z))) (lbN rr tm (tg (64 * i + 8 * y + x)) (tg (64 * i + 8 * y + z)))) (lbN rr tm (tg (64 * i + 8 * z + x)) (tg (64 * i + 8 * z + y)))
def loN (rr tm tg : Nat → Nat) (i x y z : Nat) : Nat := min (min (wbN rr tm (tg (64 * i + 8 * x + y)) (tg (64 * i + 8 * x + z))) (wbN rr tm (tg (64 * i + 8 * y + x)) (tg (64 * i + 8 * y + z)))) (wbN rr tm (tg (64 * i + 8 * z + x)) (tg (64 * i + 8 * z + y)))
def RsM (n : Nat) (rr tm : Nat → Nat) (M : Mem) : Prop := ∀ i, i < n → mI M 265 i = nI (rr i) ∧ rr i ≤ 2 ∧ (rr i ≠ 0 → mI M 266 i = nI (tm i) ∧ tm i ≤ 100000)
def FoM (n : Nat) (op : Nat → Chi) (tg : Nat → Nat) (M : Mem) : Prop := (∀ i, i < n → mI M 263 i = nI (bS (op i) 8)) ∧ ∀ e, e < 64 * n → (vEx op e = true → tg e < n ∧ mI M 264 e = nI (tg e)) ∧ (vEx op e = false → mI M 264 e = m1)
theorem lbN_lt {rr tm : Nat → Nat} {a b B : Nat} (hB : B ≤ 100000) (ha : rr a ≠ 0 → tm a < B) (hb : rr b ≠ 0 → tm b < B) : lbN rr tm a b < B ↔ (rr a = 2 ∨ rr b = 2) := by
  unfold lbN
  by_cases h1 : rr a = 2
  · have := ha (by omega)
    simp only [if_pos h1]
    refine ⟨fun _ => Or.inl h1, fun _ => ?_⟩
    split
    · rename_i h; have := hb (by omega); omega
    · omega
  · simp only [if_neg h1]
    constructor
    · intro z
      right
      apply Classical.byContradiction
      intro h2
      rw [if_neg (fun y => h2 y.1)] at z
      omega
    · rintro (z | z)
      · exact absurd z h1
      · have := hb (by omega)
        rw [if_pos ⟨z, by omega⟩]
        omega
theorem wbN_lt {rr tm : Nat → Nat} {a b B : Nat} (hB : B ≤ 100000) (ha : rr a ≠ 0 → tm a < B) (hb : rr b ≠ 0 → tm b < B) : wbN rr tm a b < B ↔ (rr a = 1 ∧ rr b = 1) := by
  unfold wbN
  by_cases h1 : rr a = 1 ∧ rr b = 1
  · have := ha (by omega); have := hb (by omega); rw [if_pos h1]; refine ⟨fun _ => h1, fun _ => ?_⟩; split <;> omega
  · rw [if_neg h1]; exact ⟨fun z => absurd z (by omega), fun z => absurd z h1⟩
theorem lbN_le {rr tm : Nat → Nat} {a b : Nat} (ha : rr a ≠ 0 → tm a ≤ 100000) (hb : rr b ≠ 0 → tm b ≤ 100000) : lbN rr tm a b ≤ 100000 := by
  have h0 : (if rr a = 2 then tm a else 100000) ≤ 100000 := by
    by_cases h : rr a = 2
    · rw [if_pos h]; exact ha (by omega)
    · rw [if_neg h]; exact Nat.le_refl _
  unfold lbN
  by_cases h : rr b = 2 ∧ tm b < (if rr a = 2 then tm a else 100000)
  · rw [if_pos h]; exact hb (by rw [h.1]; decide)
  · rw [if_neg h]; exact h0
theorem wbN_le {rr tm : Nat → Nat} {a b : Nat} (ha : rr a ≠ 0 → tm a ≤ 100000) (hb : rr b ≠ 0 → tm b ≤ 100000) : wbN rr tm a b ≤ 100000 := by
  unfold wbN
  split
  · rename_i h
    split
    · exact hb (by omega)
    · exact ha (by omega)
  · exact Nat.le_refl _
section MBEST
variable {w h L nt : Nat} {τ : Nat → Txt} {n : Nat} {op : Nat → Chi} {tg rr tm : Nat → Nat} {M : Mem}
theorem e_64 {i no x : Nat} : ((64 : Int32) * nI i + (8 : Int32) * nI no) + nI x = nI (64 * i + 8 * no + x) := by
  rw [show (64 : Int32) = nI 64 from rfl, show (8 : Int32) = nI 8 from rfl, pk_mul, pk_mul, nI_add, nI_add]
theorem y_lostBy {i no x y : Nat} (hb : Bs w h L nt τ M) (hF : FoM n op tg M) (hR : RsM n rr tm M) (hn : n ≤ 2000) (hi : i < n) (h1 : no < 8) (h2 : x < 8) (h3 : y < 8) (v1 : vEx op (64 * i + 8 * no + x) = true) (v2 : vEx op (64 * i + 8 * no + y) = true) : f_X12_lostBy (some 230) (nI i) (nI no) (nI x) (nI y) M = some (nI (lbN rr tm (tg (64 * i + 8 * no + x)) (tg (64 * i + 8 * no + y))), M) := by
  have hl := hb.lay
  obtain ⟨a1, a2⟩ := (hF.2 (64 * i + 8 * no + x) (by omega)).1 v1
  obtain ⟨b1, b2⟩ := (hF.2 (64 * i + 8 * no + y) (by omega)).1 v2
  obtain ⟨c1, c2, c3⟩ := hR _ a1
  obtain ⟨d1, d2, d3⟩ := hR _ b1
  have sub : ∀ v, v ≤ 100000 → f_X12_lostBy_61 (some 230) (nI (tg (64 * i + 8 * no + y))) (nI v) M = some (nI (if rr (tg (64 * i + 8 * no + y)) = 2 ∧ tm (tg (64 * i + 8 * no + y)) < v then tm (tg (64 * i + 8 * no + y)) else v), M) := by
    intro v hv
    unfold f_X12_lostBy_61
    rw [gR_t (ly_t230 hl), ly_r230_62 hl, aI_t (ly_t265 hl) (by omega) (by decide), d1]
    by_cases q : rr (tg (64 * i + 8 * no + y)) = 2
    · obtain ⟨e1, e2⟩ := d3 (by omega)
      rw [if_pos (by rw [q]; rfl), gR_t (ly_t230 hl), ly_r230_63 hl, aI_t (ly_t266 hl) (by omega) (by decide), e1]
      by_cases z : v ≤ tm (tg (64 * i + 8 * no + y))
      · rw [if_pos (nI_le z (by omega)), if_neg (by omega)]
      · rw [if_neg (nI_ge (by omega) (by omega)), gR_t (ly_t230 hl), ly_r230_63 hl, aI_t (ly_t266 hl) (by omega) (by decide), e1, if_pos ⟨q, by omega⟩]
    · rw [if_neg (ne_2 (by omega) q), if_neg (fun z => q z.1)]
  unfold f_X12_lostBy
  rw [gR_t (ly_t230 hl), ly_r230_61 hl, e_64, aI_t (ly_t264 hl) (by omega) (by decide), a2, gR_t (ly_t230 hl), ly_r230_61 hl, e_64, aI_t (ly_t264 hl) (by omega) (by decide), b2, gR_t (ly_t230 hl), ly_r230_62 hl, aI_t (ly_t265 hl) (by omega) (by decide), c1]
  unfold lbN
  by_cases q : rr (tg (64 * i + 8 * no + x)) = 2
  · obtain ⟨e1, e2⟩ := c3 (by omega)
    rw [if_pos (by rw [q]; rfl), gR_t (ly_t230 hl), ly_r230_63 hl, aI_t (ly_t266 hl) (by omega) (by decide), e1, sub _ e2, if_pos q]
  · rw [if_neg (ne_2 (by omega) q), show (100000 : Int32) = nI 100000 from rfl, sub _ (Nat.le_refl _), if_neg q]
theorem y_wonBy {i no x y : Nat} (hb : Bs w h L nt τ M) (hF : FoM n op tg M) (hR : RsM n rr tm M) (hn : n ≤ 2000) (hi : i < n) (h1 : no < 8) (h2 : x < 8) (h3 : y < 8) (v1 : vEx op (64 * i + 8 * no + x) = true) (v2 : vEx op (64 * i + 8 * no + y) = true) : f_X12_wonBy (some 230) (nI i) (nI no) (nI x) (nI y) M = some (nI (wbN rr tm (tg (64 * i + 8 * no + x)) (tg (64 * i + 8 * no + y))), M) := by
  have hl := hb.lay
  obtain ⟨a1, a2⟩ := (hF.2 (64 * i + 8 * no + x) (by omega)).1 v1
  obtain ⟨b1, b2⟩ := (hF.2 (64 * i + 8 * no + y) (by omega)).1 v2
  obtain ⟨c1, c2, c3⟩ := hR _ a1
  obtain ⟨d1, d2, d3⟩ := hR _ b1
  unfold f_X12_wonBy wbN
  rw [gR_t (ly_t230 hl), ly_r230_61 hl, e_64, aI_t (ly_t264 hl) (by omega) (by decide), a2, gR_t (ly_t230 hl), ly_r230_61 hl, e_64, aI_t (ly_t264 hl) (by omega) (by decide), b2, gR_t (ly_t230 hl), ly_r230_62 hl, aI_t (ly_t265 hl) (by omega) (by decide), c1]
  by_cases q : rr (tg (64 * i + 8 * no + x)) = 1
  · rw [if_pos (show nI (rr (tg (64 * i + 8 * no + x))) = 1 by rw [q]; rfl), gR_t (ly_t230 hl), ly_r230_62 hl, aI_t (ly_t265 hl) (by omega) (by decide), d1]
    by_cases q2 : rr (tg (64 * i + 8 * no + y)) = 1
    · obtain ⟨e1, e2⟩ := c3 (by omega)
      obtain ⟨g1, g2⟩ := d3 (by omega)
      rw [if_pos (show nI (rr (tg (64 * i + 8 * no + y))) = 1 by rw [q2]; rfl), gR_t (ly_t230 hl), ly_r230_63 hl, aI_t (ly_t266 hl) (by omega) (by decide), e1, gR_t (ly_t230 hl), ly_r230_63 hl, aI_t (ly_t266 hl) (by omega) (by decide), g1, if_pos (show rr (tg (64 * i + 8 * no + x)) = 1 ∧ rr (tg (64 * i + 8 * no + y)) = 1 from ⟨q, q2⟩)]
      by_cases z : tm (tg (64 * i + 8 * no + x)) ≤ tm (tg (64 * i + 8 * no + y))
      · rw [if_pos (nI_le z (by omega)), if_pos z, gR_t (ly_t230 hl), ly_r230_63 hl, aI_t (ly_t266 hl) (by omega) (by decide), g1]
      · rw [if_neg (nI_ge (by omega) (by omega)), if_neg z, gR_t (ly_t230 hl), ly_r230_63 hl, aI_t (ly_t266 hl) (by omega) (by decide), e1]
    · rw [if_neg (ne_1 (by omega) q2), if_neg (fun z => q2 z.2)]
      rfl
  · rw [if_neg (ne_1 (by omega) q), if_neg (fun z => q z.1)]
    rfl
theorem max3I {a b c : Nat} {X : Mem} (ha : a ≤ 100000) (hb : b ≤ 100000) (hc : c ≤ 100000) : (if nI a ≤ nI b then (if nI b ≤ nI c then some (nI c, X) else some (nI b, X)) else (if nI a ≤ nI c then some (nI c, X) else some (nI a, X))) = some (nI (max (max a b) c), X) := by
  simp only [nI_leI (show a < 2 ^ 31 by omega) (show b < 2 ^ 31 by omega), nI_leI (show b < 2 ^ 31 by omega) (show c < 2 ^ 31 by omega), nI_leI (show a < 2 ^ 31 by omega) (show c < 2 ^ 31 by omega)]
  repeat' split
  all_goals (congr 3; omega)
theorem min3I {a b c : Nat} {X : Mem} (ha : a ≤ 100000) (hb : b ≤ 100000) (hc : c ≤ 100000) : (if nI b ≤ nI a then (if nI c ≤ nI b then some (nI c, X) else some (nI b, X)) else (if nI c ≤ nI a then some (nI c, X) else some (nI a, X))) = some (nI (min (min a b) c), X) := by
  simp only [nI_leI (show b < 2 ^ 31 by omega) (show a < 2 ^ 31 by omega), nI_leI (show c < 2 ^ 31 by omega) (show b < 2 ^ 31 by omega), nI_leI (show c < 2 ^ 31 by omega) (show a < 2 ^ 31 by omega)]
  repeat' split
  all_goals (congr 3; omega)
/-- three moves that are open in a state -/
def op3 (op : Nat → Chi) (i x y z : Nat) : Prop := x < 8 ∧ y < 8 ∧ z < 8 ∧ x ≠ y ∧ x ≠ z ∧ y ≠ z ∧ op i x = true ∧ op i y = true ∧ op i z = true
theorem op3.v {i x y z : Nat} (ho : op3 op i x y z) : (vEx op (64 * i + 8 * x + y) = true ∧ vEx op (64 * i + 8 * x + z) = true) ∧ (vEx op (64 * i + 8 * y + x) = true ∧ vEx op (64 * i + 8 * y + z) = true) ∧ vEx op (64 * i + 8 * z + x) = true ∧ vEx op (64 * i + 8 * z + y) = true := by
  obtain ⟨o1, o2, o3, o4, o5, o6, o7, o8, o9⟩ := ho
  have key : ∀ a b, a < 8 → b < 8 → a ≠ b → op i a = true → op i b = true → vEx op (64 * i + 8 * a + b) = true := fun a b h1 h2 h3 h4 h5 => by
    rw [vEx_eg h1 h2]
    unfold eg
    rw [h4, h5]
    simp [h3]
  exact ⟨⟨key _ _ o1 o2 o4 o7 o8, key _ _ o1 o3 o5 o7 o9⟩, ⟨key _ _ o2 o1 o4.symm o8 o7, key _ _ o2 o3 o6 o8 o9⟩, key _ _ o3 o1 o5.symm o9 o7, key _ _ o3 o2 o6.symm o9 o8⟩
theorem RsM.le (hF : FoM n op tg M) (hR : RsM n rr tm M) {e : Nat} (he : e < 64 * n) (v : vEx op e = true) : rr (tg e) ≠ 0 → tm (tg e) ≤ 100000 := fun z => ((hR _ ((hF.2 e he).1 v).1).2.2 z).2
theorem y_winsBy {i x y z : Nat} (hb : Bs w h L nt τ M) (hF : FoM n op tg M) (hR : RsM n rr tm M) (hn : n ≤ 2000) (hi : i < n) (ho : op3 op i x y z) : f_X12_winsBy (some 230) (nI i) (nI x) (nI y) (nI z) M = some (nI (wiN rr tm tg i x y z), M) := by
  have hl := hb.lay
  obtain ⟨⟨v1, v2⟩, ⟨v3, v4⟩, v5, v6⟩ := ho.v
  obtain ⟨o1, o2, o3, -⟩ := ho
  unfold f_X12_winsBy
  rw [cR_t (ly_t230 hl), y_lostBy hb hF hR hn hi o1 o2 o3 v1 v2, cA_s, cR_t (ly_t230 hl), y_lostBy hb hF hR hn hi o2 o1 o3 v3 v4, cA_s, cR_t (ly_t230 hl), y_lostBy hb hF hR hn hi o3 o1 o2 v5 v6, cA_s]
  exact max3I (lbN_le (hR.le hF (by omega) v1) (hR.le hF (by omega) v2)) (lbN_le (hR.le hF (by omega) v3) (hR.le hF (by omega) v4)) (lbN_le (hR.le hF (by omega) v5) (hR.le hF (by omega) v6))
theorem y_losesBy {i x y z : Nat} (hb : Bs w h L nt τ M) (hF : FoM n op tg M) (hR : RsM n rr tm M) (hn : n ≤ 2000) (hi : i < n) (ho : op3 op i x y z) : f_X12_losesBy (some 230) (nI i) (nI x) (nI y) (nI z) M = some (nI (loN rr tm tg i x y z), M) := by
  have hl := hb.lay
  obtain ⟨⟨v1, v2⟩, ⟨v3, v4⟩, v5, v6⟩ := ho.v
  obtain ⟨o1, o2, o3, -⟩ := ho
  unfold f_X12_losesBy
  rw [cR_t (ly_t230 hl), y_wonBy hb hF hR hn hi o1 o2 o3 v1 v2, cA_s, cR_t (ly_t230 hl), y_wonBy hb hF hR hn hi o2 o1 o3 v3 v4, cA_s, cR_t (ly_t230 hl), y_wonBy hb hF hR hn hi o3 o1 o2 v5 v6, cA_s]
  exact min3I (wbN_le (hR.le hF (by omega) v1) (hR.le hF (by omega) v2)) (wbN_le (hR.le hF (by omega) v3) (hR.le hF (by omega) v4)) (wbN_le (hR.le hF (by omega) v5) (hR.le hF (by omega) v6))
theorem y_isOfferOf {χ : Chi} {q : Nat} (hq : q < 512) : f_X12_isOfferOf (nI (bS χ 8)) (nI q) M = some (nI (tri q && inq χ q).toNat, M) := by
  have n64 : ∀ {X : Option (Int32 × Mem)}, nzI (64 : Int32) X = X := nz_y (y := 64) (by decide)
  have n8 : ∀ {X : Option (Int32 × Mem)}, nzI (8 : Int32) X = X := nz_y (y := 8) (by decide)
  have d1 : nI q / (64 : Int32) = nI (qx q) := pk_div (d := 64) (by omega) (by decide) (by decide)
  have d2 : nI q / (8 : Int32) = nI (q / 8) := pk_div (d := 8) (by omega) (by decide) (by decide)
  have d3 : nI (q / 8) - nI (q / 8) / (8 : Int32) * (8 : Int32) = nI (qy q) := pk_rem (d := 8) (by omega) (by decide) (by decide)
  have d4 : nI q - nI (q / 8) * (8 : Int32) = nI (qz q) := nI_remN (d := 8) (by omega) (by decide) (by decide)
  have hx : qx q < 8 := by unfold qx; omega
  have hy : qy q < 8 := by unfold qy; omega
  have hz : qz q < 8 := by unfold qz; omega
  unfold f_X12_isOfferOf
  rw [n64, n8, n8, n8, d2, d1, d3, d4]
  unfold tri
  by_cases t1 : qx q < qy q
  · rw [if_neg (nI_ge t1 (by omega)), decide_eq_true t1, Bool.true_and]
    by_cases t2 : qy q < qz q
    · rw [if_neg (nI_ge t2 (by omega)), bS_sh3 hx hy hz, decide_eq_true t2, Bool.true_and]
      show (if nI (inq χ q).toNat = 1 then _ else _) = _
      cases inq χ q with
      | true => rw [if_pos (show nI true.toNat = (1 : Int32) from rfl), tv_1]; rfl
      | false => rw [if_neg (by decide), tv_0]; rfl
    · rw [if_pos (nI_le (by omega) (by omega)), decide_eq_false t2, tv_0]; rfl
  · rw [if_pos (nI_le (by omega) (by omega)), decide_eq_false t1, tv_0]; rfl
end MBEST
