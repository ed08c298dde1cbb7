/-! ===== the line, purely ===== -/
def lbV (ra ta rb tb : Nat) : Nat := if rb = 2 ∧ tb < (if ra = 2 then ta else 100000) then tb else (if ra = 2 then ta else 100000)
def wbV (ra ta rb tb : Nat) : Nat := if ra = 1 ∧ rb = 1 then (if ta ≤ tb then tb else ta) else 100000
theorem lbV_lt {ra ta rb tb B : Nat} (hB : B ≤ 100000) : lbV ra ta rb tb < B ↔ ((ra = 2 ∧ ta < B) ∨ (rb = 2 ∧ tb < B)) := by
  unfold lbV
  by_cases h1 : ra = 2
  · simp only [if_pos h1]
    by_cases h2 : rb = 2 ∧ tb < ta
    · rw [if_pos h2]; omega
    · rw [if_neg h2]; omega
  · simp only [if_neg h1]
    by_cases h2 : rb = 2 ∧ tb < 100000
    · rw [if_pos h2]; omega
    · rw [if_neg h2]; omega
theorem wbV_lt {ra ta rb tb B : Nat} (hB : B ≤ 100000) : wbV ra ta rb tb < B ↔ ((ra = 1 ∧ ta < B) ∧ (rb = 1 ∧ tb < B)) := by
  unfold wbV
  by_cases h1 : ra = 1 ∧ rb = 1
  · rw [if_pos h1]
    by_cases h2 : ta ≤ tb
    · rw [if_pos h2]; omega
    · rw [if_neg h2]; omega
  · rw [if_neg h1]; omega
section LINEP
variable {O : Pos → Chi} {S : Pos → Nat → Nat → Pos} {R U : Pos → Nat} {π : Pos}
def lbP (S : Pos → Nat → Nat → Pos) (R U : Pos → Nat) (π : Pos) (no a b : Nat) : Nat := lbV (R (S π no a)) (U (S π no a)) (R (S π no b)) (U (S π no b))
def wbP (S : Pos → Nat → Nat → Pos) (R U : Pos → Nat) (π : Pos) (no a b : Nat) : Nat := wbV (R (S π no a)) (U (S π no a)) (R (S π no b)) (U (S π no b))
def wiP (S : Pos → Nat → Nat → Pos) (R U : Pos → Nat) (π : Pos) (q : Nat) : Nat := max (max (lbP S R U π (qx q) (qy q) (qz q)) (lbP S R U π (qy q) (qx q) (qz q))) (lbP S R U π (qz q) (qx q) (qy q))
def loP (S : Pos → Nat → Nat → Pos) (R U : Pos → Nat) (π : Pos) (q : Nat) : Nat := min (min (wbP S R U π (qx q) (qy q) (qz q)) (wbP S R U π (qy q) (qx q) (qz q))) (wbP S R U π (qz q) (qx q) (qy q))
def nvP (S : Pos → Nat → Nat → Pos) (R U : Pos → Nat) (π : Pos) (no a b : Nat) : Nat := if R π = 1 then lbP S R U π no a b else wbP S R U π no a b
def ofP (S : Pos → Nat → Nat → Pos) (R U : Pos → Nat) (π : Pos) (q : Nat) : Nat := if R π = 1 then wiP S R U π q else loP S R U π q
/-- what is known where the line goes on -/
def LnF (O : Pos → Chi) (S : Pos → Nat → Nat → Pos) (R U : Pos → Nat) (π : Pos) : Prop := 1 ≤ U π ∧ (∃ q, q ∈ TQ ∧ inq (O π) q = true ∧ ofP S R U π q = U π - 1) ∧ ((R π = 1 ∧ ∀ q, q ∈ TQ → inq (O π) q = true → U π - 1 ≤ ofP S R U π q) ∨ (R π = 2 ∧ ∀ q, q ∈ TQ → inq (O π) q = true → ofP S R U π q ≤ U π - 1))
theorem lev_wn {u q : Nat} (hu : u ≤ 2000) (hq : q ∈ TQ) (hi : inq (O π) q = true) : wnS (fun _ => ldS O S (rsS O S u) 2 π) 0 q = decide (wiP S (rsS O S 2000) (tiS O S 2000) π q < u + 1) ∧ gnS (fun _ => ldS O S (rsS O S u) 1 π) 0 q = decide (loP S (rsS O S 2000) (tiS O S 2000) π q < u + 1) := by
  obtain ⟨hq1, hq2⟩ := TQ_tri q hq
  obtain ⟨t1, t2, t3⟩ := tri_lt hq2 hq1
  unfold inq at hi
  simp only [Bool.and_eq_true] at hi
  obtain ⟨⟨o7, o8⟩, o9⟩ := hi
  have hld : ∀ k a b, k ≠ 0 → a ≠ b → O π a = true → O π b = true → (ldS O S (rsS O S u) k π a b = true ↔ (rsS O S 2000 (S π a b) = k ∧ tiS O S 2000 (S π a b) < u + 1)) := by
    intro k a b hk hne h1 h2
    unfold ldS eg
    rw [h1, h2, beq_eq_false_iff_ne.mpr hne, Bool.not_false, Bool.true_and, Bool.true_and, Bool.true_and, beq_iff_eq, tm_ex (t := 2000) hk hu]
    exact ⟨fun z => ⟨z.1, by omega⟩, fun z => ⟨z.1, by omega⟩⟩
  have l1 := hld 2 _ _ (by decide) (show qx q ≠ qy q by omega) o7 o8
  have l2 := hld 2 _ _ (by decide) (show qx q ≠ qz q by omega) o7 o9
  have l3 := hld 2 _ _ (by decide) (show qy q ≠ qx q by omega) o8 o7
  have l4 := hld 2 _ _ (by decide) (show qy q ≠ qz q by omega) o8 o9
  have l5 := hld 2 _ _ (by decide) (show qz q ≠ qx q by omega) o9 o7
  have l6 := hld 2 _ _ (by decide) (show qz q ≠ qy q by omega) o9 o8
  have m1 := hld 1 _ _ (by decide) (show qx q ≠ qy q by omega) o7 o8
  have m2 := hld 1 _ _ (by decide) (show qx q ≠ qz q by omega) o7 o9
  have m3 := hld 1 _ _ (by decide) (show qy q ≠ qx q by omega) o8 o7
  have m4 := hld 1 _ _ (by decide) (show qy q ≠ qz q by omega) o8 o9
  have m5 := hld 1 _ _ (by decide) (show qz q ≠ qx q by omega) o9 o7
  have m6 := hld 1 _ _ (by decide) (show qz q ≠ qy q by omega) o9 o8
  generalize rsS O S 2000 = R at *
  generalize tiS O S 2000 = U at *
  constructor
  · rw [wn_tri hq (fun m => by unfold ldS eg; simp), Bool.eq_iff_iff]
    simp only [Bool.and_eq_true, Bool.or_eq_true, decide_eq_true_eq, l1, l2, l3, l4, l5, l6]
    unfold wiP lbP
    rw [← lbV_lt (by omega), ← lbV_lt (by omega), ← lbV_lt (by omega)]
    omega
  · rw [gn_tri hq, Bool.eq_iff_iff]
    simp only [Bool.and_eq_true, Bool.or_eq_true, decide_eq_true_eq, m1, m2, m3, m4, m5, m6]
    unfold loP wbP
    rw [← wbV_lt (by omega), ← wbV_lt (by omega), ← wbV_lt (by omega)]
    omega
theorem lev_dc {u : Nat} (hu : u ≤ 2000) : dcP (O π) (ldS O S (rsS O S u) 1 π) (ldS O S (rsS O S u) 2 π) = if TQ.any (fun q => inq (O π) q && decide (wiP S (rsS O S 2000) (tiS O S 2000) π q < u + 1)) = true then 1 else if TQ.all (fun q => !inq (O π) q || decide (loP S (rsS O S 2000) (tiS O S 2000) π q < u + 1)) = true then 2 else 0 := by
  have hw := fun q hq hi => lev_wn (O := O) (S := S) (π := π) (q := q) hu hq hi
  rw [dcP_eq]
  generalize rsS O S 2000 = R at *
  generalize tiS O S 2000 = U at *
  have e1 : TQ.any (fun q => inq (O π) q && wnS (fun _ => ldS O S (rsS O S u) 2 π) 0 q) = TQ.any (fun q => inq (O π) q && decide (wiP S R U π q < u + 1)) := by
    rw [Bool.eq_iff_iff, List.any_eq_true, List.any_eq_true]
    constructor
    · rintro ⟨q, hq, z⟩
      rw [Bool.and_eq_true] at z
      exact ⟨q, hq, by rw [z.1, ← (hw q hq z.1).1, z.2]; rfl⟩
    · rintro ⟨q, hq, z⟩
      rw [Bool.and_eq_true] at z
      exact ⟨q, hq, by rw [z.1, (hw q hq z.1).1, z.2]; rfl⟩
  have e2 : TQ.all (fun q => !inq (O π) q || gnS (fun _ => ldS O S (rsS O S u) 1 π) 0 q) = TQ.all (fun q => !inq (O π) q || decide (loP S R U π q < u + 1)) := by
    rw [Bool.eq_iff_iff, List.all_eq_true, List.all_eq_true]
    constructor
    · intro z q hq
      have := z q hq
      cases hc : inq (O π) q with
      | false => rfl
      | true => rw [hc, (hw q hq hc).2] at this; exact this
    · intro z q hq
      have := z q hq
      cases hc : inq (O π) q with
      | false => rfl
      | true => rw [hc, ← (hw q hq hc).2] at this; exact this
  rw [e1, e2]
theorem ln_fact (hr : rsS O S 2000 π ≠ 0) (ha : any8 (O π) = true) (ht : ∃ q, q ∈ TQ ∧ inq (O π) q = true) : LnF O S (rsS O S 2000) (tiS O S 2000) π := by
  have hz : tiS O S 2000 π ≠ 0 := fun z => by rw [(tm_zero hr).mp z] at ha; cases ha
  have hle := tm_le (O := O) (S := S) 2000 π
  have hrs := tm_rs (O := O) (S := S) 2000 hr
  have hbf := fun u => tm_bef (O := O) (S := S) (u := u) (π := π) 2000
  have hdc := fun u hu => lev_dc (O := O) (S := S) (π := π) (u := u) hu
  have hr2 := rs_le (O := O) (S := S) 2000 π
  obtain ⟨t, hT⟩ : ∃ t, tiS O S 2000 π = t + 1 := ⟨tiS O S 2000 π - 1, by omega⟩
  rw [hT] at hrs hle
  have h0 : rsS O S t π = 0 := hbf t (by omega)
  rw [rs_sy h0, hdc t (by omega)] at hrs
  have hp : ∀ u, t = u + 1 → TQ.any (fun q => inq (O π) q && decide (wiP S (rsS O S 2000) (tiS O S 2000) π q < u + 1)) = false ∧ TQ.all (fun q => !inq (O π) q || decide (loP S (rsS O S 2000) (tiS O S 2000) π q < u + 1)) = false := by
    intro u hu
    have h1 : rsS O S u π = 0 := hbf u (by omega)
    have h2 := h0
    rw [hu, rs_sy h1, hdc u (by omega)] at h2
    cases q1 : TQ.any (fun q => inq (O π) q && decide (wiP S (rsS O S 2000) (tiS O S 2000) π q < u + 1)) with
    | true => rw [q1, if_pos rfl] at h2; cases h2
    | false =>
      refine ⟨rfl, ?_⟩
      cases q2 : TQ.all (fun q => !inq (O π) q || decide (loP S (rsS O S 2000) (tiS O S 2000) π q < u + 1)) with
      | true => rw [q1, q2, if_neg (by decide), if_pos rfl] at h2; cases h2
      | false => rfl
  clear hbf hdc h0
  generalize rsS O S 2000 = R at *
  generalize tiS O S 2000 = U at *
  unfold LnF
  rw [hT, Nat.add_sub_cancel]
  refine ⟨by omega, ?_⟩
  by_cases h1 : TQ.any (fun q => inq (O π) q && decide (wiP S R U π q < t + 1)) = true
  · rw [if_pos h1] at hrs
    have hof : ∀ q, ofP S R U π q = wiP S R U π q := fun q => by unfold ofP; rw [if_pos hrs.symm]
    have low : ∀ q, q ∈ TQ → inq (O π) q = true → t ≤ wiP S R U π q := by
      intro q hq hi
      apply Classical.byContradiction
      intro z
      have := (hp (t - 1) (by omega)).1
      rw [List.any_eq_false] at this
      exact this q hq (by rw [hi, decide_eq_true (by omega)]; rfl)
    refine ⟨?_, Or.inl ⟨hrs.symm, fun q hq hi => by rw [hof]; exact low q hq hi⟩⟩
    rw [List.any_eq_true] at h1
    obtain ⟨q, hq, z⟩ := h1
    rw [Bool.and_eq_true, decide_eq_true_eq] at z
    exact ⟨q, hq, z.1, by rw [hof]; have := low q hq z.1; omega⟩
  · rw [if_neg h1] at hrs
    by_cases h2 : TQ.all (fun q => !inq (O π) q || decide (loP S R U π q < t + 1)) = true
    · rw [if_pos h2] at hrs
      have hof : ∀ q, ofP S R U π q = loP S R U π q := fun q => by unfold ofP; rw [if_neg (by omega)]
      rw [List.all_eq_true] at h2
      have up : ∀ q, q ∈ TQ → inq (O π) q = true → loP S R U π q ≤ t := by
        intro q hq hi
        have := h2 q hq
        rw [hi] at this
        simp only [Bool.not_true, Bool.false_or, decide_eq_true_eq] at this
        omega
      refine ⟨?_, Or.inr ⟨hrs.symm, fun q hq hi => by rw [hof]; exact up q hq hi⟩⟩
      by_cases hz0 : t = 0
      · obtain ⟨q, hq, hi⟩ := ht
        exact ⟨q, hq, hi, by rw [hof]; have := up q hq hi; omega⟩
      · have := (hp (t - 1) (by omega)).2
        rw [List.all_eq_false] at this
        obtain ⟨q, hq, z⟩ := this
        have hi : inq (O π) q = true := by
          cases hi : inq (O π) q with
          | true => rfl
          | false => rw [hi] at z; exact absurd rfl z
        rw [hi] at z
        simp only [Bool.not_true, Bool.false_or, decide_eq_true_eq] at z
        exact ⟨q, hq, hi, by rw [hof]; have := up q hq hi; omega⟩
    · rw [if_neg h2] at hrs
      exact absurd hrs.symm hr
/-- offer, no and done of the line -/
def lnQ (O : Pos → Chi) (S : Pos → Nat → Nat → Pos) (R U : Pos → Nat) (π : Pos) : Nat := (TQ.find? (fun q => inq (O π) q && (ofP S R U π q == U π - 1))).getD 0
def lnN (S : Pos → Nat → Nat → Pos) (R U : Pos → Nat) (π : Pos) (q : Nat) : Nat := if nvP S R U π (qx q) (qy q) (qz q) = U π - 1 then qx q else if nvP S R U π (qy q) (qx q) (qz q) = U π - 1 then qy q else qz q
def ot1 (q no : Nat) : Nat := if no = qx q then qy q else qx q
def ot2 (q no : Nat) : Nat := if no = qz q then qy q else qz q
def lnD (S : Pos → Nat → Nat → Pos) (R U : Pos → Nat) (π : Pos) (q no : Nat) : Nat := if R (S π no (ot1 q no)) = 3 - R π ∧ U (S π no (ot1 q no)) = U π - 1 then ot1 q no else ot2 q no
theorem lnQ_f (hf : LnF O S R U π) : lnQ O S R U π ∈ TQ ∧ inq (O π) (lnQ O S R U π) = true ∧ ofP S R U π (lnQ O S R U π) = U π - 1 := by
  obtain ⟨-, ⟨q, hq, hi, ho⟩, -⟩ := hf
  unfold lnQ
  cases hfd : TQ.find? (fun q => inq (O π) q && (ofP S R U π q == U π - 1)) with
  | none =>
    have := List.find?_eq_none.mp hfd q hq
    rw [hi, ho] at this
    simp at this
  | some p =>
    have h1 := List.find?_some hfd
    have h2 := List.mem_of_find?_eq_some hfd
    rw [Bool.and_eq_true, beq_iff_eq] at h1
    exact ⟨h2, h1.1, h1.2⟩
theorem lnN_f {q : Nat} (hr : R π = 1 ∨ R π = 2) (ho : ofP S R U π q = U π - 1) : nvP S R U π (lnN S R U π q) (ot1 q (lnN S R U π q)) (ot2 q (lnN S R U π q)) = U π - 1 ∧ (lnN S R U π q = qx q ∨ lnN S R U π q = qy q ∨ lnN S R U π q = qz q) ∨ qx q = qy q ∨ qx q = qz q ∨ qy q = qz q := by
  by_cases hne : qx q = qy q ∨ qx q = qz q ∨ qy q = qz q
  · exact Or.inr hne
  left
  have n1 : ¬ qx q = qy q := fun z => hne (Or.inl z)
  have n2 : ¬ qx q = qz q := fun z => hne (Or.inr (Or.inl z))
  have n3 : ¬ qy q = qz q := fun z => hne (Or.inr (Or.inr z))
  unfold lnN
  by_cases h1 : nvP S R U π (qx q) (qy q) (qz q) = U π - 1
  · rw [if_pos h1]
    refine ⟨?_, Or.inl rfl⟩
    unfold ot1 ot2
    rw [if_pos rfl, if_neg n2]
    exact h1
  · rw [if_neg h1]
    by_cases h2 : nvP S R U π (qy q) (qx q) (qz q) = U π - 1
    · rw [if_pos h2]
      refine ⟨?_, Or.inr (Or.inl rfl)⟩
      unfold ot1 ot2
      rw [if_neg (fun z => n1 z.symm), if_neg n3]
      exact h2
    · rw [if_neg h2]
      refine ⟨?_, Or.inr (Or.inr rfl)⟩
      unfold ot1 ot2
      rw [if_neg (fun z => n2 z.symm), if_pos rfl]
      unfold ofP at ho
      unfold nvP at h1 h2 ⊢
      rcases hr with hr | hr
      · rw [if_pos hr] at ho h1 h2 ⊢
        unfold wiP at ho
        omega
      · rw [if_neg (by omega)] at ho h1 h2 ⊢
        unfold loP at ho
        omega
theorem lnD_f {q no : Nat} (hr : R π = 1 ∨ R π = 2) (hU : U π - 1 < 100000) (hn : nvP S R U π no (ot1 q no) (ot2 q no) = U π - 1) : R (S π no (lnD S R U π q no)) = 3 - R π ∧ U (S π no (lnD S R U π q no)) = U π - 1 := by
  unfold lnD
  by_cases h1 : R (S π no (ot1 q no)) = 3 - R π ∧ U (S π no (ot1 q no)) = U π - 1
  · rw [if_pos h1]; exact h1
  · rw [if_neg h1]
    unfold nvP at hn
    rcases hr with hr | hr
    · rw [if_pos hr] at hn
      unfold lbP lbV at hn
      rw [hr] at h1 ⊢
      by_cases z1 : R (S π no (ot1 q no)) = 2
      · simp only [if_pos z1] at hn
        by_cases z2 : R (S π no (ot2 q no)) = 2 ∧ U (S π no (ot2 q no)) < U (S π no (ot1 q no))
        · rw [if_pos z2] at hn; omega
        · rw [if_neg z2] at hn; omega
      · simp only [if_neg z1] at hn
        by_cases z2 : R (S π no (ot2 q no)) = 2 ∧ U (S π no (ot2 q no)) < 100000
        · rw [if_pos z2] at hn; omega
        · rw [if_neg z2] at hn; omega
    · rw [if_neg (by omega)] at hn
      unfold wbP wbV at hn
      rw [hr] at h1 ⊢
      by_cases z1 : R (S π no (ot1 q no)) = 1 ∧ R (S π no (ot2 q no)) = 1
      · rw [if_pos z1] at hn
        by_cases z2 : U (S π no (ot1 q no)) ≤ U (S π no (ot2 q no))
        · rw [if_pos z2] at hn; omega
        · rw [if_neg z2] at hn; omega
      · rw [if_neg z1] at hn; omega
end LINEP
