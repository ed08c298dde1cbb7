/-! ===== who wins, purely: level by level ===== -/
theorem any8_congr {f g : Nat → Bool} (h : ∀ m, m < 8 → f m = g m) : any8 f = any8 g := by
  cases hg : any8 g with
  | false =>
    rw [any8_f] at hg ⊢
    intro m hm
    rw [h m hm]
    exact hg m hm
  | true =>
    cases hf : any8 f with
    | true => rfl
    | false =>
      rw [any8_f] at hf
      have : any8 g = false := any8_f.mpr (fun m hm => by rw [← h m hm]; exact hf m hm)
      rw [this] at hg
      cases hg
theorem all8_congr {f g : Nat → Bool} (h : ∀ m, m < 8 → f m = g m) : all8 f = all8 g := by
  rw [Bool.eq_iff_iff, all8_t, all8_t]
  exact ⟨fun z m hm => by rw [← h m hm]; exact z m hm, fun z m hm => by rw [h m hm]; exact z m hm⟩
theorem wnS_congr {A B : Nat → Nat → Chi} {i j q : Nat} (h : ∀ no dn, no < 8 → dn < 8 → A i no dn = B j no dn) : wnS A i q = wnS B j q := by
  unfold wnS lnS
  refine all8_congr (fun m hm => ?_)
  rw [any8_congr (fun d hd => by rw [h m d hm hd])]
theorem gnS_congr {A B : Nat → Nat → Chi} {i j q : Nat} (h : ∀ no dn, no < 8 → dn < 8 → A i no dn = B j no dn) : gnS A i q = gnS B j q := by
  unfold gnS
  refine any8_congr (fun m hm => ?_)
  rw [all8_congr (fun d hd => by rw [h m d hm hd])]
theorem dcS_eq {op : Chi} {W Ls : Nat → Nat → Chi} {i : Nat} : ∀ (l : List Nat) (b : Bool), dcS op W Ls i l b = if l.any (fun q => inq op q && wnS Ls i q) = true then 1 else if (b && l.all (fun q => !inq op q || gnS W i q)) = true then 2 else 0
  | [], b => by cases b <;> rfl
  | q :: l, b => by
    show (if inq op q = true then (if wnS Ls i q = true then 1 else dcS op W Ls i l (b && gnS W i q)) else dcS op W Ls i l b) = _
    rw [dcS_eq l b, dcS_eq l (b && gnS W i q), List.any_cons, List.all_cons]
    cases inq op q <;> cases wnS Ls i q <;> cases b <;> cases gnS W i q <;> simp
def dcP (χ : Chi) (W Ls : Nat → Chi) : Nat := dcS χ (fun _ => W) (fun _ => Ls) 0 TQ true
theorem dcP_eq {χ : Chi} {W Ls : Nat → Chi} : dcP χ W Ls = if TQ.any (fun q => inq χ q && wnS (fun _ => Ls) 0 q) = true then 1 else if TQ.all (fun q => !inq χ q || gnS (fun _ => W) 0 q) = true then 2 else 0 := by
  unfold dcP
  rw [dcS_eq, Bool.true_and]
theorem dcS_congr {χ : Chi} {W Ls : Nat → Nat → Chi} {i : Nat} {W' Ls' : Nat → Chi} (h1 : ∀ no dn, no < 8 → dn < 8 → W i no dn = W' no dn) (h2 : ∀ no dn, no < 8 → dn < 8 → Ls i no dn = Ls' no dn) : dcS χ W Ls i TQ true = dcP χ W' Ls' := by
  rw [dcP_eq, dcS_eq, Bool.true_and]
  have e1 : (fun q => inq χ q && wnS Ls i q) = (fun q => inq χ q && wnS (fun _ => Ls') 0 q) := by
    funext q
    rw [wnS_congr (A := Ls) (B := fun _ => Ls') (j := 0) h2]
  have e2 : (fun q => !inq χ q || gnS W i q) = (fun q => !inq χ q || gnS (fun _ => W') 0 q) := by
    funext q
    rw [gnS_congr (A := W) (B := fun _ => W') (j := 0) h1]
  rw [e1, e2]
theorem dcP_congr {χ : Chi} {W Ls W' Ls' : Nat → Chi} (h1 : ∀ no dn, no < 8 → dn < 8 → W no dn = W' no dn) (h2 : ∀ no dn, no < 8 → dn < 8 → Ls no dn = Ls' no dn) : dcP χ W Ls = dcP χ W' Ls' := dcS_congr (W := fun _ => W) (Ls := fun _ => Ls) (i := 0) h1 h2
theorem dcP_le {χ : Chi} {W Ls : Nat → Chi} : dcP χ W Ls ≤ 2 := by
  rw [dcP_eq]
  repeat' split
  all_goals omega
theorem wn_no : ∀ q ∈ TQ, wnS (fun _ _ _ => false) 0 q = false := by decide +kernel
theorem gn_no : ∀ q ∈ TQ, gnS (fun _ _ _ => false) 0 q = false := by decide +kernel
theorem dcP_no {χ : Chi} (h : ∃ q, q ∈ TQ ∧ inq χ q = true) : dcP χ (fun _ _ => false) (fun _ _ => false) = 0 := by
  obtain ⟨q, hq, hi⟩ := h
  rw [dcP_eq, if_neg, if_neg]
  · rw [List.all_eq_true]
    intro z
    have := z q hq
    rw [hi, gn_no q hq] at this
    cases this
  · rw [List.any_eq_true]
    rintro ⟨p, hp, z⟩
    rw [wn_no p hp] at z
    simp at z
/-- can a no and what is done be told of one offer -/
def eg (χ : Chi) (no dn : Nat) : Bool := !(no == dn) && χ no && χ dn
section LEV
variable {O : Pos → Chi} {S : Pos → Nat → Nat → Pos}
def ldS (O : Pos → Chi) (S : Pos → Nat → Nat → Pos) (v : Pos → Nat) (k : Nat) (π : Pos) : Nat → Chi := fun no dn => eg (O π) no dn && (v (S π no dn) == k)
def rsS (O : Pos → Chi) (S : Pos → Nat → Nat → Pos) : Nat → Pos → Nat
  | 0 => fun π => if any8 (O π) = false then 1 else 0
  | t + 1 => fun π => if rsS O S t π = 0 then dcP (O π) (ldS O S (rsS O S t) 1 π) (ldS O S (rsS O S t) 2 π) else rsS O S t π
theorem rs_0 {π : Pos} : rsS O S 0 π = if any8 (O π) = false then 1 else 0 := rfl
theorem rs_s {t : Nat} {π : Pos} : rsS O S (t + 1) π = if rsS O S t π = 0 then dcP (O π) (ldS O S (rsS O S t) 1 π) (ldS O S (rsS O S t) 2 π) else rsS O S t π := rfl
theorem rs_sy {t : Nat} {π : Pos} (h : rsS O S t π = 0) : rsS O S (t + 1) π = dcP (O π) (ldS O S (rsS O S t) 1 π) (ldS O S (rsS O S t) 2 π) := by rw [rs_s, if_pos h]
theorem rs_sn {t : Nat} {π : Pos} (h : rsS O S t π ≠ 0) : rsS O S (t + 1) π = rsS O S t π := by rw [rs_s, if_neg h]
theorem rs_keep {t : Nat} {π : Pos} (h : rsS O S t π ≠ 0) : ∀ k, rsS O S (t + k) π = rsS O S t π
  | 0 => rfl
  | k + 1 => by
    have ih := rs_keep h k
    rw [← Nat.add_assoc, rs_sn (by rw [ih]; exact h), ih]
theorem rs_up {t u : Nat} {π : Pos} (h : rsS O S t π ≠ 0) (hu : t ≤ u) : rsS O S u π = rsS O S t π := by
  have := rs_keep h (u - t)
  rw [show t + (u - t) = u by omega] at this
  exact this
theorem rs_dn {t u : Nat} {π : Pos} (h : rsS O S u π = 0) (hu : t ≤ u) : rsS O S t π = 0 := by
  apply Classical.byContradiction
  intro z
  rw [rs_up z hu] at h
  exact z h
theorem rs_le : ∀ (t : Nat) (π : Pos), rsS O S t π ≤ 2
  | 0, π => by rw [rs_0]; split <;> omega
  | t + 1, π => by
    rw [rs_s]
    split
    · exact dcP_le
    · exact rs_le t π
def tiS (O : Pos → Chi) (S : Pos → Nat → Nat → Pos) : Nat → Pos → Nat
  | 0 => fun _ => 0
  | t + 1 => fun π => if rsS O S t π = 0 then t + 1 else tiS O S t π
theorem tm_sy {t : Nat} {π : Pos} (h : rsS O S t π = 0) : tiS O S (t + 1) π = t + 1 := by show (if _ then _ else _) = _; rw [if_pos h]
theorem tm_sn {t : Nat} {π : Pos} (h : rsS O S t π ≠ 0) : tiS O S (t + 1) π = tiS O S t π := by show (if _ then _ else _) = _; rw [if_neg h]
theorem tm_le : ∀ (t : Nat) (π : Pos), tiS O S t π ≤ t
  | 0, _ => Nat.le_refl _
  | t + 1, π => by
    by_cases h : rsS O S t π = 0
    · rw [tm_sy h]; omega
    · rw [tm_sn h]; have := tm_le t π; omega
theorem tm_bef {u : Nat} {π : Pos} : ∀ (t : Nat), u < tiS O S t π → rsS O S u π = 0
  | 0, h => absurd h (by show ¬ u < 0; omega)
  | t + 1, h => by
    by_cases q : rsS O S t π = 0
    · rw [tm_sy q] at h; exact rs_dn q (by omega)
    · rw [tm_sn q] at h; exact tm_bef t h
theorem tm_rs {π : Pos} : ∀ (t : Nat), rsS O S t π ≠ 0 → rsS O S (tiS O S t π) π = rsS O S t π
  | 0, _ => rfl
  | t + 1, h => by
    by_cases q : rsS O S t π = 0
    · rw [tm_sy q]
    · rw [tm_sn q, rs_sn q]; exact tm_rs t q
theorem tm_up {t u : Nat} {π : Pos} (h : rsS O S t π ≠ 0) (hu : t ≤ u) : tiS O S u π = tiS O S t π := by
  induction u with
  | zero => rw [show t = 0 by omega]
  | succ u ih =>
    by_cases q : t = u + 1
    · rw [q]
    · have := ih (by omega)
      rw [tm_sn (by rw [rs_up h (by omega)]; exact h), this]
theorem tm_ex {t u k : Nat} {π : Pos} (hk : k ≠ 0) (hu : u ≤ t) : rsS O S u π = k ↔ rsS O S t π = k ∧ tiS O S t π ≤ u := by
  constructor
  · intro h
    have h0 : rsS O S u π ≠ 0 := by rw [h]; exact hk
    refine ⟨by rw [rs_up h0 hu, h], ?_⟩
    apply Classical.byContradiction
    intro z
    exact h0 (tm_bef t (by omega))
  · rintro ⟨h1, h2⟩
    have h0 : rsS O S t π ≠ 0 := by rw [h1]; exact hk
    have h3 := tm_rs t h0
    rw [rs_up (t := tiS O S t π) (by rw [h3]; exact h0) h2, h3, h1]
theorem tm_zero {t : Nat} {π : Pos} (h : rsS O S t π ≠ 0) : tiS O S t π = 0 ↔ any8 (O π) = false := by
  constructor
  · intro z
    have := tm_rs t h
    rw [z, rs_0] at this
    by_cases q : any8 (O π) = false
    · exact q
    · rw [if_neg q] at this; exact absurd this.symm h
  · intro z
    have h0 : rsS O S 0 π = 1 := by rw [rs_0, if_pos z]
    have := (tm_ex (t := t) (u := 0) (k := 1) (by decide) (Nat.zero_le _)).mp h0
    omega
/-- newly settled on a level -/
def nwS (O : Pos → Chi) (S : Pos → Nat → Nat → Pos) (t : Nat) (σ : Pos) : Prop := rsS O S t σ ≠ 0 ∧ tiS O S t σ = t
theorem rs_same {t : Nat} {π : Pos} (hO : any8 (O π) = true → ∃ q, q ∈ TQ ∧ inq (O π) q = true) (h0 : rsS O S t π = 0) (hn : ∀ no dn, no < 8 → dn < 8 → eg (O π) no dn = true → ¬ nwS O S t (S π no dn)) : rsS O S (t + 1) π = 0 := by
  rw [rs_sy h0]
  cases t with
  | zero =>
    have ha : any8 (O π) = true := by
      cases q : any8 (O π)
      · rw [rs_0, if_pos q] at h0; cases h0
      · rfl
    have hz : ∀ k, k ≠ 0 → ∀ no dn, no < 8 → dn < 8 → ldS O S (rsS O S 0) k π no dn = false := by
      intro k hk no dn h1 h2
      unfold ldS
      cases he : eg (O π) no dn with
      | false => rfl
      | true =>
        have := hn no dn h1 h2 he
        by_cases q : rsS O S 0 (S π no dn) = 0
        · rw [q]; simpa using fun z : 0 = k => hk z.symm
        · exact absurd ⟨q, rfl⟩ this
    rw [dcP_congr (W' := fun _ _ => false) (Ls' := fun _ _ => false) (hz 1 (by decide)) (hz 2 (by decide))]
    exact dcP_no (hO ha)
  | succ t =>
    have h1 : rsS O S t π = 0 := rs_dn h0 (by omega)
    have hs : ∀ no dn, no < 8 → dn < 8 → eg (O π) no dn = true → rsS O S (t + 1) (S π no dn) = rsS O S t (S π no dn) := by
      intro no dn a b he
      by_cases q : rsS O S t (S π no dn) = 0
      · rw [q]
        apply Classical.byContradiction
        intro z
        exact hn no dn a b he ⟨z, tm_sy q⟩
      · exact rs_sn q
    rw [rs_sy h1] at h0
    rw [← h0]
    refine dcP_congr (fun no dn a b => ?_) (fun no dn a b => ?_)
    · unfold ldS
      cases he : eg (O π) no dn
      · rfl
      · rw [hs no dn a b he]
    · unfold ldS
      cases he : eg (O π) no dn
      · rfl
      · rw [hs no dn a b he]
theorem rs_stab (C : Pos → Prop) (hc : ∀ π no dn, C π → no < 8 → dn < 8 → eg (O π) no dn = true → C (S π no dn)) {t : Nat} (h : ∀ π, C π → rsS O S (t + 1) π = rsS O S t π) : ∀ (k : Nat) (π : Pos), C π → rsS O S (t + k) π = rsS O S t π
  | 0, _, _ => rfl
  | k + 1, π, hp => by
    have ih := rs_stab C hc h k
    rw [← Nat.add_assoc]
    by_cases q : rsS O S (t + k) π = 0
    · have q0 : rsS O S t π = 0 := by rw [← ih π hp]; exact q
      rw [rs_sy q]
      have h1 := h π hp
      rw [rs_sy q0] at h1
      rw [← h1]
      refine dcP_congr (fun no dn a b => ?_) (fun no dn a b => ?_)
      · unfold ldS
        cases he : eg (O π) no dn
        · rfl
        · rw [ih _ (hc π no dn hp a b he)]
      · unfold ldS
        cases he : eg (O π) no dn
        · rfl
        · rw [ih _ (hc π no dn hp a b he)]
    · rw [rs_sn q, ih π hp]
theorem tm_stab {t : Nat} {π : Pos} (k : Nat) (h : rsS O S t π ≠ 0) : tiS O S (t + k) π = tiS O S t π := tm_up h (by omega)
end LEV
/-- an offer is there where something is open -/
theorem op_tri8 : ∀ n, n < 256 → 3 ≤ popC (fun m => n.testBit m) 8 → TQ.any (inq (fun m => n.testBit m)) = true := by decide +kernel
theorem bS_lt8 (χ : Chi) : bS χ 8 < 256 := bS_lt χ 8
theorem tri8_ex {χ : Chi} (h : 3 ≤ popC χ 8) : ∃ q, q ∈ TQ ∧ inq χ q = true := by
  have hb : ∀ m, m < 8 → (bS χ 8).testBit m = χ m := fun m hm => by rw [bS_bit]; simp [hm]
  have := op_tri8 (bS χ 8) (bS_lt8 χ) (by rw [popC_ext (ψ := χ) 8 hb]; exact h)
  rw [List.any_eq_true] at this
  obtain ⟨q, hq, hi⟩ := this
  refine ⟨q, hq, ?_⟩
  have h1 := TQ_tri q hq
  have h2 := tri_lt h1.2 h1.1
  have hi' : ((bS χ 8).testBit (qx q) && (bS χ 8).testBit (qy q) && (bS χ 8).testBit (qz q)) = true := hi
  rw [hb _ (by omega), hb _ (by omega), hb _ (by omega)] at hi'
  exact hi'
theorem op_tri {w h : Nat} {T : Txt} {π : Pos} (ha : any8 (opS w h T π) = true) : ∃ q, q ∈ TQ ∧ inq (opS w h T π) q = true := by
  by_cases hp : popC (ablS w h T π) 8 < 3
  · have : any8 (opS w h T π) = false := any8_f.mpr (fun m _ => by unfold opS; simp [hp])
    rw [this] at ha
    cases ha
  · have e : opS w h T π = ablS w h T π := by funext m; unfold opS; simp [hp]
    rw [e]
    exact tri8_ex (by omega)
theorem eg_edg {w h no dn : Nat} {T : Txt} {π : Pos} (h1 : no < 8) (h2 : dn < 8) : eg (opS w h T π) no dn = true ↔ Edg w h T π no dn := by
  unfold eg Edg
  simp only [Bool.and_eq_true, Bool.not_eq_true', beq_eq_false_iff_ne, ne_eq]
  constructor
  · rintro ⟨⟨a, b⟩, c⟩; exact ⟨h1, h2, a, b, c⟩
  · rintro ⟨-, -, a, b, c⟩; exact ⟨⟨a, b⟩, c⟩
