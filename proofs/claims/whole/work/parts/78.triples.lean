/-! ===== threes of moves ===== -/
def qx (q : Nat) : Nat := q / 64
def qy (q : Nat) : Nat := q / 8 % 8
def qz (q : Nat) : Nat := q % 8
def tri (q : Nat) : Bool := decide (qx q < qy q) && decide (qy q < qz q)
def TQ : List Nat := (List.range' 0 512).filter tri
def tch (q : Nat) : Chi := fun m => m == qx q || m == qy q || m == qz q
def inq (χ : Chi) (q : Nat) : Bool := χ (qx q) && χ (qy q) && χ (qz q)
theorem TQ_len : TQ.length = 56 := by decide +kernel
theorem TQ_tr : ∀ i, i < 56 → trT.getD i 0 = bS (tch (TQ.getD i 0)) 8 := by decide +kernel
theorem TQ_tri : ∀ q ∈ TQ, q < 512 ∧ tri q = true := fun q hq => by
  have h1 := (List.mem_filter.mp hq)
  have h2 := List.mem_range'_1.mp h1.1
  exact ⟨by omega, h1.2⟩
theorem tri_lt {q : Nat} (h : tri q = true) (hq : q < 512) : qx q < qy q ∧ qy q < qz q ∧ qz q < 8 := by
  unfold tri at h
  simp only [Bool.and_eq_true, decide_eq_true_eq] at h
  exact ⟨h.1, h.2, Nat.mod_lt _ (by decide)⟩
theorem TQ_drop {i : Nat} (hi : i < 56) : TQ.drop i = TQ.getD i 0 :: TQ.drop (i + 1) := by
  have h : i < TQ.length := by rw [TQ_len]; exact hi
  rw [List.drop_eq_getElem_cons h, List.getD_eq_getElem?_getD, List.getElem?_eq_getElem h, Option.getD_some]
theorem bS_andN {χ ψ : Chi} {n : Nat} : nI (bS χ n) &&& nI (bS ψ n) = nI (bS (fun m => χ m && ψ m) n) := by
  rw [nx_and]
  congr 1
  apply Nat.eq_of_testBit_eq
  intro m
  rw [Nat.testBit_and, bS_bit, bS_bit, bS_bit]
  cases decide (m < n) <;> simp
theorem bS_eqN {χ ψ : Chi} {n : Nat} (hn : n ≤ 31) : nI (bS χ n) = nI (bS ψ n) ↔ ∀ m, m < n → χ m = ψ m := by
  have h1 := bS_lt χ n
  have h2 := bS_lt ψ n
  have h3 : 2 ^ n ≤ 2 ^ 31 := Nat.pow_le_pow_right (by decide) hn
  rw [nI_eq (by omega) (by omega)]
  exact ⟨fun e => bS_inj e, fun e => bS_ext e⟩
theorem tch_sub {χ : Chi} {q : Nat} (hq : q < 512) : (nI (bS (tch q) 8) &&& nI (bS χ 8) = nI (bS (tch q) 8)) ↔ inq χ q = true := by
  rw [bS_andN, bS_eqN (by decide)]
  have hx : qx q < 8 := by unfold qx; omega
  have hy : qy q < 8 := by unfold qy; omega
  have hz : qz q < 8 := by unfold qz; omega
  unfold inq
  simp only [Bool.and_eq_true]
  constructor
  · intro e
    have e1 := e _ hx
    have e2 := e _ hy
    have e3 := e _ hz
    simp [tch] at e1 e2 e3
    exact ⟨⟨e1, e2⟩, e3⟩
  · rintro ⟨⟨e1, e2⟩, e3⟩ m _
    by_cases ht : tch q m = true
    · have : χ m = true := by
        unfold tch at ht
        simp only [Bool.or_eq_true, beq_iff_eq] at ht
        rcases ht with (rfl | rfl) | rfl
        · exact e1
        · exact e2
        · exact e3
      rw [ht, this]; rfl
    · have : tch q m = false := by cases h : tch q m; rfl; exact absurd h ht
      rw [this]; rfl
/-- the n-th of those that are so -/
def nthP (p : Nat → Bool) : List Nat → Nat → Int32 → Option Nat
  | [], _, _ => none
  | q :: l, fd, n => if p q = true then (if nI fd = n then some q else nthP p l (fd + 1) n) else nthP p l fd n
theorem nthP_n {p : Nat → Bool} {q fd : Nat} {l : List Nat} {n : Int32} (h : p q = false) : nthP p (q :: l) fd n = nthP p l fd n := by
  show (if _ then _ else _) = _
  rw [h]; rfl
theorem nthP_y {p : Nat → Bool} {q fd : Nat} {l : List Nat} {n : Int32} (h : p q = true) : nthP p (q :: l) fd n = if nI fd = n then some q else nthP p l (fd + 1) n := by
  show (if _ then _ else _) = _
  rw [h]; rfl
theorem nthP_filter {p t : Nat → Bool} {n : Int32} : ∀ (l : List Nat) (fd : Nat), nthP p (l.filter t) fd n = nthP (fun q => t q && p q) l fd n
  | [], _ => rfl
  | q :: l, fd => by
    cases ht : t q with
    | false => rw [List.filter_cons_of_neg (by simp [ht]), nthP_n (p := fun q => t q && p q) (by simp [ht])]; exact nthP_filter l fd
    | true =>
      rw [List.filter_cons_of_pos ht]
      cases hp : p q with
      | false => rw [nthP_n hp, nthP_n (p := fun q => t q && p q) (by simp [hp])]; exact nthP_filter l fd
      | true => rw [nthP_y hp, nthP_y (p := fun q => t q && p q) (by simp [hp, ht]), nthP_filter l (fd + 1)]
theorem nthP_mem {p : Nat → Bool} {n : Int32} : ∀ (l : List Nat) (fd q : Nat), nthP p l fd n = some q → q ∈ l ∧ p q = true
  | [], _, _, e => by cases e
  | q' :: l, fd, q, e => by
    cases hp : p q' with
    | false => rw [nthP_n hp] at e; obtain ⟨h1, h2⟩ := nthP_mem l fd q e; exact ⟨List.mem_cons_of_mem _ h1, h2⟩
    | true =>
      rw [nthP_y hp] at e
      by_cases hn : nI fd = n
      · rw [if_pos hn] at e; cases e; exact ⟨List.mem_cons_self, hp⟩
      · rw [if_neg hn] at e; obtain ⟨h1, h2⟩ := nthP_mem l (fd + 1) q e; exact ⟨List.mem_cons_of_mem _ h1, h2⟩
theorem nthP_lt {p : Nat → Bool} : ∀ (l : List Nat) (fd k : Nat), fd ≤ k → k < fd + l.countP p → ∃ q, nthP p l fd (nI k) = some q
  | [], fd, k, h1, h2 => by simp at h2; omega
  | q :: l, fd, k, h1, h2 => by
    cases hp : p q with
    | false =>
      rw [nthP_n hp]
      rw [List.countP_cons_of_neg (by simp [hp])] at h2
      exact nthP_lt l fd k h1 h2
    | true =>
      rw [nthP_y hp]
      rw [List.countP_cons_of_pos hp] at h2
      by_cases hn : nI fd = nI k
      · exact ⟨q, by rw [if_pos hn]⟩
      · rw [if_neg hn]
        exact nthP_lt l (fd + 1) k (by have : fd ≠ k := fun e => hn (by rw [e]); omega) (by omega)
/-- a three as it is told -/
def told3 (q : Nat) : Nat := 100 * qx q + 10 * qy q + qz q
/-! bits, counted -/
def popC (χ : Chi) : Nat → Nat
  | 0 => 0
  | n + 1 => popC χ n + (χ n).toNat
theorem popC_le (χ : Chi) : ∀ n, popC χ n ≤ n
  | 0 => Nat.le_refl _
  | n + 1 => by
    have := popC_le χ n
    have := Bool.toNat_le (χ n)
    show popC χ n + (χ n).toNat ≤ n + 1
    omega
theorem popC_ext {χ ψ : Chi} : ∀ n, (∀ m, m < n → χ m = ψ m) → popC χ n = popC ψ n
  | 0, _ => rfl
  | n + 1, h => by
    show popC χ n + (χ n).toNat = popC ψ n + (ψ n).toNat
    rw [popC_ext n (fun m hm => h m (by omega)), h n (by omega)]
def ovrS (w h : Nat) (T : Txt) (π : Pos) : Prop := popC (ablS w h T π) 8 < 3
