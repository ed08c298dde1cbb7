/-! ===== constructors: a memory that grows, told by tables ===== -/
def lkp {α : Type} : List (Nat × Nat × α) → Nat → Nat → Option α
  | [], _, _ => none
  | q :: r, a, k => if a = q.1 ∧ k = q.2.1 then some q.2.2 else lkp r a k
theorem lkp_lt {α : Type} {z a k : Nat} : ∀ {t : List (Nat × Nat × α)}, (∀ q ∈ t, q.1 < z) → z ≤ a → lkp t a k = none
  | [], _, _ => rfl
  | q :: r, h, hz => by
    have := h q List.mem_cons_self
    show (if _ then _ else _) = _
    rw [if_neg (by omega)]
    exact lkp_lt (fun x hx => h x (List.mem_cons_of_mem _ hx)) hz
def St (pl L z : Nat) (tR : List (Nat × Nat × Option Nat)) (tI : List (Nat × Nat × Int32)) (B M : Mem) : Prop :=
  mZ M = z ∧ (∀ a, mT M a = if a < z then TYF pl L a else (0, 0)) ∧ (∀ a, a < 8 → mI M a = mI B a ∧ mR M a = mR B a) ∧ (∀ a k, 8 ≤ a → a < z → mR M a k = (lkp tR a k).getD none ∧ mI M a k = (lkp tI a k).getD 0 ∧ mL M a k = 0) ∧ (∀ q ∈ tR, q.1 < z) ∧ ∀ q ∈ tI, q.1 < z
section INIT
variable {pl L z a j c : Nat} {tR : List (Nat × Nat × Option Nat)} {tI : List (Nat × Nat × Int32)} {B M : Mem} {P : Unit → Mem → Prop}
theorem St.ty (h : St pl L z tR tI B M) (ha : a < z) : mT M a = TYF pl L a := by rw [h.2.1 a, if_pos ha]
theorem St.n {t : Nat × Nat} (h : St pl L z tR tI B M) (h8 : 8 ≤ z) (ht : TYF pl L z = t) : St pl L (z + 1) tR tI B (sN M t) := by
  obtain ⟨h1, h2, h3, h4, h5, h6⟩ := h
  have hZ : M.2.1 = z := h1
  refine ⟨by show M.2.1 + 1 = z + 1; rw [hZ], fun b => ?_, fun b hb => ?_, fun b k hb hz => ?_, fun q hq => by have := h5 q hq; omega, fun q hq => by have := h6 q hq; omega⟩
  · show up1 M.1 M.2.1 t b = _
    by_cases e : b = z
    · rw [hZ, e, up1_s, if_pos (by omega), ht]
    · rw [hZ, up1_n e]
      show mT M b = _
      rw [h2 b]
      by_cases y : b < z
      · rw [if_pos y, if_pos (by omega)]
      · rw [if_neg y, if_neg (by omega)]
  · have e : b ≠ M.2.1 := by rw [hZ]; omega
    exact ⟨(up1_n e).trans (h3 b hb).1, (up1_n e).trans (h3 b hb).2⟩
  · by_cases e : b = z
    · subst e
      rw [lkp_lt h5 (Nat.le_refl _), lkp_lt h6 (Nat.le_refl _)]
      have e : b = M.2.1 := hZ.symm
      refine ⟨?_, ?_, ?_⟩
      · show up1 M.2.2.2.2 M.2.1 (fun _ => none) b k = none
        rw [e, up1_s]
      · show up1 M.2.2.1 M.2.1 (fun _ => 0) b k = 0
        rw [e, up1_s]
      · show up1 M.2.2.2.1 M.2.1 (fun _ => 0) b k = 0
        rw [e, up1_s]
    · obtain ⟨a1, a2, a3⟩ := h4 b k hb (by omega)
      have e : b ≠ M.2.1 := by rw [hZ]; exact e
      refine ⟨?_, ?_, ?_⟩
      · rw [← a1]; exact congrFun (up1_n e) k
      · rw [← a2]; exact congrFun (up1_n e) k
      · rw [← a3]; exact congrFun (up1_n e) k
theorem St.r {v : Option Nat} (h : St pl L z tR tI B M) (h8 : 8 ≤ a) (hz : a < z) : St pl L z ((a, j, v) :: tR) tI B (sR M a j v) := by
  obtain ⟨h1, h2, h3, h4, h5, h6⟩ := h
  refine ⟨h1, h2, fun b hb => ⟨(h3 b hb).1, ?_⟩, fun b k hb hz => ⟨?_, (h4 b k hb hz).2⟩, fun q hq => ?_, h6⟩
  · rw [← (h3 b hb).2]
    exact up2_n (by omega)
  · rw [mR_s]
    show _ = (if b = a ∧ k = j then some v else lkp tR b k).getD none
    by_cases e : b = a ∧ k = j
    · rw [if_pos e, if_pos e]; rfl
    · rw [if_neg e, if_neg e]; exact (h4 b k hb hz).1
  · rcases List.mem_cons.mp hq with e | e
    · rw [e]; exact hz
    · exact h5 q e
theorem St.i {v : Int32} (h : St pl L z tR tI B M) (h8 : 8 ≤ a) (hz : a < z) : St pl L z tR ((a, j, v) :: tI) B (sI M a j v) := by
  obtain ⟨h1, h2, h3, h4, h5, h6⟩ := h
  refine ⟨h1, h2, fun b hb => ⟨?_, (h3 b hb).2⟩, fun b k hb hz => ⟨(h4 b k hb hz).1, ?_, (h4 b k hb hz).2.2⟩, h5, fun q hq => ?_⟩
  · rw [← (h3 b hb).1]
    exact up2_n (by omega)
  · rw [mI_s]
    show _ = (if b = a ∧ k = j then some v else lkp tI b k).getD 0
    by_cases e : b = a ∧ k = j
    · rw [if_pos e, if_pos e]; rfl
    · rw [if_neg e, if_neg e]; exact (h4 b k hb hz).2.1
  · rcases List.mem_cons.mp hq with e | e
    · rw [e]; exact hz
    · exact h6 q e
theorem St.l (h : St pl L z tR tI B M) : St pl L z tR tI B (sL M a j 0) := by
  obtain ⟨h1, h2, h3, h4, h5, h6⟩ := h
  refine ⟨h1, h2, h3, fun b k hb hz => ⟨(h4 b k hb hz).1, (h4 b k hb hz).2.1, ?_⟩, h5, h6⟩
  rw [mL_s]
  split
  · rfl
  · exact (h4 b k hb hz).2.2
theorem i_nW {K : Option Nat → Mem → Option (Unit × Mem)} (h : St pl L z tR tI B M) (ht : TYF pl L z = (1, c)) (h8 : 8 ≤ z) (k : ∀ M1, St pl L (z + 1) tR tI B M1 → FQ (K (some z) M1) P) : FQ (nW M c K) P := by
  unfold nW
  rw [h.1]
  exact k _ (h.n h8 ht)
theorem i_nA {t n bd : Nat} {i : Int32} {K : Option Nat → Mem → Option (Unit × Mem)} (h : St pl L z tR tI B M) (hi : i = nI n) (hn : n < 2 ^ 31) (hb : n ≤ bd) (ht : TYF pl L z = (t, n)) (h8 : 8 ≤ z) (k : ∀ M1, St pl L (z + 1) tR tI B M1 → FQ (K (some z) M1) P) : FQ (nA M t i bd K) P := by
  unfold nA
  rw [hi, nI_clamp hn, if_pos ⟨nI_ge0 hn, hb⟩, h.1]
  exact k _ (h.n h8 ht)
theorem i_pR {v : Option Nat} {K : Mem → Option (Unit × Mem)} (h : St pl L z tR tI B M) (ht : TYF pl L a = (1, c)) (h8 : 8 ≤ a) (hz : a < z) (k : ∀ M1, St pl L z ((a, j, v) :: tR) tI B M1 → FQ (K M1) P) : FQ (pR M (some a) c j v K) P := by
  rw [pR_t ((h.ty hz).trans ht)]
  exact k _ (h.r h8 hz)
theorem i_pI {v : Int32} {K : Mem → Option (Unit × Mem)} (h : St pl L z tR tI B M) (ht : TYF pl L a = (1, c)) (h8 : 8 ≤ a) (hz : a < z) (k : ∀ M1, St pl L z tR ((a, j, v) :: tI) B M1 → FQ (K M1) P) : FQ (pI M (some a) c j v K) P := by
  rw [pI_t ((h.ty hz).trans ht)]
  exact k _ (h.i h8 hz)
theorem i_pL {K : Mem → Option (Unit × Mem)} (h : St pl L z tR tI B M) (ht : TYF pl L a = (1, c)) (hz : a < z) (k : ∀ M1, St pl L z tR tI B M1 → FQ (K M1) P) : FQ (pL M (some a) c j 0 K) P := by
  rw [pL_t ((h.ty hz).trans ht)]
  exact k _ h.l
theorem i_gR {v : Option Nat} {K : Option Nat → Option (Unit × Mem)} (h : St pl L z tR tI B M) (ht : TYF pl L a = (1, c)) (h8 : 8 ≤ a) (hz : a < z) (hv : (lkp tR a j).getD none = v) (k : FQ (K v) P) : FQ (gR M (some a) c j K) P := by
  rw [gR_t ((h.ty hz).trans ht), (h.2.2.2.1 a j h8 hz).1, hv]
  exact k
theorem i_gI {v : Int32} {K : Int32 → Option (Unit × Mem)} (h : St pl L z tR tI B M) (ht : TYF pl L a = (1, c)) (h8 : 8 ≤ a) (hz : a < z) (hv : (lkp tI a j).getD 0 = v) (k : FQ (K v) P) : FQ (gI M (some a) c j K) P := by
  rw [gI_t ((h.ty hz).trans ht), (h.2.2.2.1 a j h8 hz).2.1, hv]
  exact k
theorem i_wI {n m : Nat} {i v : Int32} {K : Mem → Option (Unit × Mem)} (h : St pl L z tR tI B M) (ht : TYF pl L a = (2, n)) (hi : i = nI m) (hm : m < n) (hn : n < 2 ^ 31) (h8 : 8 ≤ a) (hz : a < z) (k : ∀ M1, St pl L z tR ((a, m, v) :: tI) B M1 → FQ (K M1) P) : FQ (wI M (some a) 2 i v K) P := by
  rw [hi, wI_t ((h.ty hz).trans ht) hm hn]
  exact k _ (h.i h8 hz)
theorem i_wR {t n m b : Nat} {i : Int32} {K : Mem → Option (Unit × Mem)} (h : St pl L z tR tI B M) (ht : TYF pl L a = (t, n)) (hi : i = nI m) (hm : m < n) (hn : n < 2 ^ 31) (h8 : 8 ≤ a) (hz : a < z) (hb : b < z) (hv : TYF pl L b = (1, if t = 6 then 1 else 6)) (k : ∀ M1, St pl L z ((a, m, some b) :: tR) tI B M1 → FQ (K M1) P) : FQ (wR M (some a) t i (some b) K) P := by
  have e : wR M (some a) t i (some b) K = K (sR M a m (some b)) := by
    simp only [wR, h.ty hz, ht]
    rw [hi, nI_clamp (by omega), if_pos ⟨trivial, nI_ge0 (by omega), hm, fun q hq => by cases hq; rw [h.ty hb, hv]⟩]
  rw [e]
  exact k _ (h.r h8 hz)
theorem i_cA {x : Option (Unit × Mem)} {Q : Unit → Mem → Prop} {K : Unit → Mem → Option (Unit × Mem)} (hx : FQ x Q) (k : ∀ M1, Q () M1 → FQ (K () M1) P) : FQ (cA x K) P := by
  obtain ⟨b, M1, e, q⟩ := hx
  rw [e]
  exact k M1 q
theorem i_cN {K : Nat → Option (Unit × Mem)} (k : FQ (K a) P) : FQ (cN (some a) K) P := k
theorem i_end (h : P () M) : FQ (some ((), M)) P := ⟨(), M, rfl, h⟩
theorem x_i4 (h : St pl L z tR tI B M) (ht : TYF pl L a = (1, 4)) (h8 : 8 ≤ a) (hz : a < z) : FQ (f_X4_init (some a) M) (fun _ M' => St pl L z tR ((a, 2, 0) :: (a, 1, 0) :: tI) B M') := by
  unfold f_X4_init
  exact i_cN (i_pL h ht hz fun M1 h1 => i_pI h1 ht h8 hz fun M2 h2 => i_pI h2 ht h8 hz fun M3 h3 => i_end h3)
theorem x_i1 {i : Int32} (h : St pl L z tR tI B M) (ht : TYF pl L a = (1, 1)) (h8 : 8 ≤ a) (hz : a < z) : FQ (f_X1_init (some a) i M) (fun _ M' => St pl L z tR ((a, 0, i) :: tI) B M') := by
  unfold f_X1_init
  exact i_cN (i_pI h ht h8 hz fun M1 h1 => i_end h1)
end INIT
