/-! ===== PART B: pure. Numbers as rows of digits of w bits ===== -/
def enc (w : Nat) (c : Nat → Nat) : Nat → Nat
  | 0 => 0
  | n + 1 => 2 ^ (w * n) * c n + enc w c n
theorem enc_lt {w : Nat} {c : Nat → Nat} : ∀ n, (∀ p, p < n → c p < 2 ^ w) → enc w c n < 2 ^ (w * n)
  | 0, _ => by simp [enc]
  | n + 1, h => by
    have h1 := enc_lt n (fun p hp => h p (by omega))
    have h2 := h n (by omega)
    have h3 : 2 ^ (w * (n + 1)) = 2 ^ (w * n) * 2 ^ w := by rw [Nat.mul_add, Nat.mul_one, Nat.pow_add]
    have h4 : 2 ^ (w * n) * c n + 2 ^ (w * n) ≤ 2 ^ (w * n) * 2 ^ w := by
      rw [← Nat.mul_succ]
      exact Nat.mul_le_mul_left _ h2
    rw [h3]
    unfold enc
    omega
theorem enc_bit {w : Nat} (hw : 0 < w) {c : Nat → Nat} : ∀ n, (∀ p, p < n → c p < 2 ^ w) → ∀ p j, j < w → (enc w c n).testBit (w * p + j) = (decide (p < n) && (c p).testBit j)
  | 0, _, p, j, _ => by simp [enc]
  | n + 1, h, p, j, hj => by
    have h1 := enc_lt n (fun p hp => h p (by omega))
    unfold enc
    rw [Nat.testBit_two_pow_mul_add _ h1]
    by_cases hp : p < n
    · have hlt : w * p + j < w * n := by
        have : w * p + w ≤ w * n := by rw [← Nat.mul_succ]; exact Nat.mul_le_mul_left _ hp
        omega
      rw [if_pos hlt, enc_bit hw n (fun p hp => h p (by omega)) p j hj]
      simp [hp, show p < n + 1 by omega]
    · have hge : ¬ w * p + j < w * n := by
        have : w * n ≤ w * p := Nat.mul_le_mul_left _ (by omega)
        omega
      rw [if_neg hge]
      by_cases hpn : p = n
      · subst hpn
        rw [show w * p + j - w * p = j by omega]
        simp
      · have hp2 : ¬ p < n + 1 := by omega
        simp only [hp2, decide_false, Bool.false_and]
        apply Nat.testBit_lt_two_pow
        have hb := h n (by omega)
        have : w * (n + 1) ≤ w * p := Nat.mul_le_mul_left _ (by omega)
        rw [Nat.mul_add, Nat.mul_one] at this
        exact Nat.lt_of_lt_of_le hb (Nat.pow_le_pow_right (by decide) (by omega))
theorem enc_ext {w : Nat} {c c' : Nat → Nat} : ∀ n, (∀ p, p < n → c p = c' p) → enc w c n = enc w c' n
  | 0, _ => rfl
  | n + 1, h => by unfold enc; rw [h n (by omega), enc_ext n (fun p hp => h p (by omega))]
/-- every bit of a number has a digit -/
theorem bit_split {w : Nat} (hw : 0 < w) (i : Nat) : ∃ p j, j < w ∧ i = w * p + j := ⟨i / w, i % w, Nat.mod_lt _ hw, (Nat.div_add_mod i w).symm⟩
theorem enc_dig {w : Nat} (hw : 0 < w) {c : Nat → Nat} {n : Nat} (h : ∀ p, p < n → c p < 2 ^ w) (p : Nat) : enc w c n / 2 ^ (w * p) % 2 ^ w = if p < n then c p else 0 := by
  apply Nat.eq_of_testBit_eq
  intro i
  rw [Nat.testBit_mod_two_pow, Nat.testBit_div_two_pow]
  by_cases hi : i < w
  · rw [show i + w * p = w * p + i by omega, enc_bit hw n h p i hi]
    by_cases hp : p < n <;> simp [hi, hp]
  · simp only [hi, decide_false, Bool.false_and]
    by_cases hp : p < n
    · simp only [hp, if_true]
      exact (Nat.testBit_lt_two_pow (Nat.lt_of_lt_of_le (h p hp) (Nat.pow_le_pow_right (by decide) (by omega)))).symm
    · simp [hp]
theorem enc_inj {w : Nat} (hw : 0 < w) {c c' : Nat → Nat} {n : Nat} (h : ∀ p, p < n → c p < 2 ^ w) (h' : ∀ p, p < n → c' p < 2 ^ w) (e : enc w c n = enc w c' n) : ∀ p, p < n → c p = c' p := by
  intro p hp
  have h1 := enc_dig hw h p
  rw [e, enc_dig hw h' p, if_pos hp, if_pos hp] at h1
  exact h1.symm
theorem wb_xorN {a b : Nat} (ha : a < 2 ^ 64) (hb : b < 2 ^ 64) : lN a ^^^ lN b = lN (a ^^^ b) := by
  apply wb_inj
  rw [Int64.toBitVec_xor, wb_tb, wb_tb, wb_tb]
  apply BitVec.eq_of_toNat_eq
  rw [BitVec.toNat_xor, BitVec.toNat_ofNat, BitVec.toNat_ofNat, BitVec.toNat_ofNat, Nat.mod_eq_of_lt ha, Nat.mod_eq_of_lt hb, Nat.mod_eq_of_lt (Nat.xor_lt_two_pow ha hb)]
theorem lN_m1 : lN (2 ^ 64 - 1) = -1 := by decide +kernel
/-- a digit is put into a row of digits -/
theorem enc_put {w : Nat} (hw : 0 < w) {c : Nat → Nat} {n p x N : Nat} (h : ∀ p, p < n → c p < 2 ^ w) (hp : p < n) (hx : x < 2 ^ w) (hN : w * n ≤ N) : (enc w c n &&& (((2 ^ w - 1) * 2 ^ (w * p)) ^^^ (2 ^ N - 1))) ||| (x * 2 ^ (w * p)) = enc w (up1 c p x) n := by
  have h2 : ∀ q, q < n → up1 c p x q < 2 ^ w := by
    intro q hq
    by_cases e : q = p
    · subst e; rw [up1_s]; exact hx
    · rw [up1_n e]; exact h q hq
  apply Nat.eq_of_testBit_eq
  intro i
  obtain ⟨q, j, hj, rfl⟩ := bit_split hw i
  rw [Nat.testBit_or, Nat.testBit_and, Nat.testBit_xor, enc_bit hw n h q j hj, enc_bit hw n h2 q j hj, Nat.mul_comm _ (2 ^ (w * p)), Nat.mul_comm x, Nat.testBit_two_pow_mul, Nat.testBit_two_pow_mul, Nat.testBit_two_pow_sub_one, Nat.testBit_two_pow_sub_one]
  by_cases hq : q < n
  · have hlt : w * q + j < N := by
      have : w * q + w ≤ w * n := by rw [← Nat.mul_succ]; exact Nat.mul_le_mul_left _ hq
      omega
    simp only [hq, hlt, decide_true, Bool.true_and]
    by_cases e : q = p
    · subst e
      rw [up1_s]
      simp [show w * q + j - w * q = j by omega, hj]
    · rw [up1_n e]
      rcases Nat.lt_or_ge q p with h1 | h1
      · have : w * q + w ≤ w * p := by rw [← Nat.mul_succ]; exact Nat.mul_le_mul_left _ h1
        simp [show ¬ w * p ≤ w * q + j by omega]
      · have h3 : w * p + w ≤ w * q := by rw [← Nat.mul_succ]; exact Nat.mul_le_mul_left _ (by omega)
        have hb : x.testBit (w * q + j - w * p) = false := Nat.testBit_lt_two_pow (Nat.lt_of_lt_of_le hx (Nat.pow_le_pow_right (by decide) (by omega)))
        simp [show w * p ≤ w * q + j by omega, show ¬ w * q + j - w * p < w by omega, hb]
  · have h3 : w * p + w ≤ w * q := by rw [← Nat.mul_succ]; exact Nat.mul_le_mul_left _ (by omega)
    have hb : x.testBit (w * q + j - w * p) = false := Nat.testBit_lt_two_pow (Nat.lt_of_lt_of_le hx (Nat.pow_le_pow_right (by decide) (by omega)))
    simp [hq, hb]
/-! the memory, as it is asked and written -/
theorem mT_sI {M : Mem} {a k : Nat} {v : Int32} : mT (sI M a k v) = mT M := rfl
theorem mT_sL {M : Mem} {a k : Nat} {v : Int64} : mT (sL M a k v) = mT M := rfl
theorem mT_sR {M : Mem} {a k : Nat} {v : Option Nat} : mT (sR M a k v) = mT M := rfl
theorem mZ_sI {M : Mem} {a k : Nat} {v : Int32} : mZ (sI M a k v) = mZ M := rfl
theorem mZ_sL {M : Mem} {a k : Nat} {v : Int64} : mZ (sL M a k v) = mZ M := rfl
theorem mZ_sR {M : Mem} {a k : Nat} {v : Option Nat} : mZ (sR M a k v) = mZ M := rfl
theorem mI_sL {M : Mem} {a k : Nat} {v : Int64} : mI (sL M a k v) = mI M := rfl
theorem mI_sR {M : Mem} {a k : Nat} {v : Option Nat} : mI (sR M a k v) = mI M := rfl
theorem mL_sI {M : Mem} {a k : Nat} {v : Int32} : mL (sI M a k v) = mL M := rfl
theorem mL_sR {M : Mem} {a k : Nat} {v : Option Nat} : mL (sR M a k v) = mL M := rfl
theorem mR_sI {M : Mem} {a k : Nat} {v : Int32} : mR (sI M a k v) = mR M := rfl
theorem mR_sL {M : Mem} {a k : Nat} {v : Int64} : mR (sL M a k v) = mR M := rfl
theorem mI_s {M : Mem} {a k b j : Nat} {v : Int32} : mI (sI M a k v) b j = if b = a ∧ j = k then v else mI M b j := by
  show up2 M.2.2.1 a k v b j = _
  by_cases h : b = a
  · subst h
    rw [up2_s]
    by_cases h2 : j = k
    · subst h2; rw [up1_s]; simp
    · rw [up1_n h2]; simp [h2]; rfl
  · rw [up2_n h]; simp [h]; rfl
theorem mL_s {M : Mem} {a k b j : Nat} {v : Int64} : mL (sL M a k v) b j = if b = a ∧ j = k then v else mL M b j := by
  show up2 M.2.2.2.1 a k v b j = _
  by_cases h : b = a
  · subst h
    rw [up2_s]
    by_cases h2 : j = k
    · subst h2; rw [up1_s]; simp
    · rw [up1_n h2]; simp [h2]; rfl
  · rw [up2_n h]; simp [h]; rfl
theorem mR_s {M : Mem} {a k b j : Nat} {v : Option Nat} : mR (sR M a k v) b j = if b = a ∧ j = k then v else mR M b j := by
  show up2 M.2.2.2.2 a k v b j = _
  by_cases h : b = a
  · subst h
    rw [up2_s]
    by_cases h2 : j = k
    · subst h2; rw [up1_s]; simp
    · rw [up1_n h2]; simp [h2]; rfl
  · rw [up2_n h]; simp [h]; rfl
section ASK
variable {β γ : Type} {M : Mem} {a c k : Nat}
theorem gI_t {K : Int32 → Option β} (h : mT M a = (1, c)) : gI M (some a) c k K = K (mI M a k) := by simp [gI, h]
theorem gL_t {K : Int64 → Option β} (h : mT M a = (1, c)) : gL M (some a) c k K = K (mL M a k) := by simp [gL, h]
theorem gR_t {K : Option Nat → Option β} (h : mT M a = (1, c)) : gR M (some a) c k K = K (mR M a k) := by simp [gR, h]
theorem pI_t {v : Int32} {K : Mem → Option β} (h : mT M a = (1, c)) : pI M (some a) c k v K = K (sI M a k v) := by simp [pI, h]
theorem pL_t {v : Int64} {K : Mem → Option β} (h : mT M a = (1, c)) : pL M (some a) c k v K = K (sL M a k v) := by simp [pL, h]
theorem pR_t {v : Option Nat} {K : Mem → Option β} (h : mT M a = (1, c)) : pR M (some a) c k v K = K (sR M a k v) := by simp [pR, h]
theorem cR_t {t : Nat × Nat} {K : Option β} (h : mT M a = t) : cR M (some a) t K = K := by simp [cR, h]
theorem cA_s {b : β} {K : β → Mem → Option γ} : cA (some (b, M)) K = K b M := rfl
theorem nI_ge0 {i : Nat} (h : i < 2 ^ 31) : (0 : Int32) ≤ nI i := by have := nI_le (a := 0) (b := i) (by omega) h; rwa [nI_0] at this
theorem aI_t {t n i : Nat} {K : Int32 → Option β} (h : mT M a = (t, n)) (hi : i < n) (hn : n < 2 ^ 31) : aI M (some a) t (nI i) K = K (mI M a i) := by
  simp only [aI, h]
  rw [nI_clamp (by omega), if_pos ⟨trivial, nI_ge0 (by omega), hi⟩]
theorem aL_t {n i : Nat} {K : Int64 → Option β} (h : mT M a = (3, n)) (hi : i < n) (hn : n < 2 ^ 31) : aL M (some a) (nI i) K = K (mL M a i) := by
  simp only [aL, h]
  rw [nI_clamp (by omega), if_pos ⟨trivial, nI_ge0 (by omega), hi⟩]
theorem aR_t {t n i : Nat} {K : Option Nat → Option β} (h : mT M a = (t, n)) (hi : i < n) (hn : n < 2 ^ 31) : aR M (some a) t (nI i) K = K (mR M a i) := by
  simp only [aR, h]
  rw [nI_clamp (by omega), if_pos ⟨trivial, nI_ge0 (by omega), hi⟩]
theorem wI_t {t n i : Nat} {v : Int32} {K : Mem → Option β} (h : mT M a = (t, n)) (hi : i < n) (hn : n < 2 ^ 31) : wI M (some a) t (nI i) v K = K (sI M a i v) := by
  simp only [wI, h]
  rw [nI_clamp (by omega), if_pos ⟨trivial, nI_ge0 (by omega), hi⟩]
theorem wL_t {n i : Nat} {v : Int64} {K : Mem → Option β} (h : mT M a = (3, n)) (hi : i < n) (hn : n < 2 ^ 31) : wL M (some a) (nI i) v K = K (sL M a i v) := by
  simp only [wL, h]
  rw [nI_clamp (by omega), if_pos ⟨trivial, nI_ge0 (by omega), hi⟩]
theorem aN_t {t n : Nat} {K : Int32 → Option β} (h : mT M a = (t, n)) (h2 : 2 ≤ t) (h9 : t ≠ 9) (h10 : t ≤ 10) : aN M (some a) K = K (nI n) := by
  simp only [aN, h]
  rw [if_pos ⟨h2, h9, h10⟩]
  rfl
theorem tv_0 {K : Option β} : tv 0 K = K := by simp [tv]
theorem tv_1 {K : Option β} : tv 1 K = K := by simp [tv]
theorem lpN_s {α : Type} {z : α} {b : α → α} {n : Nat} : lpN z b (n + 1) = b (lpN z b n) := rfl
end ASK
/-! a position: cells, counts, turn -/
abbrev Pos : Type := (Nat → Nat) × (Nat → Nat) × Nat
def okP (π : Pos) : Prop := (∀ p, π.1 p < 9) ∧ (∀ p, 12 ≤ p → π.1 p = 0) ∧ (∀ m, π.2.1 m < 4) ∧ π.2.2 < 2
def PosAt (a : Nat) (π : Pos) (M : Mem) : Prop := mT M a = (1, 4) ∧ mL M a 0 = lN (enc 4 π.1 12) ∧ mI M a 1 = nI (enc 2 π.2.1 8) ∧ mI M a 2 = nI π.2.2
theorem okP.c4 {π : Pos} (h : okP π) : ∀ p, p < 12 → π.1 p < 2 ^ 4 := fun p _ => Nat.lt_of_lt_of_le (h.1 p) (by decide)
theorem okP.h2 {π : Pos} (h : okP π) : ∀ p, p < 8 → π.2.1 p < 2 ^ 2 := fun p _ => h.2.2.1 p
theorem okP.clt {π : Pos} (h : okP π) : enc 4 π.1 12 < 2 ^ 48 := enc_lt 12 h.c4
theorem okP.hlt {π : Pos} (h : okP π) : enc 2 π.2.1 8 < 2 ^ 16 := enc_lt 8 h.h2
theorem nI_mod32 (n : Nat) : nI n = nI (n % 2 ^ 32) := by
  apply Int32.toBitVec_inj.mp
  show BitVec.ofNat 32 n = BitVec.ofNat 32 (n % 2 ^ 32)
  apply BitVec.eq_of_toNat_eq
  rw [BitVec.toNat_ofNat, BitVec.toNat_ofNat, Nat.mod_mod]
theorem nI_mask (n : Nat) {m : Int32} (k : Nat) (hk : k ≤ 32) (hm : m.toBitVec.toNat = 2 ^ k - 1) : nI n &&& m = nI (n % 2 ^ k) := by
  rw [nI_mod32 n, pk_andN (Nat.mod_lt _ (by decide)) k hm, Nat.mod_mod_of_dvd _ (Nat.pow_dvd_pow 2 hk)]
theorem x_cell {M : Mem} {a p : Nat} {π : Pos} (h : PosAt a π M) (ok : okP π) (hp : p < 16) : f_X4_cell (some a) (nI p) M = some (nI (π.1 p), M) := by
  unfold f_X4_cell
  rw [gL_t h.1, h.2.1]
  have hb := ok.clt
  rw [show (4 : Int32) * nI p = nI (4 * p) from pk_mul 4 p, wb_shr (by omega) (by omega), lN_i, nI_mask _ 4 (by decide) (by decide), enc_dig (by decide) ok.c4]
  congr 3
  by_cases hq : p < 12
  · rw [if_pos hq]
  · rw [if_neg hq, ok.2.1 p (by omega)]
theorem x_count {M : Mem} {a m : Nat} {π : Pos} (h : PosAt a π M) (ok : okP π) (hm : m < 8) : f_X4_count (some a) (nI m) M = some (nI (π.2.1 m), M) := by
  unfold f_X4_count
  rw [gI_t h.1, h.2.2.1]
  have hb := ok.hlt
  rw [show (2 : Int32) * nI m = nI (2 * m) from pk_mul 2 m, pk_ushrN (by omega) (nI (2 * m)) (2 * m) (s_u _ (by omega)), nI_mask _ 2 (by decide) (by decide), enc_dig (by decide) ok.h2, if_pos hm]
def sideI (c : Nat) : Int32 := if c = 0 then -1 else nI ((c - 1) / 4)
theorem nI_z {c : Nat} (h : c < 2 ^ 31) : nI c = 0 ↔ c = 0 := by rw [← nI_0]; exact nI_eq h (by decide)
theorem x_sideOf {M : Mem} {c : Nat} (hc : c < 2 ^ 31) : f_X4_sideOf (nI c) M = some (sideI c, M) := by
  unfold f_X4_sideOf sideI
  by_cases h : c = 0
  · rw [if_pos h, if_pos ((nI_z hc).mpr h)]
  · rw [if_neg h, if_neg (fun e => h ((nI_z hc).mp e))]
    simp only [nzI]
    rw [if_neg (by decide)]
    rw [show (1 : Int32) = nI 1 from rfl, show (4 : Int32) = nI 4 from rfl, pk_sub (by omega), pk_div (by omega) (by decide) (by decide)]
theorem sideI_eq {c s : Nat} (hc : c < 9) (hs : s < 2) : sideI c = nI s ↔ (c ≠ 0 ∧ (c - 1) / 4 = s) := by
  unfold sideI
  by_cases h : c = 0
  · rw [if_pos h]
    have : ¬ (-1 : Int32) = nI s := by
      rcases (show s = 0 ∨ s = 1 by omega) with rfl | rfl <;> decide
    simp [h, this]
  · rw [if_neg h, nI_eq (by omega) (by omega)]
    simp [h]
/-- how many of the first n places hold a piece of a side -/
def cntS (c : Nat → Nat) (s : Nat) : Nat → Nat
  | 0 => 0
  | n + 1 => cntS c s n + if c n ≠ 0 ∧ (c n - 1) / 4 = s then 1 else 0
theorem cntS_s {c : Nat → Nat} {s n : Nat} : cntS c s (n + 1) = cntS c s n + if c n ≠ 0 ∧ (c n - 1) / 4 = s then 1 else 0 := rfl
theorem cntS_le (c : Nat → Nat) (s : Nat) : ∀ n, cntS c s n ≤ n
  | 0 => Nat.le_refl _
  | n + 1 => by have := cntS_le c s n; rw [cntS_s]; split <;> omega
theorem cntS_stop {c : Nat → Nat} {s k : Nat} (h : ∀ p, k ≤ p → c p = 0) : ∀ n, k ≤ n → cntS c s n = cntS c s k
  | 0, hn => by rw [show k = 0 by omega]
  | n + 1, hn => by
    by_cases e : k = n + 1
    · rw [e]
    · rw [cntS_s, cntS_stop h n (by omega), h n (by omega)]
      simp
theorem x_pieces_l {M : Mem} {a s : Nat} {π : Pos} (h : PosAt a π M) (ok : okP π) (hs : s < 2) : ∀ (k n i : Nat), i + k = 12 → k < n → f_X4_pieces_4 n (some a) (nI s) (nI (cntS π.1 s i)) (nI i) M = some (nI (cntS π.1 s 12), M)
  | k, 0, i, _, hn => absurd hn (by omega)
  | 0, n + 1, i, hi, _ => by
    obtain rfl : i = 12 := by omega
    rw [u_X4_pieces_4]
    unfold b_X4_pieces_4
    rw [if_pos (by decide)]
  | k + 1, n + 1, i, hi, hn => by
    rw [u_X4_pieces_4]
    unfold b_X4_pieces_4
    rw [if_neg (show ¬ (12 : Int32) ≤ nI i from nI_ge (b := 12) (by omega) (by decide)), cR_t h.1, x_cell h ok (by omega), cA_s, x_sideOf (by have := ok.1 i; omega), cA_s]
    have ih := x_pieces_l h ok hs k n (i + 1) (by omega) (by omega)
    have hse := sideI_eq (ok.1 i) hs
    rw [nI_1 i]
    rw [cntS_s] at ih
    by_cases hc : π.1 i ≠ 0 ∧ (π.1 i - 1) / 4 = s
    · rw [if_pos (hse.mpr hc)]
      rw [if_pos hc] at ih
      rw [nI_1]
      exact ih
    · rw [if_neg (fun e => hc (hse.mp e))]
      rw [if_neg hc] at ih
      exact ih
theorem x_pieces {M : Mem} {a s : Nat} {π : Pos} (h : PosAt a π M) (ok : okP π) (hs : s < 2) : f_X4_pieces (some a) (nI s) M = some (nI (cntS π.1 s 12), M) := by
  unfold f_X4_pieces
  exact x_pieces_l h ok hs 12 FU 0 (by omega) (by unfold FU; omega)
theorem lN_nI {x : Nat} (h : x < 2 ^ 31) : (nI x).toInt64 = lN x := nI_l h
theorem x_setCell {M : Mem} {a p x : Nat} {π : Pos} (h : PosAt a π M) (ok : okP π) (hp : p < 12) (hx : x < 9) : ∃ M', f_X4_setCell (some a) (nI p) (nI x) M = some ((), M') ∧ M' = sL M a 0 (lN (enc 4 (up1 π.1 p x) 12)) := by
  refine ⟨_, ?_, rfl⟩
  unfold f_X4_setCell
  rw [gL_t h.1, pL_t h.1, h.2.1]
  have hb := ok.clt
  have h4 : (2 : Nat) ^ (4 * p) ≤ 2 ^ 44 := Nat.pow_le_pow_right (by decide) (by omega)
  have e1 : (15 : Int64) = lN 15 := rfl
  have e2 : (-1 : Int64) = lN (2 ^ 64 - 1) := lN_m1.symm
  rw [show (4 : Int32) * nI p = nI (4 * p) from pk_mul 4 p, e1, e2, wb_shl 15 (by omega), lN_nI (by omega), wb_shl x (by omega), wb_xorN (by omega) (by decide), wb_and (by omega) (Nat.xor_lt_two_pow (by omega) (by decide)), wb_or]
  · rw [show (15 : Nat) = 2 ^ 4 - 1 from rfl, enc_put (by decide) ok.c4 hp (by omega) (by decide)]
  · exact Nat.lt_of_le_of_lt Nat.and_le_left (by omega)
  · have : x * 2 ^ (4 * p) ≤ 8 * 2 ^ 44 := Nat.mul_le_mul (by omega) h4
    omega
