/-! ===== sets of moves as bits; the other questions of a position ===== -/
theorem nx_orN (a b : Nat) : nI a ||| nI b = nI (a ||| b) := by
  apply Int32.toBitVec_inj.mp
  rw [Int32.toBitVec_or]
  show BitVec.ofNat 32 a ||| BitVec.ofNat 32 b = BitVec.ofNat 32 (a ||| b)
  apply BitVec.eq_of_toNat_eq
  rw [BitVec.toNat_or, BitVec.toNat_ofNat, BitVec.toNat_ofNat, BitVec.toNat_ofNat]
  apply Nat.eq_of_testBit_eq
  intro i
  simp only [Nat.testBit_or, Nat.testBit_mod_two_pow]
  by_cases h : i < 32 <;> simp [h]
theorem nI_shl {x k : Nat} (hk : k < 32) (h : x * 2 ^ k < 2 ^ 32) : nI x <<< (nI k &&& 31) = nI (x * 2 ^ k) := pk_shlN _ k (s_l k hk) h
theorem nI_m1 : nI (2 ^ 32 - 1) = -1 := by decide +kernel
theorem one_shl {m : Nat} (hm : m < 32) : (1 : Int32) <<< (nI m &&& 31) = nI (2 ^ m) := by
  have h := nI_shl (x := 1) hm (by rw [Nat.one_mul]; exact Nat.pow_lt_pow_right (by decide) hm)
  rw [Nat.one_mul] at h
  exact h
/-- the sets: χ says which -/
abbrev Chi : Type := Nat → Bool
def bS (χ : Chi) (n : Nat) : Nat := enc 1 (fun m => (χ m).toNat) n
theorem chi_lt (χ : Chi) (n : Nat) : ∀ p, p < n → (fun m => (χ m).toNat) p < 2 ^ 1 := fun p _ => by cases h : χ p <;> simp [h]
theorem bS_lt (χ : Chi) (n : Nat) : bS χ n < 2 ^ n := by have := enc_lt (w := 1) n (chi_lt χ n); rwa [Nat.one_mul] at this
theorem bS_bit (χ : Chi) (n m : Nat) : (bS χ n).testBit m = (decide (m < n) && χ m) := by
  have h := enc_bit (w := 1) (by decide) n (chi_lt χ n) m 0 (by decide)
  rw [Nat.one_mul, Nat.add_zero] at h
  unfold bS
  rw [h]
  cases χ m <;> simp
theorem bS_ext {χ χ' : Chi} {n : Nat} (h : ∀ m, m < n → χ m = χ' m) : bS χ n = bS χ' n := enc_ext n (fun p hp => by rw [h p hp])
theorem bS_inj {χ χ' : Chi} {n : Nat} (h : bS χ n = bS χ' n) : ∀ m, m < n → χ m = χ' m := by
  intro m hm
  have h1 := bS_bit χ n m
  rw [h, bS_bit] at h1
  simpa [hm] using h1.symm
theorem bS_in {χ : Chi} {n m : Nat} (hn : n ≤ 31) (hm : m < n) : (nI (bS χ n) &&& ((1 : Int32) <<< (nI m &&& 31)) = 0) ↔ χ m = false := by
  have h1 : 2 ^ m < 2 ^ 31 := Nat.pow_lt_pow_right (by decide) (by omega)
  have hle : bS χ n &&& 2 ^ m ≤ 2 ^ m := Nat.and_le_right
  rw [one_shl (by omega), nx_and, nI_z (by omega)]
  have hb : (bS χ n &&& 2 ^ m).testBit m = χ m := by
    rw [Nat.testBit_and, bS_bit, Nat.testBit_two_pow]
    simp [hm]
  constructor
  · intro e
    rw [e] at hb
    simpa using hb.symm
  · intro e
    apply Nat.eq_of_testBit_eq
    intro i
    rw [Nat.testBit_and, bS_bit, Nat.testBit_two_pow]
    by_cases ei : m = i
    · subst ei; simp [e]
    · simp [ei]
theorem bS_add {χ : Chi} {n m : Nat} (hm : m < n) : bS χ n ||| 2 ^ m = bS (fun j => χ j || j == m) n := by
  apply Nat.eq_of_testBit_eq
  intro i
  rw [Nat.testBit_or, bS_bit, bS_bit, Nat.testBit_two_pow]
  by_cases e : m = i
  · subst e; simp [hm]
  · have e' : (i == m) = false := by simp [Ne.symm e]
    simp [e, e']
theorem bS_addI {χ : Chi} {n m : Nat} (hn : n ≤ 31) (hm : m < n) : nI (bS χ n) ||| ((1 : Int32) <<< (nI m &&& 31)) = nI (bS (fun j => χ j || j == m) n) := by
  rw [one_shl (by omega), nx_orN, bS_add hm]
theorem bS_del {χ : Chi} {n m N : Nat} (hn : n ≤ N) (hm : m < n) : bS χ n &&& (2 ^ m ^^^ (2 ^ N - 1)) = bS (fun j => χ j && !(j == m)) n := by
  apply Nat.eq_of_testBit_eq
  intro i
  rw [Nat.testBit_and, Nat.testBit_xor, bS_bit, bS_bit, Nat.testBit_two_pow, Nat.testBit_two_pow_sub_one]
  by_cases hi : i < n
  · have hN : i < N := by omega
    by_cases e : m = i
    · subst e; simp [hi, hN]
    · have e' : (i == m) = false := by simp [Ne.symm e]
      simp [hi, hN, e, e']
  · simp [hi]
theorem bS_delI {χ : Chi} {n m : Nat} (hn : n ≤ 31) (hm : m < n) : nI (bS χ n) &&& (((1 : Int32) <<< (nI m &&& 31)) ^^^ (-1)) = nI (bS (fun j => χ j && !(j == m)) n) := by
  rw [one_shl (by omega), ← nI_m1, nx_xor, nx_and, bS_del (N := 32) (by omega) hm]
theorem bS_0 (n : Nat) : bS (fun _ => false) n = 0 := by
  apply Nat.eq_of_testBit_eq
  intro i
  rw [bS_bit]
  simp
/-! a position's counts -/
theorem x_setCount {M : Mem} {a m x : Nat} {π : Pos} (h : PosAt a π M) (ok : okP π) (hm : m < 8) (hx : x < 4) : f_X4_setCount (some a) (nI m) (nI x) M = some ((), sI M a 1 (nI (enc 2 (up1 π.2.1 m x) 8))) := by
  unfold f_X4_setCount
  rw [gI_t h.1, pI_t h.1, h.2.2.1]
  have h4 : (2 : Nat) ^ (2 * m) ≤ 2 ^ 14 := Nat.pow_le_pow_right (by decide) (by omega)
  have h5 : x * 2 ^ (2 * m) ≤ 3 * 2 ^ 14 := Nat.mul_le_mul (by omega) h4
  rw [show (2 : Int32) * nI m = nI (2 * m) from pk_mul 2 m, show (3 : Int32) = nI 3 from rfl, nI_shl (by omega) (by omega), nI_shl (by omega) (by omega), ← nI_m1, nx_xor, nx_and, nx_orN]
  rw [show (3 : Nat) = 2 ^ 2 - 1 from rfl, enc_put (by decide) ok.h2 hm (by omega) (by decide)]
theorem x_stock_l {M : Mem} {a : Nat} {π : Pos} (h : PosAt a π M) (ok : okP π) : ∀ (k n i : Nat), i + k = 8 → k < n → f_X4_stock_4 n (some a) (nI (bS (fun m => decide (m < i) && decide (0 < π.2.1 m)) 8)) (nI i) M = some (nI (bS (fun m => decide (0 < π.2.1 m)) 8), M)
  | k, 0, i, _, hn => absurd hn (by omega)
  | 0, n + 1, i, hi, _ => by
    obtain rfl : i = 8 := by omega
    rw [u_X4_stock_4]
    unfold b_X4_stock_4
    rw [if_pos (by decide), bS_ext (χ := fun m => decide (m < 8) && decide (0 < π.2.1 m)) (χ' := fun m => decide (0 < π.2.1 m)) (fun m hm => by simp [hm])]
  | k + 1, n + 1, i, hi, hn => by
    rw [u_X4_stock_4]
    unfold b_X4_stock_4
    rw [if_neg (show ¬ (8 : Int32) ≤ nI i from nI_ge (b := 8) (by omega) (by decide)), cR_t h.1, x_count h ok (by omega), cA_s, nI_1 i]
    have ih := x_stock_l h ok k n (i + 1) (by omega) (by omega)
    have hlt := ok.2.2.1 i
    by_cases hc : π.2.1 i = 0
    · rw [if_pos (by rw [hc]; decide)]
      rw [← ih]
      congr 2
      apply bS_ext
      intro m hm
      by_cases e : m = i
      · subst e; simp [hc]
      · have : (m < i + 1) ↔ m < i := by omega
        simp [this]
    · rw [if_neg (show ¬ nI (π.2.1 i) ≤ 0 from nI_nle (by omega) (by omega)), bS_addI (by decide) (by omega), ← ih]
      congr 2
      apply bS_ext
      intro m hm
      by_cases e : m = i
      · subst e; simp; omega
      · have : (m < i + 1) ↔ m < i := by omega
        have e' : (m == i) = false := by simp [e]
        simp [this, e']
theorem x_stock {M : Mem} {a : Nat} {π : Pos} (h : PosAt a π M) (ok : okP π) : f_X4_stock (some a) M = some (nI (bS (fun m => decide (0 < π.2.1 m)) 8), M) := by
  unfold f_X4_stock
  have h1 := x_stock_l h ok 8 FU 0 (by omega) (by unfold FU; omega)
  rw [← h1]
  congr 2
/-- the counts behind a no and what is done -/
def heapB (h : Nat → Nat) (no dn : Nat) : Nat → Nat := fun m => if m = no then (if h m < 3 then h m + 1 else h m) else if m = dn then h m - 1 else h m
theorem enc_up {w : Nat} {c : Nat → Nat} {p x n : Nat} (hp : p < n) (hx : c p ≤ x) : enc w (up1 c p x) n = enc w c n + (x - c p) * 2 ^ (w * p) := by
  induction n with
  | zero => omega
  | succ n ih =>
    unfold enc
    by_cases e : p = n
    · subst e
      rw [up1_s, enc_ext p (c' := c) (fun q hq => up1_n (by omega))]
      have : x = c p + (x - c p) := by omega
      rw [this, Nat.mul_add, Nat.add_sub_cancel_left, Nat.mul_comm (2 ^ (w * p)) (x - c p)]
      omega
    · rw [up1_n (Ne.symm e), ih (by omega)]
      omega
theorem x_heapBehind {M : Mem} {a no dn : Nat} {π : Pos} (h : PosAt a π M) (ok : okP π) (hno : no < 8) (hdn : dn < 8) (hne : no ≠ dn) (hd : 0 < π.2.1 dn) : f_X4_heapBehind (some a) (nI no) (nI dn) M = some (nI (enc 2 (heapB π.2.1 no dn) 8), M) := by
  have hlt1 := ok.2.2.1 no
  have hlt2 := ok.2.2.1 dn
  have hb := ok.hlt
  have p1 : (2 : Nat) ^ (2 * no) ≤ 2 ^ 14 := Nat.pow_le_pow_right (by decide) (by omega)
  have p2 : (2 : Nat) ^ (2 * dn) ≤ 2 ^ 14 := Nat.pow_le_pow_right (by decide) (by omega)
  -- the second half: from a sum S of digits g with g dn = h dn
  have key : ∀ (g : Nat → Nat), (∀ m, g m < 4) → g dn = π.2.1 dn → f_X4_heapBehind_26 (some a) (nI dn) (nI (enc 2 g 8)) M = some (nI (enc 2 (up1 g dn (g dn - 1)) 8), M) := by
    intro g hg hgd
    unfold f_X4_heapBehind_26
    rw [cR_t h.1, x_count h ok hdn, cA_s, if_neg (show ¬ nI (π.2.1 dn) ≤ 0 from nI_nle hd (by omega))]
    rw [show (2 : Int32) * nI dn = nI (2 * dn) from pk_mul 2 dn, one_shl (by omega)]
    have e1 := enc_up (w := 2) (c := up1 g dn (g dn - 1)) (p := dn) (x := g dn) (n := 8) hdn (by rw [up1_s]; omega)
    rw [up1_s, show g dn - (g dn - 1) = 1 by omega, Nat.one_mul] at e1
    have e2 : enc 2 (up1 (up1 g dn (g dn - 1)) dn (g dn)) 8 = enc 2 g 8 := enc_ext 8 (fun q _ => by
      by_cases e : q = dn
      · subst e; rw [up1_s]
      · rw [up1_n e, up1_n e])
    rw [e2] at e1
    rw [e1, pk_sub (by omega), Nat.add_sub_cancel]
  have fin : ∀ g : Nat → Nat, (∀ m, m < 8 → up1 g dn (g dn - 1) m = heapB π.2.1 no dn m) → enc 2 (up1 g dn (g dn - 1)) 8 = enc 2 (heapB π.2.1 no dn) 8 := fun g hg => enc_ext 8 hg
  unfold f_X4_heapBehind
  rw [cR_t h.1, x_count h ok hno, cA_s]
  by_cases h3 : π.2.1 no < 3
  · rw [if_neg (show ¬ (3 : Int32) ≤ nI (π.2.1 no) from nI_ge (b := 3) h3 (by decide)), gI_t h.1, h.2.2.1, show (2 : Int32) * nI no = nI (2 * no) from pk_mul 2 no, one_shl (by omega), nI_add]
    have e1 := enc_up (w := 2) (c := π.2.1) (p := no) (x := π.2.1 no + 1) (n := 8) hno (by omega)
    rw [Nat.add_sub_cancel_left, Nat.one_mul] at e1
    rw [← e1, key _ (fun m => by
      by_cases e : m = no
      · subst e; rw [up1_s]; omega
      · rw [up1_n e]; exact ok.2.2.1 m) (up1_n (Ne.symm hne)), fin]
    intro m _
    unfold heapB
    by_cases e1 : m = dn
    · subst e1
      rw [up1_s, up1_n (Ne.symm hne), if_neg (Ne.symm hne), if_pos rfl]
    · rw [up1_n e1]
      by_cases e2 : m = no
      · subst e2; rw [up1_s, if_pos rfl, if_pos h3]
      · rw [up1_n e2, if_neg e2, if_neg e1]
  · rw [if_pos (show (3 : Int32) ≤ nI (π.2.1 no) by rw [show π.2.1 no = 3 by omega]; decide), gI_t h.1, h.2.2.1, key _ ok.2.2.1 rfl, fin]
    intro m _
    unfold heapB
    by_cases e1 : m = dn
    · subst e1
      rw [up1_s, if_neg (Ne.symm hne), if_pos rfl]
    · rw [up1_n e1]
      by_cases e2 : m = no
      · subst e2; rw [if_pos rfl, if_neg h3]
      · rw [if_neg e2, if_neg e1]
/-! board and turn in one -/
def bt13 (π : Pos) : Nat → Nat := up1 π.1 12 π.2.2
def btN (π : Pos) : Nat := enc 4 (bt13 π) 13
theorem bt13_lt {π : Pos} (ok : okP π) : ∀ p, p < 13 → bt13 π p < 2 ^ 4 := by
  intro p _
  unfold bt13
  by_cases e : p = 12
  · subst e; rw [up1_s]; have := ok.2.2.2; omega
  · rw [up1_n e]; have := ok.1 p; omega
theorem btN_eq (π : Pos) : btN π = enc 4 π.1 12 + π.2.2 * 2 ^ 48 := by
  have h1 : enc 4 (bt13 π) 12 = enc 4 π.1 12 := enc_ext 12 (fun q hq => up1_n (by omega))
  have h2 : btN π = 2 ^ (4 * 12) * bt13 π 12 + enc 4 (bt13 π) 12 := rfl
  rw [h2, h1, show bt13 π 12 = π.2.2 from up1_s, Nat.mul_comm]
  omega
theorem btN_lt {π : Pos} (ok : okP π) : btN π < 2 ^ 49 := by have h1 := ok.clt; have h2 := ok.2.2.2; rw [btN_eq]; omega
theorem btN_inj {π π' : Pos} (ok : okP π) (ok' : okP π') (h : btN π = btN π') : π.1 = π'.1 ∧ π.2.2 = π'.2.2 := by
  have h1 := enc_inj (by decide) (bt13_lt ok) (bt13_lt ok') h
  refine ⟨?_, ?_⟩
  · funext p
    by_cases hp : p < 12
    · have := h1 p (by omega)
      unfold bt13 at this
      rwa [up1_n (by omega), up1_n (by omega)] at this
    · rw [ok.2.1 p (by omega), ok'.2.1 p (by omega)]
  · have := h1 12 (by omega)
    unfold bt13 at this
    rwa [up1_s, up1_s] at this
theorem x_boardAndTurn {M : Mem} {a : Nat} {π : Pos} (h : PosAt a π M) (ok : okP π) : f_X4_boardAndTurn (some a) M = some (lN (btN π), M) := by
  unfold f_X4_boardAndTurn
  rw [gL_t h.1, gI_t h.1, h.2.1, h.2.2.2]
  have h1 := ok.clt
  have h2 := ok.2.2.2
  rw [lN_nI (by omega), show (48 : Int32) = nI 48 from rfl, wb_shl _ (by decide), g_or' (k := 48) rfl h1 (by omega), btN_eq]
theorem x_setBT {M : Mem} {a : Nat} {π : Pos} (ok : okP π) (hT : mT M a = (1, 4)) : f_X4_setBoardAndTurn (some a) (lN (btN π)) M = some ((), sL (sI M a 2 (nI π.2.2)) a 0 (lN (enc 4 π.1 12))) := by
  unfold f_X4_setBoardAndTurn
  have h1 := ok.clt
  have h2 := ok.2.2.2
  have h3 := btN_lt ok
  rw [pI_t hT, pL_t (by rw [mT_sI]; exact hT)]
  rw [show (48 : Int32) = nI 48 from rfl, wb_shr (by omega) (by decide), lN_i, show (281474976710655 : Int64) = lN (2 ^ 48 - 1) from rfl, wb_mask (by omega) (by decide), btN_eq]
  rw [show (enc 4 π.1 12 + π.2.2 * 2 ^ 48) / 2 ^ 48 = π.2.2 by omega, show (enc 4 π.1 12 + π.2.2 * 2 ^ 48) % 2 ^ 48 = enc 4 π.1 12 by omega]
theorem x_take {M : Mem} {a b : Nat} {π : Pos} (h : PosAt b π M) (hT : mT M a = (1, 4)) : f_X4_take (some a) (some b) M = some ((), sI (sI (sL M a 0 (lN (enc 4 π.1 12))) a 1 (nI (enc 2 π.2.1 8))) a 2 (nI π.2.2)) := by
  unfold f_X4_take
  rw [gL_t h.1, pL_t hT, gI_t (by rw [mT_sL]; exact h.1), pI_t (by rw [mT_sL]; exact hT), gI_t (by rw [mT_sI, mT_sL]; exact h.1), pI_t (by rw [mT_sI, mT_sL]; exact hT), h.2.1, mI_sL, h.2.2.1, mI_s]
  rw [if_neg (by simp), mI_sL, h.2.2.2]
theorem PosAt.took {M : Mem} {a : Nat} {π : Pos} (hT : mT M a = (1, 4)) : PosAt a π (sI (sI (sL M a 0 (lN (enc 4 π.1 12))) a 1 (nI (enc 2 π.2.1 8))) a 2 (nI π.2.2)) := by
  refine ⟨hT, ?_, ?_, ?_⟩
  · rw [mL_sI, mL_sI, mL_s]; simp
  · rw [mI_s, mI_s]; simp
  · rw [mI_s]; simp
