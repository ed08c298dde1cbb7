/-! ===== sums: what a postfix row of signs is worth ===== -/
def i32 (z : Int) : Int32 := Int32.ofInt z
def i64 (z : Int) : Int64 := Int64.ofInt z
def sm (z : Int) : Prop := -2147483648 ≤ z ∧ z < 2147483648
def bg (z : Int) : Prop := -9223372036854775808 ≤ z ∧ z < 9223372036854775808
theorem i32_t {z : Int} (h : sm z) : (i32 z).toInt = z := Int32.toInt_ofInt_of_le (by simpa using h.1) (by simpa using h.2)
theorem i64_t {z : Int} (h : bg z) : (i64 z).toInt = z := Int64.toInt_ofInt_of_le (by simpa using h.1) (by simpa using h.2)
theorem sm.bg {z : Int} (h : sm z) : bg z := ⟨by have := h.1; omega, by have := h.2; omega⟩
theorem i32_le {x y : Int} (hx : sm x) (hy : sm y) : i32 x ≤ i32 y ↔ x ≤ y := by rw [Int32.le_iff_toInt_le, i32_t hx, i32_t hy]
theorem i32_lt {x y : Int} (hx : sm x) (hy : sm y) : i32 x < i32 y ↔ x < y := by rw [Int32.lt_iff_toInt_lt, i32_t hx, i32_t hy]
theorem i32_eq {x y : Int} (hx : sm x) (hy : sm y) : i32 x = i32 y ↔ x = y := by rw [← Int32.toInt_inj, i32_t hx, i32_t hy]
theorem i64_le {x y : Int} (hx : bg x) (hy : bg y) : i64 x ≤ i64 y ↔ x ≤ y := by rw [Int64.le_iff_toInt_le, i64_t hx, i64_t hy]
theorem i64_lt {x y : Int} (hx : bg x) (hy : bg y) : i64 x < i64 y ↔ x < y := by rw [Int64.lt_iff_toInt_lt, i64_t hx, i64_t hy]
theorem i64_eq {x y : Int} (hx : bg x) (hy : bg y) : i64 x = i64 y ↔ x = y := by rw [← Int64.toInt_inj, i64_t hx, i64_t hy]
theorem i32_w {x : Int} (hx : sm x) : (i32 x).toInt64 = i64 x := by
  rw [← Int64.toInt_inj, i64_t hx.bg, Int32.toInt_toInt64, i32_t hx]
theorem i64_n {x : Int} (hx : sm x) : (i64 x).toInt32 = i32 x := by
  rw [← i32_w hx]
  exact Int32.toInt32_toInt64 _
theorem i64_add (x y : Int) : i64 x + i64 y = i64 (x + y) := (Int64.ofInt_add x y).symm
theorem i64_sub (x y : Int) : i64 x - i64 y = i64 (x - y) := (Int64.ofInt_sub x y).symm
theorem i64_mul (x y : Int) : i64 x * i64 y = i64 (x * y) := (Int64.ofInt_mul x y).symm
theorem i64_neg (x : Int) : -i64 x = i64 (-x) := (Int64.ofInt_neg x).symm
theorem i32_add (x y : Int) : i32 x + i32 y = i32 (x + y) := (Int32.ofInt_add x y).symm
theorem i32_sub (x y : Int) : i32 x - i32 y = i32 (x - y) := (Int32.ofInt_sub x y).symm
theorem i32_neg (x : Int) : -i32 x = i32 (-x) := (Int32.ofInt_neg x).symm
theorem i32_n (n : Nat) : i32 (n : Int) = nI n := Int32.ofInt_eq_ofNat
/-- a value of a sum -/
def vl (z : Int) : Prop := -1000000 ≤ z ∧ z ≤ 1000000
theorem vl.sm {z : Int} (h : vl z) : sm z := ⟨by have := h.1; omega, by have := h.2; omega⟩
theorem i32_div {x y : Int} (hx : vl x) (hy : vl y) : i32 x / i32 y = i32 (x.tdiv y) := by
  have e := Int32.ofInt_tdiv (a := x) (b := y) (by have := hx.1; show (-2147483648 : Int) ≤ x; omega) (by have := hx.2; show x ≤ (2147483647 : Int); omega) (by have := hy.1; show (-2147483648 : Int) ≤ y; omega) (by have := hy.2; show y ≤ (2147483647 : Int); omega)
  exact e.symm
theorem i64_div {x y : Int} (hx : vl x) (hy : vl y) : i64 x / i64 y = i64 (x.tdiv y) := by
  have e := Int64.ofInt_tdiv (a := x) (b := y) (by have := hx.1; show (-9223372036854775808 : Int) ≤ x; omega) (by have := hx.2; show x ≤ (9223372036854775807 : Int); omega) (by have := hy.1; show (-9223372036854775808 : Int) ≤ y; omega) (by have := hy.2; show y ≤ (9223372036854775807 : Int); omega)
  exact e.symm
def bnd (z : Int) : Int := if z ≤ 1000000 then (if -1000000 ≤ z then z else -1000000) else 1000000
theorem bnd_vl (z : Int) : vl (bnd z) := by
  unfold bnd vl
  split
  · split <;> omega
  · omega
theorem bnd_id {z : Int} (h : vl z) : bnd z = z := by
  unfold bnd
  rw [if_pos h.2, if_pos h.1]
/-- the signs that join two, by their numbers in the class -/
def jnZ (k : Nat) (x y : Int) : Int :=
  if k = 17 then x * y else if k = 18 then (if x + y ≤ 0 then 0 else 1)
  else if k = 21 then (if y ≤ x then 0 else 1) else if k = 22 then (if y < x then 0 else 1) else if k = 23 then (if x ≤ y then 0 else 1) else if k = 24 then (if x < y then 0 else 1)
  else if k = 25 then (if x = y then 1 else 0) else if k = 26 then (if x = y then 0 else 1)
  else if k = 27 then bnd (x + y) else if k = 28 then bnd (x - y) else if k = 29 then bnd (x * y) else (if y = 0 then 0 else x.tdiv y)
def isBn (k : Nat) : Bool := k == 17 || k == 18
def isCmp (k : Nat) : Bool := 21 ≤ k && k ≤ 26
def isAr (k : Nat) : Bool := 27 ≤ k && k ≤ 30
def b01 (z : Int) : Prop := z = 0 ∨ z = 1
theorem b01.vl {z : Int} (h : b01 z) : vl z := by rcases h with rfl | rfl <;> exact ⟨by decide, by decide⟩
theorem tdiv_vl {x y : Int} (hx : vl x) (hy : y ≠ 0) : vl (x.tdiv y) := by
  have h1 : (x.tdiv y).natAbs ≤ x.natAbs := by rw [Int.natAbs_tdiv]; exact Nat.div_le_self _ _
  obtain ⟨a, b⟩ := hx
  constructor <;> omega
theorem jnZ_vl {k : Nat} {x y : Int} (hk : isAr k = true) (hx : vl x) (hy : vl y) : vl (jnZ k x y) := by
  unfold isAr at hk
  simp only [Bool.and_eq_true, decide_eq_true_eq] at hk
  unfold jnZ
  rw [if_neg (by omega), if_neg (by omega), if_neg (by omega), if_neg (by omega), if_neg (by omega), if_neg (by omega), if_neg (by omega), if_neg (by omega)]
  split
  · exact bnd_vl _
  · split
    · exact bnd_vl _
    · split
      · exact bnd_vl _
      · split
        · exact ⟨by decide, by decide⟩
        · rename_i h; exact tdiv_vl hx h
theorem jnZ_01 {k : Nat} {x y : Int} (hk : isCmp k = true) : b01 (jnZ k x y) := by
  unfold isCmp at hk
  simp only [Bool.and_eq_true, decide_eq_true_eq] at hk
  unfold jnZ b01
  rw [if_neg (by omega), if_neg (by omega)]
  repeat' split
  all_goals first | exact Or.inl rfl | exact Or.inr rfl | omega
theorem jnZ_b {k : Nat} {x y : Int} (hk : isBn k = true) (hx : b01 x) (hy : b01 y) : b01 (jnZ k x y) := by
  unfold isBn at hk
  simp only [Bool.or_eq_true, beq_iff_eq] at hk
  rcases hk with rfl | rfl <;> rcases hx with rfl | rfl <;> rcases hy with rfl | rfl <;> (unfold b01; decide)
theorem x_j212 {M : Mem} {z : Int} (h : bg z) : f_X9_joined_212 (i64 z) M = some (i32 (bnd z), M) := by
  unfold f_X9_joined_212 bnd
  have e1 : (1000000 : Int64) = i64 1000000 := by decide
  have e2 : (-1000000 : Int64) = i64 (-1000000) := by decide
  rw [e2, e1]
  by_cases h1 : z ≤ 1000000
  · rw [if_pos h1, if_pos ((lg_cmp_le _ _).mpr ((i64_le h ⟨by decide, by decide⟩).mpr h1))]
    by_cases h2 : -1000000 ≤ z
    · rw [if_pos h2, if_pos ((lg_cmp_ge _ _).mpr ((i64_le ⟨by decide, by decide⟩ h).mpr h2)), i64_n ⟨by omega, by omega⟩]
    · rw [if_neg h2, if_neg (fun q => h2 ((i64_le ⟨by decide, by decide⟩ h).mp ((lg_cmp_ge _ _).mp q)))]
      rfl
  · rw [if_neg h1, if_neg (fun q => h1 ((i64_le h ⟨by decide, by decide⟩).mp ((lg_cmp_le _ _).mp q)))]
    rfl
theorem mul_bg {x y : Int} (hx : vl x) (hy : vl y) : bg (x * y) := by
  have h1 : (x * y).natAbs ≤ 1000000 * 1000000 := by
    rw [Int.natAbs_mul]
    obtain ⟨a, b⟩ := hx
    obtain ⟨c, d⟩ := hy
    exact Nat.mul_le_mul (by omega) (by omega)
  constructor <;> omega
theorem j01 {M : Mem} {b : Prop} [Decidable b] {u v : Int} (hu : b01 u) (hv : b01 v) : (if b then f_X9_joined_212 (i64 u) M else f_X9_joined_212 (i64 v) M) = some (i32 (if b then u else v), M) := by
  split
  · rw [x_j212 hu.vl.sm.bg, bnd_id hu.vl]
  · rw [x_j212 hv.vl.sm.bg, bnd_id hv.vl]
theorem nIne {a b : Nat} (ha : a < 2 ^ 31) (hb : b < 2 ^ 31) (h : a ≠ b) : ¬ nI a = nI b := fun e => h ((nI_eq ha hb).mp e)

theorem i64_0 : (0 : Int64) = i64 0 := by decide
theorem i64_1 : (1 : Int64) = i64 1 := by decide
theorem i32_0 : (0 : Int32) = i32 0 := by decide
theorem vl0 : vl 0 := ⟨by decide, by decide⟩
/-- the class joins two values -/
theorem x_joined {M : Mem} {k : Nat} {x y : Int} (hx : vl x) (hy : vl y) (hk : (isBn k = true ∧ b01 x ∧ b01 y) ∨ isCmp k = true ∨ isAr k = true) : f_X9_joined (nI k) (i32 x) (i32 y) M = some (i32 (jnZ k x y), M) := by
  have hk' : k = 17 ∨ k = 18 ∨ k = 21 ∨ k = 22 ∨ k = 23 ∨ k = 24 ∨ k = 25 ∨ k = 26 ∨ k = 27 ∨ k = 28 ∨ k = 29 ∨ k = 30 := by
    unfold isBn isCmp isAr at hk
    simp only [Bool.or_eq_true, beq_iff_eq, Bool.and_eq_true, decide_eq_true_eq] at hk
    omega
  have hsx := hx.sm
  have hsy := hy.sm
  unfold f_X9_joined
  rcases hk' with rfl | rfl | rfl | rfl | rfl | rfl | rfl | rfl | rfl | rfl | rfl | rfl
  · -- and
    rw [if_pos (by decide)]
    have hb : b01 x ∧ b01 y := by rcases hk with h | h | h; exact h.2; exact absurd h (by decide); exact absurd h (by decide)
    rcases hb with ⟨rfl | rfl, rfl | rfl⟩ <;> (rw [show jnZ 17 _ _ = _ from rfl]; exact x_j212 (z := _) (M := M) (by constructor <;> decide))
  · rw [if_neg (by decide), if_pos (by decide)]
    have hb : b01 x ∧ b01 y := by rcases hk with h | h | h; exact h.2; exact absurd h (by decide); exact absurd h (by decide)
    rcases hb with ⟨rfl | rfl, rfl | rfl⟩ <;> (rw [show jnZ 18 _ _ = _ from rfl]; exact x_j212 (z := _) (M := M) (by constructor <;> decide))
  · rw [if_neg (by decide), if_neg (by decide), if_neg (by decide), if_neg (by decide), if_pos (by decide), i64_0, i64_1]
    rw [show jnZ 21 x y = if y ≤ x then 0 else 1 from rfl, ← j01 (M := M) (Or.inl rfl) (Or.inr rfl)]
    simp only [i32_le hsy hsx]
  · rw [if_neg (by decide), if_neg (by decide), if_neg (by decide), if_neg (by decide), if_neg (by decide), if_pos (by decide), i64_0, i64_1]
    rw [show jnZ 22 x y = if y < x then 0 else 1 from rfl, ← j01 (M := M) (Or.inl rfl) (Or.inr rfl)]
    simp only [i32_lt hsy hsx]
  · rw [if_neg (by decide), if_neg (by decide), if_neg (by decide), if_neg (by decide), if_neg (by decide), if_neg (by decide), if_pos (by decide), i64_0, i64_1]
    rw [show jnZ 23 x y = if x ≤ y then 0 else 1 from rfl, ← j01 (M := M) (Or.inl rfl) (Or.inr rfl)]
    simp only [i32_le hsx hsy]
  · rw [if_neg (by decide), if_neg (by decide), if_neg (by decide), if_neg (by decide), if_neg (by decide), if_neg (by decide), if_neg (by decide), if_pos (by decide), i64_0, i64_1]
    rw [show jnZ 24 x y = if x < y then 0 else 1 from rfl, ← j01 (M := M) (Or.inl rfl) (Or.inr rfl)]
    simp only [i32_lt hsx hsy]
  · rw [if_neg (by decide), if_neg (by decide), if_neg (by decide), if_neg (by decide), if_neg (by decide), if_neg (by decide), if_neg (by decide), if_neg (by decide), if_pos (by decide), i64_0, i64_1]
    rw [show jnZ 25 x y = if x = y then 1 else 0 from rfl, ← j01 (M := M) (Or.inr rfl) (Or.inl rfl)]
    simp only [i32_eq hsx hsy]
  · rw [if_neg (by decide), if_neg (by decide), if_neg (by decide), if_neg (by decide), if_neg (by decide), if_neg (by decide), if_neg (by decide), if_neg (by decide), if_neg (by decide), if_pos (by decide), i64_0, i64_1]
    rw [show jnZ 26 x y = if x = y then 0 else 1 from rfl, ← j01 (M := M) (Or.inl rfl) (Or.inr rfl)]
    simp only [i32_eq hsx hsy]
  · rw [if_neg (by decide), if_neg (by decide), if_neg (by decide), if_neg (by decide), if_neg (by decide), if_neg (by decide), if_neg (by decide), if_neg (by decide), if_neg (by decide), if_neg (by decide), if_pos (by decide), i32_w hsx, i32_w hsy, i64_add]
    exact x_j212 ⟨by have := hx.1; have := hy.1; omega, by have := hx.2; have := hy.2; omega⟩
  · rw [if_neg (by decide), if_neg (by decide), if_neg (by decide), if_neg (by decide), if_neg (by decide), if_neg (by decide), if_neg (by decide), if_neg (by decide), if_neg (by decide), if_neg (by decide), if_neg (by decide), if_pos (by decide), i32_w hsx, i32_w hsy, i64_sub]
    exact x_j212 ⟨by have := hx.1; have := hy.2; omega, by have := hx.2; have := hy.1; omega⟩
  · rw [if_neg (by decide), if_neg (by decide), if_neg (by decide), if_neg (by decide), if_neg (by decide), if_neg (by decide), if_neg (by decide), if_neg (by decide), if_neg (by decide), if_neg (by decide), if_neg (by decide), if_neg (by decide), if_pos (by decide), i32_w hsx, i32_w hsy, i64_mul]
    exact x_j212 (mul_bg hx hy)
  · rw [if_neg (by decide), if_neg (by decide), if_neg (by decide), if_neg (by decide), if_neg (by decide), if_neg (by decide), if_neg (by decide), if_neg (by decide), if_neg (by decide), if_neg (by decide), if_neg (by decide), if_neg (by decide), if_neg (by decide), if_pos (by decide)]
    rw [show jnZ 30 x y = if y = 0 then 0 else x.tdiv y from rfl]
    have e0 : (i32 y = 0) ↔ y = 0 := by rw [i32_0]; exact i32_eq hsy vl0.sm
    by_cases h0 : y = 0
    · rw [if_pos (e0.mpr h0), if_pos h0, i64_0, x_j212 vl0.sm.bg, bnd_id vl0]
    · have h1 : ¬ i32 y = 0 := fun q => h0 (e0.mp q)
      have hv := tdiv_vl hx h0
      rw [if_neg h1, if_neg h0]
      simp only [nzI]
      rw [if_neg h1, i32_div hx hy, i32_w hv.sm, x_j212 hv.sm.bg, bnd_id hv]
