/-! ===== games that are judged ===== -/
def bc9 (c : Nat → Nat) (s : Nat) : Nat → Nat
  | 0 => s
  | n + 1 => 9 * bc9 c s n + c n
def hc4 (c : Nat → Nat) : Nat → Nat
  | 0 => 0
  | n + 1 => 4 * hc4 c n + c n
theorem bc9_lt {c : Nat → Nat} {s : Nat} (hs : s < 2) (hc : ∀ p, c p < 9) : ∀ n, bc9 c s n < 2 * 9 ^ n
  | 0 => by simpa [bc9] using hs
  | n + 1 => by
    have := bc9_lt hs hc n
    have := hc n
    show 9 * bc9 c s n + c n < 2 * 9 ^ (n + 1)
    rw [Nat.pow_succ]
    omega
theorem hc4_lt {c : Nat → Nat} (hc : ∀ p, c p < 4) : ∀ n, hc4 c n < 4 ^ n
  | 0 => by simp [hc4]
  | n + 1 => by
    have := hc4_lt hc n
    have := hc n
    show 4 * hc4 c n + c n < 4 ^ (n + 1)
    rw [Nat.pow_succ]
    omega
theorem bc9_inj {c c' : Nat → Nat} {s s' : Nat} (hc : ∀ p, c p < 9) (hc' : ∀ p, c' p < 9) : ∀ n, bc9 c s n = bc9 c' s' n → s = s' ∧ ∀ p, p < n → c p = c' p
  | 0, e => ⟨e, fun p hp => absurd hp (by omega)⟩
  | n + 1, e => by
    have h1 := hc n
    have h2 := hc' n
    have e' : 9 * bc9 c s n + c n = 9 * bc9 c' s' n + c' n := e
    obtain ⟨h3, h4⟩ := bc9_inj hc hc' n (show bc9 c s n = bc9 c' s' n by omega)
    refine ⟨h3, fun p hp => ?_⟩
    by_cases q : p = n
    · subst q; omega
    · exact h4 p (by omega)
theorem hc4_inj {c c' : Nat → Nat} (hc : ∀ p, c p < 4) (hc' : ∀ p, c' p < 4) : ∀ n, hc4 c n = hc4 c' n → ∀ p, p < n → c p = c' p
  | 0, _, p, hp => absurd hp (by omega)
  | n + 1, e, p, hp => by
    have h1 := hc n
    have h2 := hc' n
    have e' : 4 * hc4 c n + c n = 4 * hc4 c' n + c' n := e
    by_cases q : p = n
    · subst q; omega
    · exact hc4_inj hc hc' n (show hc4 c n = hc4 c' n by omega) p (by omega)
/-- codes of the reference -/
def bcN (w h : Nat) (π : Pos) : Nat := bc9 π.1 π.2.2 (w * h)
def hcN (π : Pos) : Nat := hc4 π.2.1 8
theorem nine12 : (9 : Nat) ^ 12 = 282429536481 := by decide
theorem bcN_lt {w h : Nat} {π : Pos} (hd : okD w h) (ok : okP π) : bcN w h π < 564859072962 := by
  have h1 := bc9_lt (c := π.1) ok.2.2.2 ok.1 (w * h)
  have h2 : 9 ^ (w * h) ≤ 9 ^ 12 := Nat.pow_le_pow_right (by decide) hd.le
  rw [nine12] at h2
  unfold bcN
  omega
theorem hcN_lt {π : Pos} (ok : okP π) : hcN π < 65536 := hc4_lt ok.2.2.1 8
theorem okN.eqB {w h : Nat} {π π' : Pos} (ok : okN w h π) (ok' : okN w h π') : bcN w h π = bcN w h π' ↔ btN π = btN π' := by
  constructor
  · intro e
    obtain ⟨h1, h2⟩ := bc9_inj ok.1.1 ok'.1.1 _ e
    have h3 : π.1 = π'.1 := by
      funext p
      by_cases hp : p < w * h
      · exact h2 p hp
      · rw [ok.2.1 p (by omega), ok'.2.1 p (by omega)]
    unfold btN bt13
    rw [h3, h1]
  · intro e
    obtain ⟨h1, h2⟩ := btN_inj ok.1 ok'.1 e
    unfold bcN
    rw [h1, h2]
theorem okN.eqH {w h : Nat} {π π' : Pos} (ok : okN w h π) (ok' : okN w h π') : hcN π = hcN π' ↔ enc 2 π.2.1 8 = enc 2 π'.2.1 8 := by
  have key : ∀ {a b : Nat → Nat}, (∀ m, 8 ≤ m → a m = 0) → (∀ m, 8 ≤ m → b m = 0) → (∀ m, m < 8 → a m = b m) → a = b := by
    intro a b ha hb he
    funext m
    by_cases hm : m < 8
    · exact he m hm
    · rw [ha m (by omega), hb m (by omega)]
  constructor
  · intro e
    rw [key ok.2.2 ok'.2.2 (hc4_inj ok.1.2.2.1 ok'.1.2.2.1 _ e)]
  · intro e
    unfold hcN
    rw [key ok.2.2 ok'.2.2 (enc_inj (by decide) ok.1.h2 ok'.1.h2 e)]
theorem lN_eqq {a b : Nat} (ha : a < 2 ^ 63) (hb : b < 2 ^ 63) : lN a = lN b ↔ a = b := by
  constructor
  · intro e
    have := congrArg Int64.toInt e
    rw [pf_lI ha, pf_lI hb] at this
    omega
  · intro e; rw [e]
section CODES
variable {w h L nt : Nat} {τ : Nat → Txt} {π : Pos} {M : Mem}
theorem y_bcode_l (hb : Bs w h L nt τ M) (hM : MPos π M) (ok : okP π) : ∀ (k n p : Nat), p + k = w * h → k < n → f_X12_boardCode_8 n (some 230) (lN (bc9 π.1 π.2.2 p)) (nI p) M = some (lN (bcN w h π), M)
  | k, 0, p, _, hn => absurd hn (by omega)
  | 0, n + 1, p, hp, _ => by
    obtain rfl : p = w * h := by omega
    rw [u_X12_boardCode_8]
    unfold b_X12_boardCode_8
    rw [gI_t (ly_t230 hb.lay), hb.dim.2.2.2.2.2.2.1, if_pos (Int32.le_refl _)]
    rfl
  | k + 1, n + 1, p, hp, hn => by
    have hl := hb.lay
    have hw := hb.1.le
    have k9 := ok.1 p
    rw [u_X12_boardCode_8]
    unfold b_X12_boardCode_8
    rw [gI_t (ly_t230 hl), hb.dim.2.2.2.2.2.2.1, if_neg (nI_ge (by omega) (by omega)), gR_t (ly_t230 hl), ly_r230_43 hl, aI_t (ly_t254 hl) (by omega) (by decide), hM.1 p (by omega), nI_1, lN_nI (by omega), show (9 : Int64) = lN 9 from rfl]
    rw [show lN 9 * lN (bc9 π.1 π.2.2 p) + lN (π.1 p) = lN (bc9 π.1 π.2.2 (p + 1)) from by
      have e1 : ∀ a : Nat, lN a = i64 (a : Int) := fun a => Int64.ofInt_eq_ofNat.symm
      rw [e1, e1, e1, i64_mul, i64_add, e1]
      congr 1]
    exact y_bcode_l hb hM ok k n (p + 1) (by omega) (by omega)
theorem y_bcode (hb : Bs w h L nt τ M) (hM : MPos π M) (ok : okP π) : f_X12_boardCode (some 230) M = some (lN (bcN w h π), M) := by
  have hw := hb.1.le
  have ht := ok.2.2.2
  unfold f_X12_boardCode
  rw [gI_t (ly_t230 hb.lay), hM.2.2, lN_nI (by omega)]
  exact y_bcode_l hb hM ok (w * h) FU 0 (by omega) (by unfold FU; omega)
theorem y_hcode_l (hb : Bs w h L nt τ M) (hM : MPos π M) : ∀ (k n m : Nat), m + k = 8 → k < n → f_X12_heapCode_4 n (some 230) (nI (hc4 π.2.1 m)) (nI m) M = some (nI (hcN π), M)
  | k, 0, m, _, hn => absurd hn (by omega)
  | 0, n + 1, m, hm, _ => by
    obtain rfl : m = 8 := by omega
    rw [u_X12_heapCode_4]
    unfold b_X12_heapCode_4
    rw [if_pos (by decide)]
    rfl
  | k + 1, n + 1, m, hm, hn => by
    have hl := hb.lay
    rw [u_X12_heapCode_4]
    unfold b_X12_heapCode_4
    rw [if_neg (show ¬ (8 : Int32) ≤ nI m from nI_ge (b := 8) (by omega) (by decide)), gR_t (ly_t230 hl), ly_r230_44 hl, aI_t (ly_t255 hl) (by omega) (by decide), hM.2.1 m (by omega), nI_1, show (4 : Int32) = nI 4 from rfl, pk_mul, nI_add]
    exact y_hcode_l hb hM k n (m + 1) (by omega) (by omega)
theorem y_hcode (hb : Bs w h L nt τ M) (hM : MPos π M) : f_X12_heapCode (some 230) M = some (nI (hcN π), M) := y_hcode_l hb hM 8 FU 0 (by omega) (by decide)
end CODES
/-- a ply of a game: is it one -/
def plB (χ : Chi) (x y z n d : Nat) : Bool := decide (x < y) && decide (y < z) && χ x && χ y && χ z && (n == x || n == y || n == z) && (d == x || d == y || d == z) && !(n == d)
theorem plB_y {χ : Chi} {x y z n d : Nat} (hz : z < 8) (hp : plB χ x y z n d = true) : plyP χ (nI x) (nI y) (nI z) (nI n) (nI d) n d := by
  unfold plB at hp
  simp only [Bool.and_eq_true, decide_eq_true_eq, Bool.or_eq_true, beq_iff_eq, Bool.not_eq_true', beq_eq_false_iff_ne] at hp
  obtain ⟨⟨⟨⟨⟨⟨⟨h1, h2⟩, h3⟩, h4⟩, h5⟩, h6⟩, h7⟩, h8⟩ := hp
  exact ⟨x, y, z, ⟨h1, h2, hz, rfl, rfl, rfl⟩, h3, h4, h5, rfl, rfl, by omega, by omega, h8⟩
theorem plB_n {χ : Chi} {x y z n d : Nat} (hx : x < 8) (hy : y < 8) (hz : z < 8) (hn : n < 8) (hd : d < 8) (hp : plB χ x y z n d = false) : ¬ ∃ n' d', plyP χ (nI x) (nI y) (nI z) (nI n) (nI d) n' d' := by
  rintro ⟨n', d', x', y', z', ⟨g1, g2, g3, g4, g5, g6⟩, h1, h2, h3, h4, h5, h6, h7, h8⟩
  have k1 := (nI_eq (by omega) (by omega)).mp g4
  have k2 := (nI_eq (by omega) (by omega)).mp g5
  have k3 := (nI_eq (by omega) (by omega)).mp g6
  have k4 := (nI_eq (by omega) (by omega)).mp h4
  have k5 := (nI_eq (by omega) (by omega)).mp h5
  subst k1 k2 k3 k4 k5
  have : plB χ x y z n d = true := by
    unfold plB
    simp only [Bool.and_eq_true, decide_eq_true_eq, Bool.or_eq_true, beq_iff_eq, Bool.not_eq_true', beq_eq_false_iff_ne]
    exact ⟨⟨⟨⟨⟨⟨⟨g1, g2⟩, h1⟩, h2⟩, h3⟩, by omega⟩, by omega⟩, h8⟩
  rw [this] at hp
  cases hp
def psS (w h : Nat) (T : Txt) (g : Nat → Nat) (π : Pos) : Nat → Pos
  | 0 => π
  | i + 1 => sucS w h T (psS w h T g π i) (g (5 * i + 3)) (g (5 * i + 4))
def lgS (w h : Nat) (T : Txt) (g : Nat → Nat) (π : Pos) (i : Nat) : Bool := plB (ablS w h T (psS w h T g π i)) (g (5 * i)) (g (5 * i + 1)) (g (5 * i + 2)) (g (5 * i + 3)) (g (5 * i + 4))
def fstF (p : Nat → Bool) : Nat → Nat → Option Nat
  | _, 0 => none
  | i, k + 1 => if p i = true then fstF p (i + 1) k else some i
theorem fstF_y {p : Nat → Bool} {i k : Nat} (h : p i = true) : fstF p i (k + 1) = fstF p (i + 1) k := by show (if _ then _ else _) = _; rw [if_pos h]
theorem fstF_n {p : Nat → Bool} {i k : Nat} (h : p i = false) : fstF p i (k + 1) = some i := by show (if _ then _ else _) = _; rw [h]; rfl
theorem ps_ok {w h : Nat} {T : Txt} {g : Nat → Nat} {π : Pos} (hd : okD w h) (okt : okT T) (ok : okN w h π) (hg : ∀ i, g i < 8) : ∀ i, (∀ j, j < i → lgS w h T g π j = true) → okN w h (psS w h T g π i)
  | 0, _ => ok
  | i + 1, hl => by
    have ih := ps_ok hd okt ok hg i (fun j hj => hl j (by omega))
    have h1 := plB_y (hg _) (hl i (by omega))
    exact suc_ok hd okt ih (hg _) (hg _) h1.ok.2.2.2.2.1
section JUDGE
variable {w h L : Nat} {s : Std} {τ : Nat → Txt}
/-- the class tries the i-th ply -/
theorem x_tryPly {M : Mem} {i : Nat} (hp : Pre w h L s τ M) (hi : i < 40) (hP : PosAt 47 (psS w h (tT τ (stB s)) (stG s) (stP s) i) M) (ok : okN w h (psS w h (tT τ (stB s)) (stG s) (stP s) i)) : ∃ M', f_X11_tryPly (some 8) (nI i) M = some (if lgS w h (tT τ (stB s)) (stG s) (stP s) i = true then nI 1 else nI 0, M') ∧ Fx (47 :: xA) xF M M' ∧ (lgS w h (tT τ (stB s)) (stG s) (stP s) i = true → PosAt 47 (psS w h (tT τ (stB s)) (stG s) (stP s) (i + 1)) M') := by
  obtain ⟨hb, oks, hX, hS⟩ := hp
  have hl := hb.lay
  have hg := oks.2.2.2.2.2.2
  have hB := hX.2.2.2.2.2.2
  have gm : ∀ j, j < 200 → mI M 12 j = nI (stG s j) := hX.2.2.2.1
  have e5 : nI i * (5 : Int32) = nI (5 * i) := by rw [show (5 : Int32) = nI 5 from rfl, pk_mul, Nat.mul_comm]
  obtain ⟨bits, hbits⟩ : ∃ bits, f_X10_bitsOf (nI (stG s (5 * i))) (nI (stG s (5 * i + 1))) (nI (stG s (5 * i + 2))) M = some (bits, M) := by
    by_cases ht : ∃ x y z, isTrip (nI (stG s (5 * i))) (nI (stG s (5 * i + 1))) (nI (stG s (5 * i + 2))) x y z
    · obtain ⟨x, y, z, ht⟩ := ht
      exact ⟨_, x_bitsOf ht⟩
    · exact ⟨_, x_bitsOf_n ht⟩
  have run : ∀ (r : Nat) (M' : Mem), r < 2 → f_X11_told (some 8) (some 47) bits (nI (stG s (5 * i + 3))) (nI (stG s (5 * i + 4))) M = some (nI r, M') → f_X11_tryPly (some 8) (nI i) M = some (nI r, M') := by
    intro r M' hr he
    unfold f_X11_tryPly
    rw [e5, if_neg (nI_pos (by omega)), gR_t (ly_t8 hl), ly_r8_2 hl, gR_t (ly_t9 hl), ly_r9_2 hl, aN_t (ly_t12 hl) (by decide) (by decide) (by decide), show (5 : Int32) = nI 5 from rfl, nI_add, if_pos (nI_le (by omega) (by decide)), gR_t (ly_t8 hl), ly_r8_2 hl, gR_t (ly_t9 hl), ly_r9_2 hl, aI_t (ly_t12 hl) (by omega) (by decide), gm _ (by omega), gR_t (ly_t8 hl), ly_r8_2 hl, gR_t (ly_t9 hl), ly_r9_2 hl, show (1 : Int32) = nI 1 from rfl, nI_add, aI_t (ly_t12 hl) (by omega) (by decide), gm _ (by omega), gR_t (ly_t8 hl), ly_r8_2 hl, gR_t (ly_t9 hl), ly_r9_2 hl, show (2 : Int32) = nI 2 from rfl, nI_add, aI_t (ly_t12 hl) (by omega) (by decide), gm _ (by omega), hbits, cA_s, gR_t (ly_t8 hl), ly_r8_12 hl, gR_t (ly_t8 hl), ly_r8_2 hl, gR_t (ly_t9 hl), ly_r9_2 hl, show (3 : Int32) = nI 3 from rfl, nI_add, aI_t (ly_t12 hl) (by omega) (by decide), gm _ (by omega), gR_t (ly_t8 hl), ly_r8_2 hl, gR_t (ly_t9 hl), ly_r9_2 hl, show (4 : Int32) = nI 4 from rfl, nI_add, aI_t (ly_t12 hl) (by omega) (by decide), gm _ (by omega), cR_t (ly_t8 hl), he, cA_s]
    rcases (show r = 0 ∨ r = 1 by omega) with rfl | rfl
    · exact tv_n0
    · exact tv_n1
  cases hlg : lgS w h (tT τ (stB s)) (stG s) (stP s) i with
  | true =>
    have hpl := plB_y (hg _) hlg
    obtain ⟨M1, a1, a2, a3⟩ := x_told_y hb oks.2.1 ok pa47 hP hB hpl hbits
    exact ⟨M1, by rw [if_pos rfl]; exact run 1 M1 (by decide) a1, a2, fun _ => a3⟩
  | false =>
    have hpl := plB_n (hg _) (hg _) (hg _) (hg _) (hg _) hlg
    obtain ⟨M1, a1, a2⟩ := x_told_n hb oks.2.1 ok pa47 hP hB hpl hbits
    exact ⟨M1, by rw [if_neg (by decide)]; exact run 0 M1 (by decide) a1, a2.mono (by decide) (by decide), fun z => by cases z⟩
theorem Pre.fx2 {M M' : Mem} {A : List Nat} {F : List (Nat × Nat)} (hp : Pre w h L s τ M) (fr : Fx A F M M') (ha : (okA A && okF F && decide (9 ∉ A) && decide (10 ∉ A) && decide (11 ∉ A) && decide (12 ∉ A) && decide (231 ∉ A) && F.all (fun q => decide (q.1 ≠ 9) && decide (q.1 ≠ 10) && decide (q.1 ≠ 11) && decide (q.1 ≠ 12) && decide (q.1 ≠ 231))) = true) : Pre w h L s τ M' := by
  simp only [Bool.and_eq_true, decide_eq_true_eq, List.all_eq_true] at ha
  obtain ⟨⟨⟨⟨⟨⟨⟨h1, h2⟩, h3⟩, h4⟩, h5⟩, h6⟩, h7⟩, h8⟩ := ha
  exact hp.fx fr h1 h2 ⟨h3, fun q hq => (h8 q hq).1.1.1.1⟩ ⟨h4, fun q hq => (h8 q hq).1.1.1.2⟩ ⟨h5, fun q hq => (h8 q hq).1.1.2⟩ ⟨h6, fun q hq => (h8 q hq).1.2⟩ ⟨h7, fun q hq => (h8 q hq).2⟩
theorem x_judge_l : ∀ (k f i : Nat) (M : Mem), i + k = stK s → k < f → Pre w h L s τ M → (∀ j, j < i → lgS w h (tT τ (stB s)) (stG s) (stP s) j = true) → PosAt 47 (psS w h (tT τ (stB s)) (stG s) (stP s) i) M → ∃ M', f_X11_judge_16 f (some 8) (nI i) M = some (oI (fstF (lgS w h (tT τ (stB s)) (stG s) (stP s)) i k), M') ∧ Fx (47 :: xA) xF M M'
  | k, 0, i, M => fun _ z => absurd z (by omega)
  | 0, f + 1, i, M => by
    intro hi _ hp hlg hP
    have hl := hp.1.lay
    have h40 := hp.2.1.2.2.2.2.2.1
    have hk := hp.2.2.1.2.2.2.2.1
    refine ⟨M, ?_, Fx.rf⟩
    rw [u_X11_judge_16]
    unfold b_X11_judge_16
    rw [gR_t (ly_t8 hl), ly_r8_2 hl, gI_t (ly_t9 hl), hk, if_pos (nI_le (by omega) (by omega))]
    rfl
  | k + 1, f + 1, i, M => by
    intro hi hf hp hlg hP
    have hl := hp.1.lay
    have h40 := hp.2.1.2.2.2.2.2.1
    have hk := hp.2.2.1.2.2.2.2.1
    have ok := ps_ok hp.1.1 (hp.1.okT hp.2.1.2.1) hp.2.1.1 hp.2.1.2.2.2.2.2.2 i hlg
    obtain ⟨M1, a1, a2, a3⟩ := x_tryPly hp (show i < 40 by omega) hP ok
    rw [u_X11_judge_16]
    unfold b_X11_judge_16
    rw [gR_t (ly_t8 hl), ly_r8_2 hl, gI_t (ly_t9 hl), hk, if_neg (nI_ge (by omega) (by omega)), cR_t (ly_t8 hl), a1, cA_s]
    cases hl' : lgS w h (tT τ (stB s)) (stG s) (stP s) i with
    | true =>
      rw [if_pos rfl, if_neg (by decide), nI_1, fstF_y hl']
      obtain ⟨M2, z1, z2⟩ := x_judge_l k f (i + 1) M1 (by omega) (by omega) (hp.fx2 a2 (by decide)) (fun j hj => by
        by_cases e : j = i
        · subst e; exact hl'
        · exact hlg j (by omega)) (a3 hl')
      exact ⟨M2, z1, a2.tr z2⟩
    | false =>
      rw [if_neg (show ¬ false = true by decide), if_pos (show nI 0 = (0 : Int32) by decide), fstF_n hl']
      exact ⟨M1, rfl, a2⟩
def PastM (w h : Nat) (P : Nat → Pos) (n : Nat) (M : Mem) : Prop := ∀ i, i ≤ n → mL M 260 i = lN (bcN w h (P i)) ∧ mI M 261 i = nI (hcN (P i))
abbrev jA : List Nat := [252, 253, 254, 255, 256, 257, 258, 260, 261]
theorem y_judge_l : ∀ (k f i : Nat) (M : Mem), i + k = stK s → k < f → Pre w h L s τ M → (∀ j, j < i → lgS w h (tT τ (stB s)) (stG s) (stP s) j = true) → MPos (psS w h (tT τ (stB s)) (stG s) (stP s) i) M → PastM w h (psS w h (tT τ (stB s)) (stG s) (stP s)) i M → ∃ M', f_X12_judges_26 f (some 230) (nI i) M = some (oI (fstF (lgS w h (tT τ (stB s)) (stG s) (stP s)) i k), M') ∧ Fx jA moF M M' ∧ PastM w h (psS w h (tT τ (stB s)) (stG s) (stP s)) ((fstF (lgS w h (tT τ (stB s)) (stG s) (stP s)) i k).getD (stK s)) M'
  | k, 0, i, M => fun _ z => absurd z (by omega)
  | 0, f + 1, i, M => by
    intro hi _ hp hlg hM hPs
    have hl := hp.1.lay
    have h40 := hp.2.1.2.2.2.2.2.1
    have hk := hp.2.2.2.2.2.2.2.2.1
    refine ⟨M, ?_, Fx.rf, ?_⟩
    · rw [u_X12_judges_26]
      unfold b_X12_judges_26
      rw [gR_t (ly_t230 hl), ly_r230_3 hl, show (5 : Int32) = nI 5 from rfl, aI_t (ly_t231 hl) (by decide) (by decide), hk, if_pos (nI_le (by omega) (by omega))]
      rfl
    · show PastM _ _ _ (stK s) M
      rw [← hi]; exact hPs
  | k + 1, f + 1, i, M => by
    intro hi hf hp hlg hM hPs
    have hl := hp.1.lay
    have h40 := hp.2.1.2.2.2.2.2.1
    have hk := hp.2.2.2.2.2.2.2.2.1
    have hg := hp.2.1.2.2.2.2.2.2
    have okt := hp.1.okT hp.2.1.2.1
    have ok := ps_ok hp.1.1 okt hp.2.1.1 hg i hlg
    obtain ⟨M1, b1, b2, b3⟩ := y_moves hp.1 hM ok hp.2.1.2.1 hp.2.2.2.2.2.1
    have hp1 : Pre w h L s τ M1 := hp.fx2 b2 (by decide)
    have hl1 := hp1.1.lay
    have hM1 := hM.fx b2 (by decide) (by decide)
    have gm : ∀ j, j < 200 → mI M1 231 (40 + j) = nI (stG s j) := hp1.2.2.2.2.2.2.2.2.2.2.2
    have gr : ∀ j, j < 5 → mI M1 231 (40 + 5 * i + j) = nI (stG s (5 * i + j)) := fun j hj => by rw [Nat.add_assoc]; exact gm _ (by omega)
    have gr0 : mI M1 231 (40 + 5 * i) = nI (stG s (5 * i)) := gm _ (by omega)
    rw [u_X12_judges_26]
    unfold b_X12_judges_26
    rw [gR_t (ly_t230 hl), ly_r230_3 hl, show (5 : Int32) = nI 5 from rfl, aI_t (ly_t231 hl) (by decide) (by decide), hk, if_neg (nI_ge (by omega) (by omega)), cR_t (ly_t230 hl), b1, cA_s]
    rw [gR_t (ly_t230 hl1), ly_r230_3 hl1, show (40 : Int32) = nI 40 from rfl, pk_mul, nI_add, aI_t (ly_t231 hl1) (by omega) (by decide), gr0, gR_t (ly_t230 hl1), ly_r230_3 hl1, show (1 : Int32) = nI 1 from rfl, nI_add, aI_t (ly_t231 hl1) (by omega) (by decide), gr 1 (by decide), gR_t (ly_t230 hl1), ly_r230_3 hl1, show (2 : Int32) = nI 2 from rfl, nI_add, aI_t (ly_t231 hl1) (by omega) (by decide), gr 2 (by decide), gR_t (ly_t230 hl1), ly_r230_3 hl1, show (3 : Int32) = nI 3 from rfl, nI_add, aI_t (ly_t231 hl1) (by omega) (by decide), gr 3 (by decide), gR_t (ly_t230 hl1), ly_r230_3 hl1, show (4 : Int32) = nI 4 from rfl, nI_add, aI_t (ly_t231 hl1) (by omega) (by decide), gr 4 (by decide), cR_t (ly_t230 hl1)]
    cases hl' : lgS w h (tT τ (stB s)) (stG s) (stP s) i with
    | false =>
      have hpl := plB_n (hg _) (hg _) (hg _) (hg _) (hg _) hl'
      have hcp : f_X12_canPly (some 230) (nI (stG s (5 * i))) (nI (stG s (5 * i + 1))) (nI (stG s (5 * i + 2))) (nI (stG s (5 * i + 3))) (nI (stG s (5 * i + 4))) M1 = some (nI 0, M1) := by
        rcases y_canPly (a := nI (stG s (5 * i))) (b := nI (stG s (5 * i + 1))) (c := nI (stG s (5 * i + 2))) (no := nI (stG s (5 * i + 3))) (dn := nI (stG s (5 * i + 4))) hp1.1 (laid_abl b3) with q | q
        · exact absurd q.1 hpl
        · exact q.2
      rw [hcp, cA_s, if_pos (by decide), fstF_n hl']
      refine ⟨M1, rfl, b2.mono (by decide) (by decide), ?_⟩
      intro j hj
      rw [b2.lb (by decide), b2.ib (by decide)]
      exact hPs j hj
    | true =>
      have hpl := plB_y (hg _) hl'
      have hcp : f_X12_canPly (some 230) (nI (stG s (5 * i))) (nI (stG s (5 * i + 1))) (nI (stG s (5 * i + 2))) (nI (stG s (5 * i + 3))) (nI (stG s (5 * i + 4))) M1 = some (nI 1, M1) := by
        rcases y_canPly (a := nI (stG s (5 * i))) (b := nI (stG s (5 * i + 1))) (c := nI (stG s (5 * i + 2))) (no := nI (stG s (5 * i + 3))) (dn := nI (stG s (5 * i + 4))) hp1.1 (laid_abl b3) with q | q
        · exact q.2
        · exact absurd ⟨_, _, hpl⟩ q.1
      obtain ⟨o1, o2, o3, o4, o5, -, -⟩ := hpl.ok
      obtain ⟨g1, bb, g2⟩ := abl_can o5
      obtain ⟨f1, f2, f3⟩ := b3.2 _ o2
      obtain ⟨M2, d1, d2, d3⟩ := y_plays hp1.1 hM1 ok hp.2.1.2.1 hp1.2.2.2.2.2.1 o1 o2 o3 g1 g2 f1 f2 f3
      have hp2 : Pre w h L s τ M2 := hp1.fx2 d2 (by decide)
      have hl2 := hp2.1.lay
      have d3 : MPos (psS w h (tT τ (stB s)) (stG s) (stP s) (i + 1)) M2 := d3
      have ok1 : okN w h (psS w h (tT τ (stB s)) (stG s) (stP s) (i + 1)) := ps_ok hp.1.1 okt hp.2.1.1 hg (i + 1) (fun j hj => by
        by_cases e : j = i
        · subst e; exact hl'
        · exact hlg j (by omega))
      have fr3 : Fx jA moF M (sL M2 260 (i + 1) (lN (bcN w h (psS w h (tT τ (stB s)) (stG s) (stP s) (i + 1))))) := ((b2.mono (by decide) (by decide)).tr (d2.mono (by decide) (by decide))).L (Or.inl (by decide))
      have hb3 := (hp.fx2 fr3 (by decide)).1
      have fr4 : Fx jA moF M (sI (sL M2 260 (i + 1) (lN (bcN w h (psS w h (tT τ (stB s)) (stG s) (stP s) (i + 1))))) 261 (i + 1) (nI (hcN (psS w h (tT τ (stB s)) (stG s) (stP s) (i + 1))))) := fr3.I (Or.inl (by decide))
      have frm : Fx [260] [] M2 (sL M2 260 (i + 1) (lN (bcN w h (psS w h (tT τ (stB s)) (stG s) (stP s) (i + 1))))) := Fx.wL (Or.inl (by decide))
      have hM3 := d3.fx frm (by decide) (by decide)
      have hM4 : MPos (psS w h (tT τ (stB s)) (stG s) (stP s) (i + 1)) (sI (sL M2 260 (i + 1) (lN (bcN w h (psS w h (tT τ (stB s)) (stG s) (stP s) (i + 1))))) 261 (i + 1) (nI (hcN (psS w h (tT τ (stB s)) (stG s) (stP s) (i + 1))))) := hM3.fx (Fx.wI (A := [261]) (F := []) (Or.inl (by decide))) (by decide) (by decide)
      obtain ⟨M5, z1, z2, z3⟩ := y_judge_l k f (i + 1) _ (by omega) (by omega) (hp.fx2 fr4 (by decide)) (fun j hj => by
        by_cases e : j = i
        · subst e; exact hl'
        · exact hlg j (by omega)) hM4 (fun j hj => by
        by_cases e : j = i + 1
        · subst e
          refine ⟨?_, mI_e⟩
          rw [mL_sI, mL_e]
        · rw [mL_sI, mL_nk e, mI_nk e, mI_sL, d2.lb (by decide), d2.ib (by decide), b2.lb (by decide), b2.ib (by decide)]
          exact hPs j (by omega))
      refine ⟨M5, ?_, fr4.tr z2, by rw [fstF_y hl']; exact z3⟩
      rw [hcp, cA_s, if_neg (by decide), gR_t (ly_t230 hl1), ly_r230_3 hl1, aI_t (ly_t231 hl1) (by omega) (by decide), gr 3 (by decide), gR_t (ly_t230 hl1), ly_r230_3 hl1, aI_t (ly_t231 hl1) (by omega) (by decide), gr 4 (by decide), cR_t (ly_t230 hl1), d1, cA_s, gR_t (ly_t230 hl2), ly_r230_55 hl2, cR_t (ly_t230 hl2), y_bcode hp2.1 d3 ok1.1, cA_s, nI_add, wL_t (ly_t260 hl2) (by omega) (by decide), gR_t (ly_t230 hb3.lay), ly_r230_56 hb3.lay, cR_t (ly_t230 hb3.lay), y_hcode hb3 hM3, cA_s, wI_t (ly_t261 hb3.lay) (by omega) (by decide), fstF_y hl']
      exact z1
/-- the reference judges -/
theorem y_judges {M : Mem} (hp : Pre w h L s τ M) : ∃ M', f_X12_judges (some 230) M = some (oI (fstF (lgS w h (tT τ (stB s)) (stG s) (stP s)) 0 (stK s)), M') ∧ Fx jA moF M M' ∧ PastM w h (psS w h (tT τ (stB s)) (stG s) (stP s)) ((fstF (lgS w h (tT τ (stB s)) (stG s) (stP s)) 0 (stK s)).getD (stK s)) M' := by
  obtain ⟨M1, a1, a2, a3⟩ := y_now hp.1 hp.2.2.2
  have hp1 : Pre w h L s τ M1 := hp.fx2 a2 (by decide)
  have hl1 := hp1.1.lay
  have ok := hp.2.1.1
  have fr2 : Fx jA moF M (sL M1 260 0 (lN (bcN w h (stP s)))) := (a2.mono (by decide) (by decide)).L (Or.inl (by decide))
  have hb2 := (hp.fx2 fr2 (by decide)).1
  have frm : Fx [260] [] M1 (sL M1 260 0 (lN (bcN w h (stP s)))) := Fx.wL (Or.inl (by decide))
  have hM2 := a3.fx frm (by decide) (by decide)
  have fr3 : Fx jA moF M (sI (sL M1 260 0 (lN (bcN w h (stP s)))) 261 0 (nI (hcN (stP s)))) := fr2.I (Or.inl (by decide))
  have hM3 : MPos (stP s) (sI (sL M1 260 0 (lN (bcN w h (stP s)))) 261 0 (nI (hcN (stP s)))) := hM2.fx (Fx.wI (A := [261]) (F := []) (Or.inl (by decide))) (by decide) (by decide)
  have h40 := hp.2.1.2.2.2.2.2.1
  obtain ⟨M5, z1, z2, z3⟩ := y_judge_l (stK s) FU 0 _ (by omega) (by unfold FU; omega) (hp.fx2 fr3 (by decide)) (fun j hj => absurd hj (by omega)) hM3 (fun j hj => by
    obtain rfl : j = 0 := by omega
    exact ⟨by rw [mL_sI, mL_e]; rfl, mI_e⟩)
  refine ⟨M5, ?_, fr3.tr z2, z3⟩
  unfold f_X12_judges
  rw [cR_t (ly_t230 hp.1.lay), a1, cA_s, gR_t (ly_t230 hl1), ly_r230_55 hl1, cR_t (ly_t230 hl1), y_bcode hp1.1 a3 ok.1, cA_s, show (0 : Int32) = nI 0 from rfl, wL_t (ly_t260 hl1) (by decide) (by decide), gR_t (ly_t230 hb2.lay), ly_r230_56 hb2.lay, cR_t (ly_t230 hb2.lay), y_hcode hb2 hM2, cA_s, wI_t (ly_t261 hb2.lay) (by decide) (by decide)]
  exact z1
theorem c_judge {M : Mem} (hp : Pre w h L s τ M) : ∃ r M1 M2, f_X11_judge (some 8) M = some (r, M1) ∧ f_X12_judge (some 230) M1 = some (r, M2) ∧ Fx SA SF M M2 := by
  have hl := hp.1.lay
  have h40 := hp.2.1.2.2.2.2.2.1
  obtain ⟨M0, t1, t2, t3⟩ := x_try hp
  have hp0 : Pre w h L s τ M0 := hp.fx2 t2 (by decide)
  obtain ⟨M1, a1, a2⟩ := x_judge_l (stK s) FU 0 M0 (by omega) (by unfold FU; omega) hp0 (fun j hj => absurd hj (by omega)) t3
  have fr1 : Fx SA SF M M1 := (t2.mono (by decide) (by decide)).tr (a2.mono (by decide) (by decide))
  obtain ⟨M2, b1, b2, -⟩ := y_judges (hp.fx2 fr1 (by decide))
  refine ⟨oI (fstF (lgS w h (tT τ (stB s)) (stG s) (stP s)) 0 (stK s)), M1, M2, ?_, ?_, fr1.tr (b2.mono (by decide) (by decide))⟩
  · unfold f_X11_judge
    rw [gR_t (ly_t8 hl), ly_r8_12 hl, gR_t (ly_t8 hl), ly_r8_2 hl, gR_t (ly_t9 hl), ly_r9_0 hl, cR_t (ly_t47 hl), t1, cA_s]
    exact a1
  · unfold f_X12_judge
    rw [cR_t (ly_t230 (hp.fx2 fr1 (by decide)).1.lay), b1, cA_s]
end JUDGE
