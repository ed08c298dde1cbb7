/-! ===== tokens, purely ===== -/
def isL (c : Nat) : Bool := (decide (97 ≤ c) && decide (c ≤ 122)) || (decide (65 ≤ c) && decide (c ≤ 90))
def isG (c : Nat) : Bool := decide (48 ≤ c) && decide (c ≤ 57)
def isW (c : Nat) : Bool := c == 32 || c == 10
def spn (P : Nat → Bool) (tp : Nat → Nat) : Nat → Nat → Nat
  | 0, p => p
  | k + 1, p => if P (tp p) = true then spn P tp k (p + 1) else p
theorem spn_y {P : Nat → Bool} {tp : Nat → Nat} {k p : Nat} (h : P (tp p) = true) : spn P tp (k + 1) p = spn P tp k (p + 1) := by
  show (if _ then _ else _) = _
  rw [if_pos h]
theorem spn_n {P : Nat → Bool} {tp : Nat → Nat} {k p : Nat} (h : P (tp p) = false) : spn P tp k p = p := by
  cases k with
  | zero => rfl
  | succ k => show (if _ then _ else _) = _; rw [if_neg (by rw [h]; decide)]
theorem spn_ge {P : Nat → Bool} {tp : Nat → Nat} : ∀ k p, p ≤ spn P tp k p ∧ spn P tp k p ≤ p + k
  | 0, p => ⟨Nat.le_refl _, Nat.le_refl _⟩
  | k + 1, p => by
    have ih := spn_ge (P := P) (tp := tp) k (p + 1)
    show p ≤ (if _ then _ else _) ∧ (if _ then _ else _) ≤ p + (k + 1)
    split <;> omega
theorem spn_in {P : Nat → Bool} {tp : Nat → Nat} : ∀ k p j, p ≤ j → j < spn P tp k p → P (tp j) = true
  | 0, p, j, h1, h2 => absurd h2 (by show ¬ j < p; omega)
  | k + 1, p, j, h1, h2 => by
    by_cases h : P (tp p) = true
    · rw [spn_y h] at h2
      by_cases e : j = p
      · subst e; exact h
      · exact spn_in k (p + 1) j (by omega) h2
    · rw [spn_n (by cases z : P (tp p); rfl; exact absurd z h)] at h2
      omega
theorem spn_out {P : Nat → Bool} {tp : Nat → Nat} : ∀ k p, spn P tp k p < p + k → P (tp (spn P tp k p)) = false
  | 0, p, h => absurd h (by show ¬ p < p + 0; omega)
  | k + 1, p, h => by
    by_cases hp : P (tp p) = true
    · rw [spn_y hp] at h ⊢
      exact spn_out k (p + 1) (by omega)
    · have hp : P (tp p) = false := by cases z : P (tp p); rfl; exact absurd z hp
      rw [spn_n hp]; exact hp
/-- the words -/
def wdsL : List (List Nat) := [[109, 111, 118, 101], [99, 111, 117, 110, 116], [102, 114, 111, 109], [116, 111], [109, 105, 110, 101], [116, 104, 101, 105, 114, 115], [115, 105, 100, 101], [115, 116, 101, 112], [108, 101, 97, 112], [112, 117, 115, 104], [99, 104, 97, 110, 103, 101], [119, 104, 105, 108, 101], [112, 108, 97, 99, 101], [111, 102, 102, 101, 114], [114, 101, 102, 117, 115, 101], [99, 104, 111, 111, 115, 101], [110, 101, 118, 101, 114], [97, 110, 100], [111, 114], [110, 111, 116]]
def wdF : List (List Nat) → Nat → List Nat → Nat
  | [], _, _ => 36
  | w :: ws, i, l => if l = w then i else wdF ws (i + 1) l
def wdT (l : List Nat) : Nat := wdF wdsL 0 l
def w1L : List Nat := wdsL.flatMap (fun w => w ++ [32])
theorem w1_b : wb1 = w1L.map nI := by decide +kernel
theorem w1_len : w1L.length = 107 := by decide +kernel
/-- the class compares letter by letter -/
def scW (l : List Nat) : List Nat → Nat → Nat → Bool → Nat
  | [], _, _, _ => 36
  | c :: cs, nb, off, sm => if c = 32 then (if sm = true ∧ off = l.length then nb else scW l cs (nb + 1) 0 true) else scW l cs nb (off + 1) (sm && decide (off < l.length) && (l.getD off 0 == c))
theorem scW_w {l : List Nat} {cs : List Nat} {nb : Nat} : ∀ (w : List Nat) (off : Nat) (sm : Bool), (∀ c, c ∈ w → c ≠ 32) → (sm = true → off ≤ l.length) → scW l (w ++ 32 :: cs) nb off sm = if sm = true ∧ l.drop off = w then nb else scW l cs (nb + 1) 0 true
  | [], off, sm, _, ho => by
    show (if (32 : Nat) = 32 then _ else _) = _
    rw [if_pos rfl]
    have : (sm = true ∧ off = l.length) ↔ (sm = true ∧ l.drop off = []) := by
      constructor
      · rintro ⟨a, b⟩; exact ⟨a, by rw [b]; exact List.drop_length⟩
      · rintro ⟨a, b⟩
        refine ⟨a, ?_⟩
        have h1 := ho a
        have h2 : (l.drop off).length = 0 := by rw [b]; rfl
        rw [List.length_drop] at h2
        omega
    simp only [this]
  | c :: w, off, sm, hc, ho => by
    have h32 := hc c List.mem_cons_self
    show (if c = 32 then _ else _) = _
    rw [if_neg h32]
    show scW l (w ++ 32 :: cs) nb (off + 1) (sm && decide (off < l.length) && (l.getD off 0 == c)) = _
    rw [scW_w w (off + 1) _ (fun d hd => hc d (List.mem_cons_of_mem _ hd)) (fun z => by
      simp only [Bool.and_eq_true, decide_eq_true_eq] at z
      omega)]
    have : ((sm && decide (off < l.length) && (l.getD off 0 == c)) = true ∧ l.drop (off + 1) = w) ↔ (sm = true ∧ l.drop off = c :: w) := by
      simp only [Bool.and_eq_true, decide_eq_true_eq, beq_iff_eq]
      constructor
      · rintro ⟨⟨⟨a, b⟩, d⟩, e⟩
        refine ⟨a, ?_⟩
        rw [List.drop_eq_getElem_cons b, e]
        rw [List.getD_eq_getElem?_getD, List.getElem?_eq_getElem b] at d
        exact congrArg (· :: w) d
      · rintro ⟨a, b⟩
        have h1 : off < l.length := by
          apply Classical.byContradiction
          intro z
          rw [List.drop_of_length_le (by omega)] at b
          cases b
        rw [List.drop_eq_getElem_cons h1] at b
        obtain ⟨b1, b2⟩ := List.cons.inj b
        exact ⟨⟨⟨a, h1⟩, by rw [List.getD_eq_getElem?_getD, List.getElem?_eq_getElem h1]; exact b1⟩, b2⟩
    simp only [this]
theorem scW_all {l : List Nat} : ∀ (ws : List (List Nat)) (nb : Nat), (∀ w, w ∈ ws → ∀ c, c ∈ w → c ≠ 32) → scW l (ws.flatMap (fun w => w ++ [32])) nb 0 true = wdF ws nb l
  | [], _, _ => rfl
  | w :: ws, nb, hc => by
    rw [List.flatMap_cons, List.append_assoc]
    show scW l (w ++ 32 :: (ws.flatMap (fun w => w ++ [32]))) nb 0 true = _
    rw [scW_w w 0 true (hc w List.mem_cons_self) (fun _ => Nat.zero_le _), scW_all ws (nb + 1) (fun v hv => hc v (List.mem_cons_of_mem _ hv)), List.drop_zero]
    show _ = if l = w then nb else wdF ws (nb + 1) l
    simp only [true_and]
theorem wd_no : ∀ w ∈ wdsL, ∀ c ∈ w, c ≠ 32 := by decide +kernel
theorem scW_t {l : List Nat} : scW l w1L 0 0 true = wdT l := scW_all wdsL 0 (fun w hw c hc => wd_no w hw c hc)
/-- the reference's number of a word -/
def rvW : List Nat → Nat
  | [] => 0
  | c :: r => 64 * rvW r + (c - 64)
def hsW : List Nat → Nat → Nat
  | [], a => a
  | c :: r, a => hsW r (64 * a + (c - 64))
def okW1 (l : List Nat) : Prop := ∀ c, c ∈ l → 65 ≤ c ∧ c ≤ 122
theorem hsW_app {c : Nat} : ∀ (l : List Nat) (a : Nat), hsW (l ++ [c]) a = 64 * hsW l a + (c - 64)
  | [], _ => rfl
  | d :: l, a => hsW_app l _
theorem hsW_rv : ∀ l : List Nat, hsW l.reverse 0 = rvW l
  | [] => rfl
  | c :: l => by rw [List.reverse_cons, hsW_app, hsW_rv l]; rfl
theorem rvW_inj : ∀ l l' : List Nat, okW1 l → okW1 l' → rvW l = rvW l' → l = l'
  | [], [], _, _, _ => rfl
  | [], c :: l', _, h', e => by
    have := h' c List.mem_cons_self
    change 0 = 64 * rvW l' + (c - 64) at e
    omega
  | c :: l, [], h, _, e => by
    have := h c List.mem_cons_self
    change 64 * rvW l + (c - 64) = 0 at e
    omega
  | c :: l, c' :: l', h, h', e => by
    have h1 := h c List.mem_cons_self
    have h2 := h' c' List.mem_cons_self
    change 64 * rvW l + (c - 64) = 64 * rvW l' + (c' - 64) at e
    rw [rvW_inj l l' (fun d hd => h d (List.mem_cons_of_mem _ hd)) (fun d hd => h' d (List.mem_cons_of_mem _ hd)) (by omega), show c = c' by omega]
theorem hsW_inj {l l' : List Nat} (h : okW1 l) (h' : okW1 l') (e : hsW l 0 = hsW l' 0) : l = l' := by
  have e1 := hsW_rv l.reverse
  have e2 := hsW_rv l'.reverse
  rw [List.reverse_reverse] at e1 e2
  rw [e1, e2] at e
  have := rvW_inj l.reverse l'.reverse (fun c hc => h c (List.mem_reverse.mp hc)) (fun c hc => h' c (List.mem_reverse.mp hc)) e
  have := congrArg List.reverse this
  rwa [List.reverse_reverse, List.reverse_reverse] at this
theorem hsW_lt : ∀ (l : List Nat) (a : Nat), okW1 l → hsW l a < 64 ^ l.length * (a + 1)
  | [], a, _ => by show a < 64 ^ 0 * (a + 1); omega
  | c :: l, a, h => by
    have ih := hsW_lt l (64 * a + (c - 64)) (fun d hd => h d (List.mem_cons_of_mem _ hd))
    have hc := h c List.mem_cons_self
    show hsW l (64 * a + (c - 64)) < 64 ^ (l.length + 1) * (a + 1)
    refine Nat.lt_of_lt_of_le ih ?_
    rw [Nat.pow_succ, Nat.mul_assoc]
    exact Nat.mul_le_mul_left _ (by omega)
/-- the words as the reference numbers them -/
def rwT (t : Nat) : Nat := [0, 14, 15, 16, 17, 18, 19, 6, 7, 8, 9, 10, 1, 2, 3, 4, 5, 12, 11, 13].getD t 0
def wcF : List (List Nat) → List Nat → Nat → Nat → Option Nat
  | [], _, _, _ => none
  | w :: ws, rs, i, x => if x = hsW w 0 then some (rs.getD i 0) else wcF ws rs (i + 1) x
/-- digits -/
def nmV (tp : Nat → Nat) : Nat → Nat → Nat → Nat
  | 0, _, v => v
  | k + 1, p, v => nmV tp k (p + 1) (min 10000 (v * 10 + (tp p - 48)))
def nmM (tp : Nat → Nat) : Nat → Nat → Nat → Nat
  | 0, _, v => v
  | k + 1, p, v => nmM tp k (p + 1) (if 99999 < v then v else 10 * v + (tp p - 48))
theorem nm_eq {tp : Nat → Nat} : ∀ (k p v u : Nat), u = min 10000 v → nmV tp k p u = min 10000 (nmM tp k p v)
  | 0, _, _, _, h => h
  | k + 1, p, v, u, h => by
    refine nm_eq k (p + 1) _ _ ?_
    split <;> omega
theorem nmM_lt {tp : Nat → Nat} : ∀ (k p v : Nat), (∀ j, p ≤ j → j < p + k → tp j ≤ 57) → v < 1000000 → nmM tp k p v < 1000000
  | 0, _, _, _, h => h
  | k + 1, p, v, ht, h => by
    refine nmM_lt k (p + 1) _ (fun j a b => ht j (by omega) (by omega)) ?_
    have := ht p (by omega) (by omega)
    split <;> omega
theorem nmV_le {tp : Nat → Nat} : ∀ (k p v : Nat), v ≤ 10000 → nmV tp k p v ≤ 10000
  | 0, _, _, h => h
  | k + 1, p, v, h => nmV_le k (p + 1) _ (by omega)
def sgT (c : Nat) : Nat := if c = 60 then 21 else if c = 62 then 23 else if c = 61 then 25 else if c = 35 then 26 else if c = 43 then 27 else if c = 45 then 28 else if c = 42 then 29 else if c = 47 then 30 else if c = 40 then 31 else if c = 41 then 32 else if c = 44 then 33 else if c = 59 then 34 else 36
/-- the token at a place -/
def tSt (tp : Nat → Nat) (ln a : Nat) : Nat := spn isW tp (ln - a) a
def tWe (tp : Nat → Nat) (ln p : Nat) : Nat := spn isL tp (ln - p) p
def tGe (tp : Nat → Nat) (ln p : Nat) : Nat := spn isG tp (ln - p) p
def lets (tp : Nat → Nat) (p q : Nat) : List Nat := (List.range' p (q - p)).map tp
def tTp (tp : Nat → Nat) (ln p : Nat) : Nat := if ln ≤ p then 35 else if isL (tp p) = true then wdT (lets tp p (tWe tp ln p)) else if isG (tp p) = true then 20 else if (tp p = 60 ∨ tp p = 62) ∧ p + 1 < ln ∧ tp (p + 1) = 61 then (if tp p = 60 then 22 else 24) else sgT (tp p)
def tNp (tp : Nat → Nat) (ln p : Nat) : Nat := if ln ≤ p then p else if isL (tp p) = true then tWe tp ln p else if isG (tp p) = true then tGe tp ln p else if (tp p = 60 ∨ tp p = 62) ∧ p + 1 < ln ∧ tp (p + 1) = 61 then p + 2 else p + 1
def tTk (tp : Nat → Nat) (ln a : Nat) : Nat := tTp tp ln (tSt tp ln a)
def tNx (tp : Nat → Nat) (ln a : Nat) : Nat := tNp tp ln (tSt tp ln a)
def tNm (tp : Nat → Nat) (ln a : Nat) : Nat := nmV tp (tGe tp ln (tSt tp ln a) - tSt tp ln a) (tSt tp ln a) 0
def tMm (tp : Nat → Nat) (ln a : Nat) : Nat := nmM tp (tGe tp ln (tSt tp ln a) - tSt tp ln a) (tSt tp ln a) 0
theorem lets_len {tp : Nat → Nat} {p q : Nat} : (lets tp p q).length = q - p := by unfold lets; rw [List.length_map, List.length_range']
theorem lets_at {tp : Nat → Nat} {p q j : Nat} (h : j < q - p) : (lets tp p q).getD j 0 = tp (p + j) := by
  unfold lets
  rw [List.getD_eq_getElem?_getD, List.getElem?_map, List.getElem?_range' h]
  simp
theorem tSt_b {tp : Nat → Nat} {ln a : Nat} (h : a ≤ ln) : a ≤ tSt tp ln a ∧ tSt tp ln a ≤ ln := by
  have := spn_ge (P := isW) (tp := tp) (ln - a) a
  unfold tSt
  omega
theorem tNp_b {tp : Nat → Nat} {ln p : Nat} (h : p ≤ ln) : p ≤ tNp tp ln p ∧ tNp tp ln p ≤ ln ∧ (p < ln → p < tNp tp ln p) := by
  have h1 := spn_ge (P := isL) (tp := tp) (ln - p) p
  have h2 := spn_ge (P := isG) (tp := tp) (ln - p) p
  unfold tNp tWe tGe
  by_cases e : ln ≤ p
  · rw [if_pos e]; omega
  · rw [if_neg e]
    obtain ⟨k, hk⟩ : ∃ k, ln - p = k + 1 := ⟨ln - p - 1, by omega⟩
    by_cases l : isL (tp p) = true
    · rw [if_pos l, hk, spn_y l]
      have := spn_ge (P := isL) (tp := tp) k (p + 1)
      omega
    · rw [if_neg l]
      by_cases g : isG (tp p) = true
      · rw [if_pos g, hk, spn_y g]
        have := spn_ge (P := isG) (tp := tp) k (p + 1)
        omega
      · rw [if_neg g]
        split <;> omega
theorem tNx_b {tp : Nat → Nat} {ln a : Nat} (h : a ≤ ln) : tNx tp ln a ≤ ln ∧ a ≤ tNx tp ln a ∧ (tTk tp ln a ≠ 35 → a < tNx tp ln a) := by
  have h1 := tSt_b (tp := tp) h
  have h2 := tNp_b (tp := tp) h1.2
  unfold tNx tTk
  refine ⟨h2.2.1, by omega, fun z => ?_⟩
  by_cases e : ln ≤ tSt tp ln a
  · exfalso
    apply z
    unfold tTp
    rw [if_pos e]
  · have := h2.2.2 (by omega)
    omega
theorem wdF_le : ∀ (ws : List (List Nat)) (i : Nat) (l : List Nat), wdF ws i l < i + ws.length ∨ wdF ws i l = 36
  | [], _, _ => Or.inr rfl
  | w :: ws, i, l => by
    have ih := wdF_le ws (i + 1) l
    rw [List.length_cons]
    show (if _ then _ else _ : Nat) < _ ∨ (if _ then _ else _ : Nat) = 36
    by_cases e : l = w
    · rw [if_pos e]; omega
    · rw [if_neg e]; omega
theorem wdT_le (l : List Nat) : wdT l < 20 ∨ wdT l = 36 := by
  have := wdF_le wdsL 0 l
  rw [show wdsL.length = 20 from rfl] at this
  exact this
theorem tTk_le {tp : Nat → Nat} {ln a : Nat} : tTk tp ln a ≤ 36 := by
  have hw := wdT_le (lets tp (tSt tp ln a) (tWe tp ln (tSt tp ln a)))
  unfold tTk tTp
  split
  · omega
  · split
    · omega
    · split
      · omega
      · split
        · split <;> omega
        · unfold sgT
          repeat' split
          all_goals omega
