/-! ===== the reference follows the pure reading ===== -/
section YSIM0
variable {tp : Nat → Nat} {ln : Nat}
/-- no sign or word of these levels follows -/
def noO (tp : Nat → Nat) (ln l a : Nat) : Prop := ∀ m, l ≤ m → m < 5 → lvO (tTk tp ln a) ≠ m
theorem lvO_5 {t m : Nat} (h : lvO t = m) (hm : m < 5) : isOp t ∧ rk t = (if m < 2 then m + 1 else m) ∧ m ≠ 2 ∧ (m < 2 → t = 17 ∨ t = 18) ∧ (3 ≤ m → 27 ≤ t ∧ t ≤ 30) := by
  unfold lvO at h
  unfold isOp rk
  repeat' split at h
  all_goals first | omega | (subst h; subst_vars; simp)
theorem lvO_op {t : Nat} (h : 27 ≤ t ∧ t ≤ 30) : lvO t = 3 ∨ lvO t = 4 := by
  rcases (show t = 27 ∨ t = 28 ∨ t = 29 ∨ t = 30 by omega) with rfl | rfl | rfl | rfl <;> decide
theorem lvO_35 : lvO 35 = 9 := by decide
theorem tTk_ln : tTk tp ln ln = 35 := by
  have := tSt_b (tp := tp) (Nat.le_refl ln)
  unfold tTk tTp
  rw [if_pos (by omega)]
theorem pLp_end {rc : Nat → Rs} {l : Nat} (hl : l < 5) (hg : ∀ x y c, x ≤ ln → rc x = .inr (y, c) → x < y ∧ y ≤ ln ∧ noO tp ln (l + 1) y) : ∀ (n a : Nat) (c : List Nat) (a' : Nat) (c' : List Nat), a ≤ ln → ln ≤ a + n → noO tp ln (l + 1) a → pLp tp ln rc l n a c = .inr (a', c') → noO tp ln l a'
  | 0, a, c, a', c', h1, h2, h3, h => by
    cases h
    obtain rfl : a = ln := by omega
    intro m _ hm
    rw [tTk_ln, lvO_35]
    omega
  | n + 1, a, c, a', c', h1, h2, h3, h => by
    change (if lvO (tTk tp ln a) = l then _ else _) = _ at h
    by_cases e : lvO (tTk tp ln a) = l
    · rw [if_pos e] at h
      have hx := tNx_b (tp := tp) h1
      have hne : tTk tp ln a ≠ 35 := fun z => by rw [z, lvO_35] at e; omega
      have hlt := hx.2.2 hne
      cases hr : rc (tNx tp ln a) with
      | inl q => rw [hr] at h; cases h
      | inr q =>
        obtain ⟨y, c1⟩ := q
        rw [hr] at h
        obtain ⟨g1, g2, g3⟩ := hg _ y c1 hx.1 hr
        exact pLp_end hl hg n y _ a' c' g2 (by omega) g3 h
    · rw [if_neg e] at h
      cases h
      intro m hm hm5 q
      by_cases z : m = l
      · exact e (by rw [q, z])
      · exact h3 m (by omega) hm5 q
theorem pP_end (h300 : ln ≤ 300) : ∀ (d k l o a a' : Nat) (c : List Nat), a ≤ ln → o ≤ 8 → k ≤ 2 → l ≤ 5 → pP tp ln d k l o a = .inr (a', c) → (k = 0 → noO tp ln l a') ∧ (k = 1 → noO tp ln 2 a')
  | 0, _, _, _, _, _, _, _, _, _, _, h => by cases h
  | d + 1, k, l, o, a, a', c, ha, ho, hk, hl5, h => by
    have ih := fun k l o a a' c => pP_end h300 d k l o a a' c
    unfold pP at h
    by_cases k0 : k = 0
    · subst k0
      refine ⟨fun _ => ?_, fun z => absurd z (by decide)⟩
      rw [if_pos rfl] at h
      by_cases l2 : l = 2
      · subst l2
        rw [if_pos rfl] at h
        exact (ih 1 0 o a a' c ha ho (by omega) (by omega) h).2 rfl
      · rw [if_neg l2] at h
        by_cases l5 : l < 5
        · rw [if_pos l5] at h
          cases hr : pP tp ln d 0 (l + 1) o a with
          | inl q => rw [hr] at h; cases h
          | inr q =>
            obtain ⟨a1, c1⟩ := q
            rw [hr] at h
            obtain ⟨⟨g1, g2, g3⟩, -⟩ := pP_ok d 0 (l + 1) o a a1 c1 ha ho (by omega) (by omega) hr
            exact pLp_end l5 (fun x y c hx hy => by
              obtain ⟨⟨f1, f2, f3⟩, -⟩ := pP_ok d 0 (l + 1) o x y c hx ho (by omega) (by omega) hy
              exact ⟨f1, f2, (ih 0 (l + 1) o x y c hx ho (by omega) (by omega) hy).1 rfl⟩) 300 a1 c1 a' c g2 (by omega) ((ih 0 (l + 1) o a a1 c1 ha ho (by omega) (by omega) hr).1 rfl) h
        · intro m hm; omega
    · refine ⟨fun z => absurd z k0, fun k1 => ?_⟩
      subst k1
      rw [if_neg k0, if_pos rfl] at h
      by_cases e19 : tTk tp ln a = 19
      · rw [if_pos e19] at h
        by_cases o8 : o < 8
        · rw [if_pos o8] at h
          have hx := tNx_b (tp := tp) ha
          cases hr : pP tp ln d 1 0 (o + 1) (tNx tp ln a) with
          | inl q => rw [hr] at h; cases h
          | inr q =>
            obtain ⟨a1, c1⟩ := q
            rw [hr] at h
            cases h
            exact (ih 1 0 (o + 1) _ _ _ hx.1 (by omega) (by omega) (by omega) hr).2 rfl
        · rw [if_neg o8] at h; cases h
      · rw [if_neg e19] at h
        cases hr : pP tp ln d 0 3 o a with
        | inl q => rw [hr] at h; cases h
        | inr q =>
          obtain ⟨a1, c1⟩ := q
          rw [hr] at h
          obtain ⟨⟨g1, g2, g3⟩, -⟩ := pP_ok d 0 3 o a a1 c1 ha ho (by omega) (by omega) hr
          change (if 21 ≤ tTk tp ln a1 ∧ tTk tp ln a1 ≤ 26 then _ else _) = _ at h
          by_cases ec : 21 ≤ tTk tp ln a1 ∧ tTk tp ln a1 ≤ 26
          · rw [if_pos ec] at h
            have hx1 := tNx_b (tp := tp) g2
            cases hr2 : pP tp ln d 0 3 o (tNx tp ln a1) with
            | inl q => rw [hr2] at h; cases h
            | inr q =>
              obtain ⟨a2, c2⟩ := q
              rw [hr2] at h
              cases h
              have := (ih 0 3 o _ _ _ hx1.1 ho (by omega) (by omega) hr2).1 rfl
              intro m hm hm5 q
              by_cases z : m = 2
              · subst z
                exact (lvO_5 q (by omega)).2.2.1 rfl
              · exact this m (by omega) hm5 q
          · rw [if_neg ec] at h; cases h
end YSIM0
/-- what waits below stays -/
def stW (r n : Nat) (W : List (Nat × Nat)) : Prop := wkS r n W = (W, [])
theorem stW.mono {r r' n : Nat} {W : List (Nat × Nat)} (h : stW r n W) (hr : r ≤ r') : stW r' n W := by
  unfold stW at *
  cases W with
  | nil => rfl
  | cons w W =>
    rw [wkS] at h ⊢
    by_cases z : w.2 = n ∧ r ≤ rk w.1
    · rw [if_pos z] at h
      have := congrArg (fun q => q.2.length) h
      simp at this
    · rw [if_neg (fun q => z ⟨q.1, by omega⟩)]
theorem stW.dep {r n : Nat} {W : List (Nat × Nat)} (h : ∀ w, w ∈ W → w.2 < n) : stW r n W := by
  unfold stW
  cases W with
  | nil => rfl
  | cons w W =>
    have := h w List.mem_cons_self
    rw [wkS, if_neg (fun q => by omega)]
theorem stW.cons {r n t : Nat} {W : List (Nat × Nat)} (h : rk t < r) : stW r n ((t, n) :: W) := by
  unfold stW
  rw [wkS, if_neg (fun q => by have := q.2; dsimp only at this; omega)]
theorem wkS_X {r n : Nat} {W : List (Nat × Nat)} (hW : stW r n W) : ∀ X : List (Nat × Nat), (∀ x, x ∈ X → x.2 = n ∧ r ≤ rk x.1) → wkS r n (X ++ W) = (W, X.map (fun x => 10000 + x.1))
  | [], _ => hW
  | x :: X, h => by
    have h1 := wkS_X hW X (fun y hy => h y (List.mem_cons_of_mem _ hy))
    show wkS r n (x :: (X ++ W)) = _
    rw [wkS, if_pos (h x List.mem_cons_self), h1]
    rfl
