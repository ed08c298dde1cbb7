/-! ===== sums and eithers, purely ===== -/
abbrev Rs : Type := (Nat × Nat) ⊕ (Nat × List Nat)
def bnR (x : Rs) (f : Nat → List Nat → Rs) : Rs := match x with
  | .inl e => .inl e
  | .inr q => f q.1 q.2
def lvO (t : Nat) : Nat := if t = 18 then 0 else if t = 17 then 1 else if t = 27 then 3 else if t = 28 then 3 else if t = 29 then 4 else if t = 30 then 4 else 9
section PARSE
variable (tp : Nat → Nat) (ln : Nat)
def pLp (rc : Nat → Rs) (l : Nat) : Nat → Nat → List Nat → Rs
  | 0, a, c => .inr (a, c)
  | n + 1, a, c => if lvO (tTk tp ln a) = l then bnR (rc (tNx tp ln a)) (fun a1 c1 => pLp rc l n a1 (c ++ c1 ++ [10000 + tTk tp ln a])) else .inr (a, c)
def pP : Nat → Nat → Nat → Nat → Nat → Rs
  | 0, _, _, _, _ => .inl (0, 0)
  | d + 1, k, l, o, a =>
    if k = 0 then
      (if l = 2 then pP d 1 0 o a else if l < 5 then bnR (pP d 0 (l + 1) o a) (fun a1 c1 => pLp tp ln (fun b => pP d 0 (l + 1) o b) l 300 a1 c1) else pP d 2 0 o a)
    else if k = 1 then
      (if tTk tp ln a = 19 then (if o < 8 then bnR (pP d 1 0 (o + 1) (tNx tp ln a)) (fun a1 c1 => .inr (a1, c1 ++ [10019])) else .inl (3, a))
      else bnR (pP d 0 3 o a) (fun a1 c1 => if 21 ≤ tTk tp ln a1 ∧ tTk tp ln a1 ≤ 26 then bnR (pP d 0 3 o (tNx tp ln a1)) (fun a2 c2 => .inr (a2, c1 ++ c2 ++ [10000 + tTk tp ln a1])) else .inl (1, a1)))
    else
      (if tTk tp ln a = 20 then (if tNm tp ln a ≤ 9999 then .inr (tNx tp ln a, [tNm tp ln a]) else .inl (2, a))
      else if tTk tp ln a ≤ 6 then .inr (tNx tp ln a, [10000 + tTk tp ln a])
      else if tTk tp ln a = 31 then (if o < 8 then bnR (pP d 0 3 (o + 1) (tNx tp ln a)) (fun a1 c1 => if tTk tp ln a1 = 32 then .inr (tNx tp ln a1, c1) else .inl (1, a1)) else .inl (3, a))
      else if tTk tp ln a = 28 then (if o < 8 then bnR (pP d 2 0 (o + 1) (tNx tp ln a)) (fun a1 c1 => .inr (a1, c1 ++ [10037])) else .inl (3, a))
      else .inl (1, a))
end PARSE
section PARSE2
variable {tp : Nat → Nat} {ln : Nat}
/-- what a good reading has: its signs fit -/
def Ty (c : List Nat) (b : Bool) (hh : Nat) : Prop := cdOk c ∧ ∀ (g : Nat → Bool) (t : Nat), t + hh ≤ 40 → ∃ g', tyF c (g, t) = some (g', t + 1) ∧ g' t = b ∧ ∀ j, j < t → g' j = g j
theorem tyF_app : ∀ (c d : List Nat) (s : (Nat → Bool) × Nat), tyF (c ++ d) s = (tyF c s).bind (tyF d)
  | [], d, s => rfl
  | v :: c, d, s => by
    show (tyS1 v s).bind (tyF (c ++ d)) = ((tyS1 v s).bind (tyF c)).bind (tyF d)
    cases tyS1 v s with
    | none => rfl
    | some s1 => exact tyF_app c d s1
theorem Ty.mono {c : List Nat} {b : Bool} {h1 h2 : Nat} (hc : Ty c b h1) (hh : h1 ≤ h2) : Ty c b h2 := ⟨hc.1, fun g t ht => hc.2 g t (by omega)⟩
theorem cdOk.app {c d : List Nat} (h1 : cdOk c) (h2 : cdOk d) : cdOk (c ++ d) := fun v hv => by
  rcases List.mem_append.mp hv with q | q
  · exact h1 v q
  · exact h2 v q
theorem cdOk.one {v : Nat} (h : v < 20000) : cdOk [v] := fun x hx => by rw [List.mem_singleton] at hx; omega
theorem Ty.leaf {v : Nat} (hv : v ≤ 10006) : Ty [v] false 1 := by
  refine ⟨cdOk.one (by omega), fun g t ht => ⟨up1 g t false, ?_, up1_s, fun j hj => up1_n (by omega)⟩⟩
  show (tyS1 v (g, t)).bind (tyF []) = _
  unfold tyS1
  rw [if_pos hv, if_pos (show t < 40 by omega)]
  rfl
theorem Ty.not {c : List Nat} {hh : Nat} (hc : Ty c true hh) : Ty (c ++ [10019]) true hh := by
  refine ⟨hc.1.app (cdOk.one (by decide)), fun g t ht => ?_⟩
  obtain ⟨g1, e1, e2, e3⟩ := hc.2 g t ht
  refine ⟨g1, ?_, e2, e3⟩
  rw [tyF_app, e1]
  show (tyS1 10019 (g1, t + 1)).bind (tyF []) = _
  unfold tyS1
  rw [if_neg (by decide), if_pos rfl, if_pos (show 1 ≤ t + 1 ∧ g1 (t + 1 - 1) = true from ⟨by omega, by rw [Nat.add_sub_cancel]; exact e2⟩)]
  rfl
theorem Ty.neg {c : List Nat} {hh : Nat} (hc : Ty c false hh) : Ty (c ++ [10037]) false hh := by
  refine ⟨hc.1.app (cdOk.one (by decide)), fun g t ht => ?_⟩
  obtain ⟨g1, e1, e2, e3⟩ := hc.2 g t ht
  refine ⟨g1, ?_, e2, e3⟩
  rw [tyF_app, e1]
  show (tyS1 10037 (g1, t + 1)).bind (tyF []) = _
  unfold tyS1
  rw [if_neg (by decide), if_neg (by decide), if_pos rfl, if_pos (show 1 ≤ t + 1 ∧ g1 (t + 1 - 1) = false from ⟨by omega, by rw [Nat.add_sub_cancel]; exact e2⟩)]
  rfl
/-- a sign that joins two of a kind -/
def jnK (t : Nat) (a b : Bool) : Prop := (isBn t = true ∧ a = true ∧ b = true) ∨ (isCmp t = true ∧ a = false ∧ b = true) ∨ (isAr t = true ∧ a = false ∧ b = false)
theorem Ty.bin {c d : List Nat} {a b : Bool} {h1 h2 t : Nat} (hc : Ty c a h1) (hd : Ty d a h2) (hj : jnK t a b) : Ty (c ++ d ++ [10000 + t]) b (max h1 (h2 + 1)) := by
  have ht : t ≤ 30 ∧ 6 < t ∧ t ≠ 19 := by
    unfold jnK isBn isCmp isAr at hj
    simp only [Bool.or_eq_true, Bool.and_eq_true, beq_iff_eq, decide_eq_true_eq] at hj
    omega
  refine ⟨(hc.1.app hd.1).app (cdOk.one (by omega)), fun g u hu => ?_⟩
  obtain ⟨g1, e1, e2, e3⟩ := hc.2 g u (by omega)
  obtain ⟨g2, d1, d2, d3⟩ := hd.2 g1 (u + 1) (by omega)
  have g2u : g2 u = a := by rw [d3 u (by omega)]; exact e2
  refine ⟨up1 g2 u b, ?_, up1_s, fun j hj' => by rw [up1_n (by omega), d3 j (by omega), e3 j hj']⟩
  rw [tyF_app, tyF_app, e1]
  show ((tyF d (g1, u + 1)).bind (tyF [10000 + t])) = _
  rw [d1]
  show (tyS1 (10000 + t) (g2, u + 1 + 1)).bind (tyF []) = _
  unfold tyS1
  rw [if_neg (by omega), if_neg (by omega), if_neg (by omega), show 10000 + t - 10000 = t by omega]
  dsimp only
  rw [show u + 1 + 1 - 2 = u by omega, show u + 1 + 1 - 1 = u + 1 by omega]
  rcases hj with ⟨x, y, z⟩ | ⟨x, y, z⟩ | ⟨x, y, z⟩
  · subst y z
    rw [if_pos ⟨by omega, x, g2u, d2⟩]
    rfl
  · subst y z
    rw [if_neg (fun q => by rw [g2u] at q; cases q.2.2.1), if_pos ⟨by omega, x, g2u, d2⟩]
    rfl
  · subst y z
    have : isCmp t = false := by
      unfold isAr at x
      unfold isCmp
      simp only [Bool.and_eq_true, decide_eq_true_eq] at x
      simp
      omega
    rw [if_neg (fun q => by rw [g2u] at q; cases q.2.2.1), if_neg (fun q => by rw [this] at q; cases q.2.1), if_pos ⟨by omega, x, g2u, d2⟩]
    rfl
theorem Ty.wt {c : List Nat} {b : Bool} {hh : Nat} (hc : Ty c b hh) (h : hh ≤ 40) : wtC c b := by
  obtain ⟨g', e1, e2, -⟩ := hc.2 (fun _ => false) 0 (by omega)
  exact ⟨hc.1, g', e1, e2⟩
/-- the heights -/
def htP (k l o : Nat) : Nat := (if k = 0 then (if l = 0 then 5 else if l = 1 then 4 else if l = 2 then 3 else if l = 3 then 2 else if l = 4 then 1 else 0) else if k = 1 then 3 else 0) + (1 + 2 * (8 - o))
def kdP (k l : Nat) : Bool := if k = 0 then decide (l ≤ 2) else decide (k = 1)
/-- what is so of a good reading -/
def GdP (a a' : Nat) (c : List Nat) : Prop := a < a' ∧ a' ≤ ln ∧ c.length + a ≤ a'
theorem pLp_ok {rc : Nat → Rs} {l hh : Nat} {b : Bool} (hl : l < 5) (hl2 : l ≠ 2) (hb : b = decide (l ≤ 2)) (hrc : ∀ x y c, x ≤ ln → rc x = .inr (y, c) → GdP (ln := ln) x y c ∧ Ty c b hh) : ∀ (n a a0 : Nat) (c : List Nat) (a' : Nat) (c' : List Nat), a ≤ ln → GdP (ln := ln) a0 a c → Ty c b (hh + 1) → pLp tp ln rc l n a c = .inr (a', c') → GdP (ln := ln) a0 a' c' ∧ Ty c' b (hh + 1)
  | 0, a, a0, c, a', c', _, hg, hty, h => by cases h; exact ⟨hg, hty⟩
  | n + 1, a, a0, c, a', c', ha, hg, hty, h => by
    change (if lvO (tTk tp ln a) = l then _ else _) = _ at h
    by_cases e : lvO (tTk tp ln a) = l
    · rw [if_pos e] at h
      have hx := tNx_b (tp := tp) ha
      have hne : tTk tp ln a ≠ 35 := fun z => by rw [z] at e; unfold lvO at e; simp at e; omega
      cases hr : rc (tNx tp ln a) with
      | inl q => rw [hr] at h; cases h
      | inr q =>
        obtain ⟨y, c1⟩ := q
        rw [hr] at h
        obtain ⟨⟨g1, g2, g3⟩, ht⟩ := hrc _ y c1 hx.1 hr
        have hlt := hx.2.2 hne
        refine pLp_ok hl hl2 hb hrc n y a0 _ a' c' g2 ⟨by have := hg.1; omega, g2, ?_⟩ ?_ h
        · rw [List.length_append, List.length_append]
          have := hg.2.2
          simp only [List.length_singleton]
          omega
        · refine (hty.bin ht ?_).mono (by omega)
          subst hb
          unfold jnK
          unfold lvO at e
          unfold isBn isAr isCmp
          repeat' split at e
          all_goals first | omega | (subst e; simp [*])
    · rw [if_neg e] at h
      cases h
      exact ⟨hg, hty⟩
theorem pP_ok : ∀ (d k l o a a' : Nat) (c : List Nat), a ≤ ln → o ≤ 8 → k ≤ 2 → l ≤ 5 → pP tp ln d k l o a = .inr (a', c) → GdP (ln := ln) a a' c ∧ Ty c (kdP k l) (htP k l o)
  | 0, _, _, _, _, _, _, _, _, _, _, h => by cases h
  | d + 1, k, l, o, a, a', c, ha, ho, hk, hl5, h => by
    have ih := fun k l o a a' c => pP_ok d k l o a a' c
    have hx := tNx_b (tp := tp) ha
    have hlt : tTk tp ln a ≠ 35 → a < tNx tp ln a := hx.2.2
    unfold pP at h
    by_cases k0 : k = 0
    · subst k0
      rw [if_pos rfl] at h
      by_cases l2 : l = 2
      · subst l2
        rw [if_pos rfl] at h
        obtain ⟨h1, h2⟩ := ih 1 0 o a a' c ha ho (by omega) (by omega) h
        exact ⟨h1, h2⟩
      · rw [if_neg l2] at h
        by_cases l5 : l < 5
        · rw [if_pos l5] at h
          cases hr : pP tp ln d 0 (l + 1) o a with
          | inl q => rw [hr] at h; cases h
          | inr q =>
            obtain ⟨a1, c1⟩ := q
            rw [hr] at h
            have hkd : kdP 0 (l + 1) = decide (l ≤ 2) := by
              unfold kdP
              rw [if_pos rfl]
              congr 1
              rw [eq_iff_iff]
              omega
            have hrc : ∀ x y c, x ≤ ln → pP tp ln d 0 (l + 1) o x = .inr (y, c) → GdP (ln := ln) x y c ∧ Ty c (decide (l ≤ 2)) (htP 0 (l + 1) o) := fun x y c hx' hy => by
              rw [← hkd]
              exact ih 0 (l + 1) o x y c hx' ho (by omega) (by omega) hy
            obtain ⟨g1, t1⟩ := hrc a a1 c1 ha hr
            have hht : htP 0 (l + 1) o + 1 = htP 0 l o := by
              unfold htP
              simp only [if_true]
              repeat' split
              all_goals omega
            have := pLp_ok (tp := tp) l5 l2 rfl hrc 300 a1 a c1 a' c g1.2.1 g1 (t1.mono (by omega)) h
            rw [hht] at this
            exact this
        · rw [if_neg l5] at h
          obtain rfl : l = 5 := by omega
          exact ih 2 0 o a a' c ha ho (by omega) (by omega) h
    · rw [if_neg k0] at h
      by_cases k1 : k = 1
      · subst k1
        rw [if_pos rfl] at h
        by_cases e19 : tTk tp ln a = 19
        · rw [if_pos e19] at h
          by_cases o8 : o < 8
          · rw [if_pos o8] at h
            cases hr : pP tp ln d 1 0 (o + 1) (tNx tp ln a) with
            | inl q => rw [hr] at h; cases h
            | inr q =>
              obtain ⟨a1, c1⟩ := q
              rw [hr] at h
              cases h
              obtain ⟨⟨g1, g2, g3⟩, t1⟩ := ih 1 0 (o + 1) _ _ _ hx.1 (by omega) (by omega) (by omega) hr
              have := hlt (by omega)
              refine ⟨⟨by omega, g2, by rw [List.length_append]; simp only [List.length_singleton]; omega⟩, (Ty.not t1).mono ?_⟩
              unfold htP
              simp
              omega
          · rw [if_neg o8] at h; cases h
        · rw [if_neg e19] at h
          cases hr : pP tp ln d 0 3 o a with
          | inl q => rw [hr] at h; cases h
          | inr q =>
            obtain ⟨a1, c1⟩ := q
            rw [hr] at h
            obtain ⟨⟨g1, g2, g3⟩, t1⟩ := ih 0 3 o a a1 c1 ha ho (by omega) (by omega) hr
            change (if 21 ≤ tTk tp ln a1 ∧ tTk tp ln a1 ≤ 26 then _ else _) = _ at h
            by_cases ec : 21 ≤ tTk tp ln a1 ∧ tTk tp ln a1 ≤ 26
            · rw [if_pos ec] at h
              have hx1 := tNx_b (tp := tp) g2
              cases hr2 : pP tp ln d 0 3 o (tNx tp ln a1) with
              | inl q => rw [hr2] at h; cases h
              | inr q =>
                obtain ⟨a2, c2⟩ := q
                rw [hr2] at h
                cases h
                obtain ⟨⟨f1, f2, f3⟩, t2⟩ := ih 0 3 o _ _ _ hx1.1 ho (by omega) (by omega) hr2
                have := hx1.2.2 (by omega)
                refine ⟨⟨by omega, f2, by rw [List.length_append, List.length_append]; simp only [List.length_singleton]; omega⟩, (Ty.bin t1 t2 (Or.inr (Or.inl ⟨?_, rfl, rfl⟩))).mono ?_⟩
                · unfold isCmp
                  simp [ec.1, ec.2]
                · unfold htP
                  simp
                  omega
            · rw [if_neg ec] at h; cases h
      · rw [if_neg k1] at h
        obtain rfl : k = 2 := by omega
        have hleaf : htP 2 l o ≥ 1 := by unfold htP; omega
        by_cases e20 : tTk tp ln a = 20
        · rw [if_pos e20] at h
          by_cases en : tNm tp ln a ≤ 9999
          · rw [if_pos en] at h
            cases h
            have := hlt (by omega)
            exact ⟨⟨this, hx.1, by simp; omega⟩, (Ty.leaf (by omega)).mono hleaf⟩
          · rw [if_neg en] at h; cases h
        · rw [if_neg e20] at h
          by_cases e6 : tTk tp ln a ≤ 6
          · rw [if_pos e6] at h
            cases h
            have := hlt (by omega)
            exact ⟨⟨this, hx.1, by simp; omega⟩, (Ty.leaf (by omega)).mono hleaf⟩
          · rw [if_neg e6] at h
            by_cases e31 : tTk tp ln a = 31
            · rw [if_pos e31] at h
              by_cases o8 : o < 8
              · rw [if_pos o8] at h
                cases hr : pP tp ln d 0 3 (o + 1) (tNx tp ln a) with
                | inl q => rw [hr] at h; cases h
                | inr q =>
                  obtain ⟨a1, c1⟩ := q
                  rw [hr] at h
                  obtain ⟨⟨g1, g2, g3⟩, t1⟩ := ih 0 3 (o + 1) _ _ _ hx.1 (by omega) (by omega) (by omega) hr
                  have := hlt (by omega)
                  change (if tTk tp ln a1 = 32 then _ else _) = _ at h
                  by_cases e32 : tTk tp ln a1 = 32
                  · rw [if_pos e32] at h
                    cases h
                    have hx1 := tNx_b (tp := tp) g2
                    have := hx1.2.2 (by omega)
                    refine ⟨⟨by show a < tNx tp ln a1; omega, hx1.1, by show c1.length + a ≤ tNx tp ln a1; omega⟩, t1.mono ?_⟩
                    unfold htP
                    simp
                    omega
                  · rw [if_neg e32] at h; cases h
              · rw [if_neg o8] at h; cases h
            · rw [if_neg e31] at h
              by_cases e28 : tTk tp ln a = 28
              · rw [if_pos e28] at h
                by_cases o8 : o < 8
                · rw [if_pos o8] at h
                  cases hr : pP tp ln d 2 0 (o + 1) (tNx tp ln a) with
                  | inl q => rw [hr] at h; cases h
                  | inr q =>
                    obtain ⟨a1, c1⟩ := q
                    rw [hr] at h
                    cases h
                    obtain ⟨⟨g1, g2, g3⟩, t1⟩ := ih 2 0 (o + 1) _ _ _ hx.1 (by omega) (by omega) (by omega) hr
                    have := hlt (by omega)
                    refine ⟨⟨by omega, g2, by rw [List.length_append]; simp only [List.length_singleton]; omega⟩, (Ty.neg t1).mono ?_⟩
                    unfold htP
                    simp
                    omega
                · rw [if_neg o8] at h; cases h
              · rw [if_neg e28] at h; cases h
end PARSE2
