/-! ===== texts, purely ===== -/
def bnG {α β : Type} (x : (Nat × Nat) ⊕ α) (f : α → (Nat × Nat) ⊕ β) : (Nat × Nat) ⊕ β := match x with
  | .inl e => .inl e
  | .inr q => f q
section PTEXT
variable (tp : Nat → Nat) (ln : Nat)
def pNum (hi a : Nat) : (Nat × Nat) ⊕ (Nat × Nat) := if tTk tp ln a = 20 then (if tNm tp ln a ≤ hi then .inr (tNx tp ln a, tNm tp ln a) else .inl (2, a)) else .inl (1, a)
def pWd (lo hi a : Nat) : (Nat × Nat) ⊕ (Nat × Nat) := if lo ≤ tTk tp ln a ∧ tTk tp ln a ≤ hi then .inr (tNx tp ln a, tTk tp ln a) else .inl (1, a)
def pAct (a : Nat) : (Nat × Nat) ⊕ (Nat × Nat × Nat × Nat × Nat) :=
  bnG (pNum tp ln 7 a) (fun p => bnG (pWd tp ln 7 10 p.1) (fun w => bnG (pNum tp ln 3 w.1) (fun k => bnG (pWd tp ln 33 33 k.1) (fun s => bnG (pNum tp ln 3 s.1) (fun z => .inr (z.1, p.2, w.2, k.2, z.2))))))
/-- the end of a clause -/
def pFin (t mv ac kd dr : Nat) (a : Nat) (c : List Nat) : (Nat × Nat) ⊕ (Nat × Cl) := if tTk tp ln a = 34 then .inr (tNx tp ln a, (t, mv, ac, kd, dr, c)) else .inl (1, a)
def pBod (l t mv ac kd dr : Nat) (a : Nat) : (Nat × Nat) ⊕ (Nat × Cl) := bnG (pP tp ln 64 0 l 0 a) (fun q => pFin tp ln t mv ac kd dr q.1 q.2)
def pCl (T : Txt) (a : Nat) : (Nat × Nat) ⊕ (Nat × Cl) :=
  if tTk tp ln a = 0 ∨ (12 ≤ tTk tp ln a ∧ tTk tp ln a ≤ 16) then
    (if 12 ≤ tTk tp ln a ∧ tTk tp ln a ≤ 15 ∧ (fTd (tTk tp ln a) T 0).isSome = true then .inl (4, a)
    else if T.length = 20 then .inl (5, a)
    else if tTk tp ln a = 0 then bnG (pAct tp ln (tNx tp ln a)) (fun x => if tTk tp ln x.1 = 11 then pBod tp ln 0 0 x.2.1 x.2.2.1 x.2.2.2.1 x.2.2.2.2 (tNx tp ln x.1) else pFin tp ln 0 x.2.1 x.2.2.1 x.2.2.2.1 x.2.2.2.2 x.1 [])
    else pBod tp ln (if tTk tp ln a = 16 then 0 else 3) (tTk tp ln a) 0 0 0 0 (tNx tp ln a))
  else .inl (1, a)
def pTx : Nat → Nat → Txt → (Nat × Nat) ⊕ Txt
  | 0, _, T => .inr T
  | n + 1, a, T => if tTk tp ln a = 35 then .inr T else bnG (pCl tp ln T a) (fun q => pTx n q.1 (T ++ [q.2]))
end PTEXT
section PTEXT2
variable {tp : Nat → Nat} {ln : Nat}
theorem bnG_r {α β : Type} {x : (Nat × Nat) ⊕ α} {f : α → (Nat × Nat) ⊕ β} {z : β} (h : bnG x f = .inr z) : ∃ q, x = .inr q ∧ f q = .inr z := by
  cases x with
  | inl e => cases h
  | inr q => exact ⟨q, rfl, h⟩
theorem pNum_ok {hi a : Nat} {q : Nat × Nat} (ha : a ≤ ln) (h : pNum tp ln hi a = .inr q) : tTk tp ln a = 20 ∧ q = (tNx tp ln a, tNm tp ln a) ∧ tNm tp ln a ≤ hi ∧ a < tNx tp ln a ∧ tNx tp ln a ≤ ln := by
  unfold pNum at h
  by_cases e : tTk tp ln a = 20
  · rw [if_pos e] at h
    by_cases z : tNm tp ln a ≤ hi
    · rw [if_pos z] at h
      cases h
      have hx := tNx_b (tp := tp) ha
      exact ⟨e, rfl, z, hx.2.2 (by omega), hx.1⟩
    · rw [if_neg z] at h; cases h
  · rw [if_neg e] at h; cases h
theorem pWd_ok {lo hi a : Nat} {q : Nat × Nat} (ha : a ≤ ln) (hh : hi < 35) (h : pWd tp ln lo hi a = .inr q) : lo ≤ tTk tp ln a ∧ tTk tp ln a ≤ hi ∧ q = (tNx tp ln a, tTk tp ln a) ∧ a < tNx tp ln a ∧ tNx tp ln a ≤ ln := by
  unfold pWd at h
  by_cases e : lo ≤ tTk tp ln a ∧ tTk tp ln a ≤ hi
  · rw [if_pos e] at h
    cases h
    have hx := tNx_b (tp := tp) ha
    exact ⟨e.1, e.2, rfl, hx.2.2 (by omega), hx.1⟩
  · rw [if_neg e] at h; cases h
theorem pAct_ok {a : Nat} {x : Nat × Nat × Nat × Nat × Nat} (ha : a ≤ ln) (h : pAct tp ln a = .inr x) : a + 5 ≤ x.1 ∧ x.1 ≤ ln ∧ x.2.1 < 8 ∧ 7 ≤ x.2.2.1 ∧ x.2.2.1 ≤ 10 ∧ x.2.2.2.1 < 4 ∧ x.2.2.2.2 < 4 := by
  obtain ⟨p, hp, h⟩ := bnG_r h
  obtain ⟨-, rfl, p3, p4, p5⟩ := pNum_ok ha hp
  obtain ⟨w, hw, h⟩ := bnG_r h
  obtain ⟨w1, w2, rfl, w4, w5⟩ := pWd_ok p5 (by decide) hw
  obtain ⟨k, hk, h⟩ := bnG_r h
  obtain ⟨-, rfl, k3, k4, k5⟩ := pNum_ok w5 hk
  obtain ⟨s, hs, h⟩ := bnG_r h
  obtain ⟨s1, s2, rfl, s4, s5⟩ := pWd_ok k5 (by decide) hs
  obtain ⟨z, hz, h⟩ := bnG_r h
  obtain ⟨-, rfl, z3, z4, z5⟩ := pNum_ok s5 hz
  cases h
  dsimp only at *
  omega
theorem pFin_ok {t mv ac kd dr a : Nat} {c : List Nat} {q : Nat × Cl} (ha : a ≤ ln) (h : pFin tp ln t mv ac kd dr a c = .inr q) : tTk tp ln a = 34 ∧ q = (tNx tp ln a, (t, mv, ac, kd, dr, c)) ∧ a < tNx tp ln a ∧ tNx tp ln a ≤ ln := by
  unfold pFin at h
  by_cases e : tTk tp ln a = 34
  · rw [if_pos e] at h
    cases h
    have hx := tNx_b (tp := tp) ha
    exact ⟨e, rfl, hx.2.2 (by omega), hx.1⟩
  · rw [if_neg e] at h; cases h
theorem pBod_ok {l t mv ac kd dr a : Nat} {q : Nat × Cl} (hl : l ≤ 5) (ha : a ≤ ln) (h : pBod tp ln l t mv ac kd dr a = .inr q) : ∃ a1 c, pP tp ln 64 0 l 0 a = .inr (a1, c) ∧ tTk tp ln a1 = 34 ∧ q = (tNx tp ln a1, (t, mv, ac, kd, dr, c)) ∧ a < a1 ∧ a1 < tNx tp ln a1 ∧ tNx tp ln a1 ≤ ln ∧ c.length + a ≤ a1 ∧ wtC c (kdP 0 l) ∧ c ≠ [] := by
  obtain ⟨⟨a1, c⟩, hp, h⟩ := bnG_r h
  obtain ⟨⟨g1, g2, g3⟩, ht⟩ := pP_ok 64 0 l 0 a a1 c ha (by decide) (by decide) hl hp
  obtain ⟨f1, f2, f3, f4⟩ := pFin_ok g2 h
  refine ⟨a1, c, hp, f1, f2, g1, f3, f4, g3, ht.wt ?_, ?_⟩
  · unfold htP
    rw [if_pos rfl]
    repeat' split
    all_goals decide
  · rintro rfl
    have hw := ht.2 (fun _ => false) 0 (by
      unfold htP
      rw [if_pos rfl]
      repeat' split
      all_goals decide)
    obtain ⟨g', e1, -⟩ := hw
    cases e1
theorem fTd_s {y : Nat} : ∀ (T : Txt) (i : Nat), (fTd y T i).isSome = false → ∀ c, c ∈ T → cTy c ≠ y
  | [], _, _, c, hc => by cases hc
  | d :: T, i, h, c, hc => by
    change (if cTy d = y then some i else fTd y T (i + 1)).isSome = false at h
    by_cases e : cTy d = y
    · rw [if_pos e] at h; cases h
    · rw [if_neg e] at h
      rcases List.mem_cons.mp hc with z | z
      · rw [z]; exact e
      · exact fTd_s T (i + 1) h c z
theorem pCl_ok {T : Txt} {a : Nat} {q : Nat × Cl} (ha : a ≤ ln) (h : pCl tp ln T a = .inr q) : a < q.1 ∧ q.1 ≤ ln ∧ okCl q.2 ∧ T.length ≠ 20 ∧ (cCd q.2).length + a < q.1 ∧ (12 ≤ cTy q.2 → cTy q.2 ≤ 15 → ∀ c, c ∈ T → cTy c ≠ cTy q.2) ∧ tTk tp ln a = cTy q.2 := by
  have hx := tNx_b (tp := tp) ha
  unfold pCl at h
  by_cases e : tTk tp ln a = 0 ∨ (12 ≤ tTk tp ln a ∧ tTk tp ln a ≤ 16)
  · rw [if_pos e] at h
    have hlt := hx.2.2 (by omega)
    by_cases e4 : 12 ≤ tTk tp ln a ∧ tTk tp ln a ≤ 15 ∧ (fTd (tTk tp ln a) T 0).isSome = true
    · rw [if_pos e4] at h; cases h
    rw [if_neg e4] at h
    by_cases e5 : T.length = 20
    · rw [if_pos e5] at h; cases h
    rw [if_neg e5] at h
    by_cases e0 : tTk tp ln a = 0
    · rw [if_pos e0] at h
      obtain ⟨x, hx1, h⟩ := bnG_r h
      obtain ⟨b1, b2, b3, b4, b5, b6, b7⟩ := pAct_ok hx.1 hx1
      by_cases e11 : tTk tp ln x.1 = 11
      · rw [if_pos e11] at h
        have hxx := tNx_b (tp := tp) b2
        obtain ⟨a1, c, -, -, rfl, d1, d2, d3, d4, d5, d6⟩ := pBod_ok (by decide) hxx.1 h
        refine ⟨by dsimp only; omega, d3, Or.inl ⟨rfl, b3, b4, b5, b6, b7, Or.inr d5⟩, e5, ?_, fun z => absurd z (show ¬ 12 ≤ 0 by decide), e0⟩
        show c.length + a < tNx tp ln a1
        omega
      · rw [if_neg e11] at h
        obtain ⟨-, rfl, d1, d2⟩ := pFin_ok b2 h
        refine ⟨by dsimp only; omega, d2, Or.inl ⟨rfl, b3, b4, b5, b6, b7, Or.inl rfl⟩, e5, ?_, fun z => absurd z (show ¬ 12 ≤ 0 by decide), e0⟩
        show 0 + a < tNx tp ln x.1
        omega
    · rw [if_neg e0] at h
      obtain ⟨a1, c, -, -, rfl, d1, d2, d3, d4, d5, d6⟩ := pBod_ok (by split <;> decide) hx.1 h
      refine ⟨by dsimp only; omega, d3, ?_, e5, ?_, fun z1 z2 c' hc' => ?_, rfl⟩
      · by_cases e16 : tTk tp ln a = 16
        · rw [if_pos e16] at d5
          exact Or.inr (Or.inr ⟨e16, d5⟩)
        · rw [if_neg e16] at d5
          exact Or.inr (Or.inl ⟨by show 12 ≤ tTk tp ln a; omega, by show tTk tp ln a ≤ 15; omega, d5⟩)
      · show c.length + a < tNx tp ln a1
        omega
      · refine fTd_s T 0 ?_ c' hc'
        cases hs : (fTd (tTk tp ln a) T 0).isSome with
        | false => exact hs
        | true => exact absurd ⟨z1, z2, hs⟩ e4
  · rw [if_neg e] at h; cases h
theorem okT.snoc {T : Txt} {c : Cl} (h : okT T) (hl : T.length ≠ 20) (hc : okCl c) (hs : 12 ≤ cTy c → cTy c ≤ 15 → ∀ d, d ∈ T → cTy d ≠ cTy c) : okT (T ++ [c]) := by
  obtain ⟨h1, h2, h3⟩ := h
  have get : ∀ (i : Nat) (d : Cl), (T ++ [c])[i]? = some d → (i < T.length ∧ T[i]? = some d) ∨ (i = T.length ∧ d = c) := fun i d hd => by
    by_cases z : i < T.length
    · rw [List.getElem?_append_left z] at hd; exact Or.inl ⟨z, hd⟩
    · rw [List.getElem?_append_right (by omega)] at hd
      by_cases y : i = T.length
      · rw [y, Nat.sub_self] at hd
        cases hd
        exact Or.inr ⟨y, rfl⟩
      · rw [List.getElem?_eq_none (by simp; omega)] at hd; cases hd
  refine ⟨by rw [List.length_append]; simp only [List.length_singleton]; omega, fun i d hd => ?_, fun i j d e hd he hde z1 z2 => ?_⟩
  · rcases get i d hd with ⟨-, z⟩ | ⟨-, rfl⟩
    · exact h2 i d z
    · exact hc
  · rcases get i d hd with ⟨y1, y2⟩ | ⟨y1, y2⟩ <;> rcases get j e he with ⟨x1, x2⟩ | ⟨x1, x2⟩
    · exact h3 i j d e y2 x2 hde z1 z2
    · subst x2
      exact absurd hde (hs (by omega) (by omega) d (List.mem_of_getElem? y2))
    · subst y2
      exact absurd hde.symm (hs z1 z2 e (List.mem_of_getElem? x2))
    · omega
end PTEXT2
