/-! ===== a ply by ways: what it is, and in the class ===== -/
def upG (f : Nat → Int) (b : Option Nat) (m : Nat) : Option Nat := match b with
  | none => some m
  | some b => if f b < f m then some m else some b
theorem grt_u {f : Nat → Int} {p : Nat → Bool} {m : Nat} {l : List Nat} {b : Option Nat} : grt f p (m :: l) b = grt f p l (if p m = true then upG f b m else b) := by cases b <;> rfl
theorem upG_mem {f : Nat → Int} {b : Option Nat} {m r : Nat} (h : upG f b m = some r) : r = m ∨ b = some r := by
  unfold upG at h
  cases b with
  | none => cases h; exact Or.inl rfl
  | some b =>
    dsimp only at h
    split at h
    · cases h; exact Or.inl rfl
    · cases h; exact Or.inr rfl
theorem upG_some {f : Nat → Int} {b : Option Nat} {m : Nat} : ∃ r, upG f b m = some r := by
  unfold upG
  cases b with
  | none => exact ⟨_, rfl⟩
  | some b =>
    dsimp only
    split
    · exact ⟨_, rfl⟩
    · exact ⟨_, rfl⟩
theorem grt_mem {f : Nat → Int} {p : Nat → Bool} : ∀ (l : List Nat) (b : Option Nat) (r : Nat), grt f p l b = some r → b = some r ∨ (r ∈ l ∧ p r = true)
  | [], b, r, e => Or.inl e
  | m :: l, b, r, e => by
    rw [grt_u] at e
    rcases grt_mem l _ r e with h | h
    · by_cases hp : p m = true
      · rw [if_pos hp] at h
        rcases upG_mem h with rfl | h
        · exact Or.inr ⟨List.mem_cons_self, hp⟩
        · exact Or.inl h
      · rw [if_neg hp] at h; exact Or.inl h
    · exact Or.inr ⟨List.mem_cons_of_mem _ h.1, h.2⟩
theorem grt_some {f : Nat → Int} {p : Nat → Bool} : ∀ (l : List Nat) (b : Option Nat), ((∃ m, m ∈ l ∧ p m = true) ∨ ∃ r, b = some r) → ∃ r, grt f p l b = some r
  | [], b, h => by
    rcases h with ⟨m, h, -⟩ | h
    · cases h
    · exact h
  | m :: l, b, h => by
    rw [grt_u]
    apply grt_some l
    by_cases hp : p m = true
    · rw [if_pos hp]; exact Or.inr upG_some
    · rw [if_neg hp]
      rcases h with ⟨k, h1, h2⟩ | h
      · rcases List.mem_cons.mp h1 with rfl | h1
        · exact absurd h2 hp
        · exact Or.inl ⟨k, h1, h2⟩
      · exact Or.inr h
theorem grt_filter {f : Nat → Int} {p t : Nat → Bool} : ∀ (l : List Nat) (b : Option Nat), grt f p (l.filter t) b = grt f (fun m => t m && p m) l b
  | [], _ => rfl
  | m :: l, b => by
    cases ht : t m with
    | false =>
      rw [List.filter_cons_of_neg (by simp [ht]), grt_u, if_neg (by simp [ht])]
      exact grt_filter l b
    | true =>
      rw [List.filter_cons_of_pos ht, grt_u, grt_u, grt_filter l]
      simp [ht]
theorem grt_congr {f g : Nat → Int} {p r : Nat → Bool} : ∀ (l : List Nat) (b : Option Nat), (∀ m, m ∈ l → p m = r m) → (∀ m, m ∈ l → p m = true → f m = g m) → (∀ q, b = some q → f q = g q) → grt f p l b = grt g r l b
  | [], _, _, _, _ => rfl
  | m :: l, b, h1, h2, h3 => by
    rw [grt_u, grt_u, ← h1 m List.mem_cons_self]
    have hu : p m = true → upG f b m = upG g b m := by
      intro hp
      cases b with
      | none => rfl
      | some q =>
        unfold upG
        dsimp only
        rw [h3 q rfl, h2 m List.mem_cons_self hp]
    by_cases hp : p m = true
    · rw [if_pos hp, if_pos hp, ← hu hp]
      refine grt_congr l _ (fun k hk => h1 k (List.mem_cons_of_mem _ hk)) (fun k hk => h2 k (List.mem_cons_of_mem _ hk)) (fun q e => ?_)
      rcases upG_mem e with rfl | e
      · exact h2 _ List.mem_cons_self hp
      · exact h3 q e
    · rw [if_neg hp, if_neg hp]
      exact grt_congr l b (fun k hk => h1 k (List.mem_cons_of_mem _ hk)) (fun k hk => h2 k (List.mem_cons_of_mem _ hk)) h3
theorem upQ_mem {a : Option (Nat × Int)} {q : Nat} {v : Int} {b : Nat × Int} (h : upQ a q v = some b) : b = (q, v) ∨ a = some b := by
  unfold upQ at h
  cases a with
  | none => cases h; exact Or.inl rfl
  | some a =>
    dsimp only at h
    split at h
    · cases h; exact Or.inl rfl
    · cases h; exact Or.inr rfl
theorem upQ_some {a : Option (Nat × Int)} {q : Nat} {v : Int} : ∃ b, upQ a q v = some b := by
  unfold upQ
  cases a with
  | none => exact ⟨_, rfl⟩
  | some a =>
    dsimp only
    split
    · exact ⟨_, rfl⟩
    · exact ⟨_, rfl⟩
theorem bstQ_mem {p : Nat → Bool} {f : Nat → Int} : ∀ (l : List Nat) (a : Option (Nat × Int)) (b : Nat × Int), bstQ p f l a = some b → a = some b ∨ (b.1 ∈ l ∧ p b.1 = true ∧ b.2 = f b.1)
  | [], a, b, e => Or.inl e
  | q :: l, a, b, e => by
    rw [bstQ_c] at e
    rcases bstQ_mem l _ b e with h | h
    · by_cases hp : p q = true
      · rw [if_pos hp] at h
        rcases upQ_mem h with rfl | h
        · exact Or.inr ⟨List.mem_cons_self, hp, rfl⟩
        · exact Or.inl h
      · rw [if_neg hp] at h; exact Or.inl h
    · exact Or.inr ⟨List.mem_cons_of_mem _ h.1, h.2⟩
theorem bstQ_some {p : Nat → Bool} {f : Nat → Int} : ∀ (l : List Nat) (a : Option (Nat × Int)), ((∃ m, m ∈ l ∧ p m = true) ∨ ∃ r, a = some r) → ∃ r, bstQ p f l a = some r
  | [], b, h => by
    rcases h with ⟨m, h, -⟩ | h
    · cases h
    · exact h
  | m :: l, b, h => by
    rw [bstQ_c]
    apply bstQ_some l
    by_cases hp : p m = true
    · rw [if_pos hp]; exact Or.inr upQ_some
    · rw [if_neg hp]
      rcases h with ⟨k, h1, h2⟩ | h
      · rcases List.mem_cons.mp h1 with rfl | h1
        · exact absurd h2 hp
        · exact Or.inl ⟨k, h1, h2⟩
      · exact Or.inr h
theorem bstQ_filter {p t : Nat → Bool} {f : Nat → Int} : ∀ (l : List Nat) (a : Option (Nat × Int)), bstQ p f (l.filter t) a = bstQ (fun m => t m && p m) f l a
  | [], _ => rfl
  | m :: l, b => by
    cases ht : t m with
    | false =>
      rw [List.filter_cons_of_neg (by simp [ht]), bstQ_c, if_neg (by simp [ht])]
      exact bstQ_filter l b
    | true =>
      rw [List.filter_cons_of_pos ht, bstQ_c, bstQ_c, bstQ_filter l]
      simp [ht]
theorem bstQ_congr {p : Nat → Bool} {f g : Nat → Int} : ∀ (l : List Nat) (a : Option (Nat × Int)), (∀ m, m ∈ l → p m = true → f m = g m) → bstQ p f l a = bstQ p g l a
  | [], _, _ => rfl
  | m :: l, a, h => by
    rw [bstQ_c, bstQ_c]
    by_cases hp : p m = true
    · rw [if_pos hp, if_pos hp, h m List.mem_cons_self hp]
      exact bstQ_congr l _ (fun k hk => h k (List.mem_cons_of_mem _ hk))
    · rw [if_neg hp, if_neg hp]
      exact bstQ_congr l _ (fun k hk => h k (List.mem_cons_of_mem _ hk))
theorem any3 : ∀ n, n < 256 → 3 ≤ popC (fun m => n.testBit m) 8 → (TQ.any (inq (fun m => n.testBit m))) = true := by decide +kernel
theorem some3 {χ : Chi} (h : ¬ popC χ 8 < 3) : ∃ q, q ∈ TQ ∧ inq χ q = true := by
  have e : ∀ m, m < 8 → (bS χ 8).testBit m = χ m := fun m hm => by rw [bS_bit]; simp [hm]
  have h1 := any3 _ (bS_lt χ 8) (by rw [popC_ext 8 e]; omega)
  obtain ⟨q, hq, h2⟩ := List.any_eq_true.mp h1
  refine ⟨q, hq, ?_⟩
  obtain ⟨h3, h4⟩ := TQ_tri q hq
  obtain ⟨h5, h6, h7⟩ := tri_lt h4 h3
  unfold inq at h2 ⊢
  rw [← e (qx q) (by omega), ← e (qy q) (by omega), ← e (qz q) h7]
  exact h2
def wayQ (w h : Nat) (T W : Txt) (π : Pos) : Nat := ((bstQ (inq (alwS w h T W π)) (f3 (wgX w h T W π 13)) TQ none).map (fun b => b.1)).getD 0
def wayN (w h : Nat) (T V : Txt) (π : Pos) (q : Nat) : Nat := (grt (wgX w h T V π 14) (tch q) mem3 none).getD 0
def wayD (w h : Nat) (T W : Txt) (π : Pos) (q n : Nat) : Nat := (grt (wgX w h T W π 15) (fun m => tch q m && !(m == n)) mem3 none).getD 0
theorem alw_abl {w h : Nat} {T W : Txt} {π : Pos} {m : Nat} (hm : alwS w h T W π m = true) : ablS w h T π m = true := by
  unfold alwS at hm
  split at hm
  · exact hm
  · unfold lefS at hm
    simp only [Bool.and_eq_true] at hm
    exact hm.1
theorem alw_3 {w h : Nat} {T W : Txt} {π : Pos} (ho : ¬ popC (ablS w h T π) 8 < 3) : ¬ popC (alwS w h T W π) 8 < 3 := by
  unfold alwS
  split
  · exact ho
  · assumption
theorem wayQ_ok {w h : Nat} {T W : Txt} {π : Pos} (ho : ¬ popC (ablS w h T π) 8 < 3) : ∃ v, bstQ (inq (alwS w h T W π)) (f3 (wgX w h T W π 13)) TQ none = some (wayQ w h T W π, v) ∧ wayQ w h T W π ∈ TQ ∧ inq (alwS w h T W π) (wayQ w h T W π) = true := by
  obtain ⟨q, h1, h2⟩ := some3 (alw_3 (W := W) ho)
  obtain ⟨b, hb⟩ := bstQ_some (f := f3 (wgX w h T W π 13)) TQ none (Or.inl ⟨q, h1, h2⟩)
  have e : wayQ w h T W π = b.1 := by unfold wayQ; rw [hb]; rfl
  rcases bstQ_mem _ _ _ hb with h3 | h3
  · cases h3
  · exact ⟨b.2, by rw [hb, e], by rw [e]; exact h3.1, by rw [e]; exact h3.2.1⟩
theorem inq_at {χ : Chi} {q m : Nat} (h : inq χ q = true) (hm : tch q m = true) : χ m = true := by
  unfold inq at h
  unfold tch at hm
  simp only [Bool.and_eq_true] at h
  simp only [Bool.or_eq_true, beq_iff_eq] at hm
  rcases hm with (rfl | rfl) | rfl
  · exact h.1.1
  · exact h.1.2
  · exact h.2
theorem tch_lt {q m : Nat} (hq : q ∈ TQ) (hm : tch q m = true) : m < 8 := by
  obtain ⟨h3, h4⟩ := TQ_tri q hq
  obtain ⟨h5, h6, h7⟩ := tri_lt h4 h3
  unfold tch at hm
  simp only [Bool.or_eq_true, beq_iff_eq] at hm
  omega
theorem wayN_ok {w h q : Nat} {T V : Txt} {π : Pos} (hq : q ∈ TQ) : grt (wgX w h T V π 14) (tch q) mem3 none = some (wayN w h T V π q) ∧ tch q (wayN w h T V π q) = true := by
  obtain ⟨h3, h4⟩ := TQ_tri q hq
  obtain ⟨h5, h6, h7⟩ := tri_lt h4 h3
  obtain ⟨r, hr⟩ := grt_some (f := wgX w h T V π 14) (p := tch q) mem3 none (Or.inl ⟨qx q, by unfold mem3; rw [List.mem_range'_1]; omega, by simp [tch]⟩)
  have e : wayN w h T V π q = r := by unfold wayN; rw [hr]; rfl
  rcases grt_mem _ _ _ hr with h8 | h8
  · cases h8
  · rw [e]; exact ⟨hr, h8.2⟩
theorem wayD_ok {w h q n : Nat} {T W : Txt} {π : Pos} (hq : q ∈ TQ) : grt (wgX w h T W π 15) (fun m => tch q m && !(m == n)) mem3 none = some (wayD w h T W π q n) ∧ tch q (wayD w h T W π q n) = true ∧ wayD w h T W π q n ≠ n := by
  obtain ⟨h3, h4⟩ := TQ_tri q hq
  obtain ⟨h5, h6, h7⟩ := tri_lt h4 h3
  obtain ⟨r, hr⟩ := grt_some (f := wgX w h T W π 15) (p := fun m => tch q m && !(m == n)) mem3 none (Or.inl (by
    by_cases e : qx q = n
    · exact ⟨qy q, by unfold mem3; rw [List.mem_range'_1]; omega, by simp [tch]; omega⟩
    · exact ⟨qx q, by unfold mem3; rw [List.mem_range'_1]; omega, by simp [tch, e]⟩))
  have e : wayD w h T W π q n = r := by unfold wayD; rw [hr]; rfl
  rcases grt_mem _ _ _ hr with h8 | h8
  · cases h8
  · rw [e]
    refine ⟨hr, ?_, ?_⟩
    · have := h8.2; simp only [Bool.and_eq_true] at this; exact this.1
    · have := h8.2; simp only [Bool.and_eq_true, Bool.not_eq_true', beq_eq_false_iff_ne] at this; exact this.2
/-- a ply by ways: the no and what is done -/
def wPN (w h : Nat) (T W V : Txt) (π : Pos) : Nat := wayN w h T V π (wayQ w h T W π)
def wPD (w h : Nat) (T W V : Txt) (π : Pos) : Nat := wayD w h T W π (wayQ w h T W π) (wPN w h T W V π)
theorem wP_ok {w h : Nat} {T W V : Txt} {π : Pos} (ho : ¬ popC (ablS w h T π) 8 < 3) : wPN w h T W V π < 8 ∧ wPD w h T W V π < 8 ∧ wPN w h T W V π ≠ wPD w h T W V π ∧ ablS w h T π (wPD w h T W V π) = true := by
  obtain ⟨v, h1, h2, h3⟩ := wayQ_ok (W := W) ho
  have h4 := (wayN_ok (w := w) (h := h) (T := T) (V := V) (π := π) h2).2
  obtain ⟨-, h5, h6⟩ := wayD_ok (w := w) (h := h) (T := T) (W := W) (π := π) (n := wPN w h T W V π) h2
  exact ⟨tch_lt h2 h4, tch_lt h2 h5, Ne.symm h6, alw_abl (inq_at h3 h5)⟩
section WAYS3
variable {w h L nt : Nat} {τ : Nat → Txt} {π : Pos}
abbrev wyA : List Nat := [201, 202, 210]
abbrev wyF : List (Nat × Nat) := [(209, 0), (209, 1)]
theorem x_decide {M : Mem} {x y z : Option Nat} {a : Nat} (hb : Bs w h L nt τ M) (ok : okP π) (ha : isPA a) (hP : PosAt a π M) (hN : NmAt π M) (hx : okX nt x) (hL : LookAt (lkB w h (tT τ x) π) M) (hy : okX nt y) (hz : okX nt z) (ho : ¬ popC (ablS w h (tT τ x) π) 8 < 3) : ∃ M', f_X3_decide (some 209) (some a) (some (rT y)) (some (rT z)) M = some ((), M') ∧ Fx wyA wyF M M' ∧ mI M' 209 0 = nI (wPN w h (tT τ x) (tT τ y) (tT τ z) π) ∧ mI M' 209 1 = nI (wPD w h (tT τ x) (tT τ y) (tT τ z) π) := by
  have hl := hb.lay
  have pa' : ∀ {A : List Nat}, A = [201, 202] ∨ A = [201, 202, 210] → a ∉ A ∧ ∀ q ∈ ([] : List (Nat × Nat)), q.1 ≠ a := by
    rintro A (rfl | rfl) <;> (rcases ha with rfl | rfl | rfl | rfl | rfl | rfl <;> decide)
  obtain ⟨v, q1, q2, q3⟩ := wayQ_ok (W := tT τ y) ho
  obtain ⟨n1, n2⟩ := wayN_ok (w := w) (h := h) (T := tT τ x) (V := tT τ z) (π := π) q2
  -- the offer
  obtain ⟨M1, a1, a2, a3⟩ := x_allowed hb ok ha hP hN hx hL hy
  have hb1 := hb.fx a2 (by decide) (by decide)
  have hP1 := hP.fx a2 (pa' (Or.inl rfl))
  have hL1 := hL.fx a2 (by decide) (by decide)
  obtain ⟨M2, b1, b2, b3, b4⟩ := x_weigh hb1 ok ha hP1 a3 hx hL1 hy (k := 13) (by decide)
  have hb2 := hb1.fx b2 (by decide) (by decide)
  have hP2 := hP1.fx b2 (pa' (Or.inr rfl))
  have hL2 := hL1.fx b2 (by decide) (by decide)
  have c1 := x_off24 (χ := alwS w h (tT τ x) (tT τ y) π) hb2 b4 (fun i hi => wgX_vl hb.1 (hb.okT hx) (hb.okT hy) ok hi (by decide)) 56 FU 0 none 0 0 (by omega) (by decide) rfl
  rw [List.drop_zero, q1] at c1
  have hoff : f_X3_offered (some 209) (some a) (some (rT y)) M = some (nI (bS (tch (wayQ w h (tT τ x) (tT τ y) π)) 8), M2) := by
    unfold f_X3_offered
    rw [cR_t (ly_t209 hl), a1, cA_s, cR_t (ly_t209 hb1.lay), show (13 : Int32) = nI 13 from rfl, b1, cA_s]
    exact c1
  -- the no
  obtain ⟨M3, d1, d2, d3⟩ := x_great (ψ := tch (wayQ w h (tT τ x) (tT τ y) π)) hb2 ok ha hP2 b3 hx hL2 hz (k := 14) (by decide)
  have hb3 := hb2.fx d2 (by decide) (by decide)
  rw [n1, Option.getD_some] at d1
  have d1 : f_X3_greatest (some 209) (some a) (some (rT z)) (nI 14) (nI (bS (tch (wayQ w h (tT τ x) (tT τ y) π)) 8)) M2 = some (nI (wPN w h (tT τ x) (tT τ y) (tT τ z) π), M3) := d1
  have hn8 := tch_lt q2 n2
  -- what is done
  have fr4 : Fx [] [(209, 0)] M3 (sI M3 209 0 (nI (wPN w h (tT τ x) (tT τ y) (tT τ z) π))) := Fx.wI (Or.inr (by decide))
  have hb4 := hb3.fx fr4 (by decide) (by decide)
  have hP4 := (hP2.fx d2 (pa' (Or.inr rfl))).fx fr4 (by rcases ha with rfl | rfl | rfl | rfl | rfl | rfl <;> decide)
  have hL4 := (hL2.fx d2 (by decide) (by decide)).fx fr4 (by decide) (by decide)
  obtain ⟨M5, e1, e2, e3⟩ := x_great (ψ := fun m => tch (wayQ w h (tT τ x) (tT τ y) π) m && !(m == wPN w h (tT τ x) (tT τ y) (tT τ z) π)) hb4 ok ha hP4 (d3.fx fr4 (by decide)) hx hL4 hy (k := 15) (by decide)
  rw [(wayD_ok (w := w) (h := h) (T := tT τ x) (W := tT τ y) (π := π) (n := wPN w h (tT τ x) (tT τ y) (tT τ z) π) q2).1, Option.getD_some] at e1
  have hb5 := hb4.fx e2 (by decide) (by decide)
  refine ⟨sI M5 209 1 (nI (wPD w h (tT τ x) (tT τ y) (tT τ z) π)), ?_, ?_, ?_, mI_e⟩
  · unfold f_X3_decide
    rw [cR_t (ly_t209 hl), hoff, cA_s, cR_t (ly_t209 hb2.lay), show (14 : Int32) = nI 14 from rfl, d1, cA_s, pI_t (ly_t209 hb3.lay)]
    rw [gI_t (ly_t209 hb4.lay), mI_e, cR_t (ly_t209 hb4.lay), bS_delI (by decide) (show wPN w h (tT τ x) (tT τ y) (tT τ z) π < 8 from hn8), show (15 : Int32) = nI 15 from rfl, e1, cA_s, pI_t (ly_t209 hb5.lay)]
    rfl
  · exact ((((a2.mono (by decide) (by decide)).tr (b2.mono (by decide) (by decide))).tr ((d2.mono (by decide) (by decide)).tr (fr4.mono (by decide) (by decide)))).tr (e2.mono (by decide) (by decide))).I (Or.inr (by decide))
  · rw [mI_nk (by decide), e2.i (by decide) (by decide), mI_e]
end WAYS3
