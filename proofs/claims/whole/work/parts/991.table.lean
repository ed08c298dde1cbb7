/-! ===== states and their numbers: a table with open addressing ===== -/
theorem pigeon : ∀ (n N : Nat) (f : Nat → Nat), (∀ i, i < N → f i < n) → (∀ i j, i < N → j < N → f i = f j → i = j) → N ≤ n
  | 0, N, f, h1, _ => by
    rcases Nat.eq_zero_or_pos N with e | e
    · omega
    · exact absurd (h1 0 e) (by omega)
  | n + 1, N, f, h1, h2 => by
    by_cases hx : ∃ i, i < N ∧ f i = n
    · obtain ⟨i, hi, e⟩ := hx
      -- take i away: swap it with the last one
      have key := pigeon n (N - 1) (fun j => if j = i then f (N - 1) else f j) (fun j hj => by
        by_cases q : j = i
        · subst q
          rw [if_pos rfl]
          have a := h1 (N - 1) (by omega)
          have b : f (N - 1) ≠ n := fun z => by have := h2 (N - 1) j (by omega) (by omega) (by rw [z, e]); omega
          omega
        · rw [if_neg q]
          have a := h1 j (by omega)
          have b : f j ≠ n := fun z => q (h2 j i (by omega) hi (by rw [z, e]))
          omega) (fun j k hj hk hjk => by
        by_cases q : j = i
        · by_cases r : k = i
          · omega
          · rw [if_pos q, if_neg r] at hjk
            have := h2 (N - 1) k (by omega) (by omega) hjk
            omega
        · by_cases r : k = i
          · rw [if_neg q, if_pos r] at hjk
            have := h2 j (N - 1) (by omega) (by omega) hjk
            omega
          · rw [if_neg q, if_neg r] at hjk
            exact h2 j k (by omega) (by omega) hjk)
      omega
    · have := pigeon n N f (fun i hi => by
        have a := h1 i hi
        have b : f i ≠ n := fun z => hx ⟨i, hi, z⟩
        omega) h2
      omega
/-- positions are equal when their numbers are -/
theorem okN.ext {w h : Nat} {π π' : Pos} (ok : okN w h π) (ok' : okN w h π') (h1 : btN π = btN π') (h2 : enc 2 π.2.1 8 = enc 2 π'.2.1 8) : π = π' := by
  obtain ⟨e1, e2⟩ := btN_inj ok.1 ok'.1 h1
  have e3 : π.2.1 = π'.2.1 := by
    funext m
    by_cases hm : m < 8
    · exact enc_inj (by decide) ok.1.h2 ok'.1.h2 h2 m hm
    · rw [ok.2.2 m (by omega), ok'.2.2 m (by omega)]
  exact Prod.ext e1 (Prod.ext e3 e2)
/-- a table of size N: t tells of each slot 0 or a number above 0; h the first slot of a number -/
def Tab (N : Nat) (t : Nat → Nat) (n : Nat) (hs : Nat → Nat) : Prop := (∀ a, a < N → t a ≤ n) ∧ (∀ a b, a < N → b < N → t a = t b → t a ≠ 0 → a = b) ∧ ∀ i, i < n → ∃ d, d < N ∧ t ((hs i + d) % N) = i + 1 ∧ ∀ j, j < d → t ((hs i + j) % N) ≠ 0
theorem Tab.free {N n : Nat} {t hs : Nat → Nat} (hN : n < N) (ht : Tab N t n hs) (h0 : Nat) : ∃ d, d < N ∧ t ((h0 + d) % N) = 0 := by
  apply Classical.byContradiction
  intro hno
  have hocc : ∀ d, d < N → t ((h0 + d) % N) ≠ 0 := fun d hd e => hno ⟨d, hd, e⟩
  have := pigeon n N (fun d => t ((h0 + d) % N) - 1) (fun d hd => by
    have a := ht.1 _ (Nat.mod_lt (h0 + d) (show 0 < N by omega))
    have b := hocc d hd
    show t ((h0 + d) % N) - 1 < n
    omega) (fun d e hd he hde => by
    have a := hocc d hd
    have b := hocc e he
    have hde : t ((h0 + d) % N) - 1 = t ((h0 + e) % N) - 1 := hde
    have c := ht.2.1 _ _ (Nat.mod_lt (h0 + d) (by omega)) (Nat.mod_lt (h0 + e) (by omega)) (by omega) a
    have h1 : (h0 + d) % N = (h0 % N + d) % N := (Nat.mod_add_mod h0 N d).symm
    have h2 : (h0 + e) % N = (h0 % N + e) % N := (Nat.mod_add_mod h0 N e).symm
    rw [h1, h2] at c
    have h3 := Nat.mod_lt h0 (show 0 < N by omega)
    have k : ∀ x, x < N → (h0 % N + x) % N = if h0 % N + x < N then h0 % N + x else h0 % N + x - N := by
      intro x hx
      by_cases q : h0 % N + x < N
      · rw [if_pos q, Nat.mod_eq_of_lt q]
      · rw [if_neg q, Nat.mod_eq_sub_mod (by omega), Nat.mod_eq_of_lt (by omega)]
    rw [k d hd, k e he] at c
    by_cases q1 : h0 % N + d < N
    · by_cases q2 : h0 % N + e < N
      · rw [if_pos q1, if_pos q2] at c; omega
      · rw [if_pos q1, if_neg q2] at c; omega
    · by_cases q2 : h0 % N + e < N
      · rw [if_neg q1, if_pos q2] at c; omega
      · rw [if_neg q1, if_neg q2] at c; omega)
  omega
/-- a new number is put into a free slot at the end of its own way -/
theorem Tab.add {N n d : Nat} {t hs : Nat → Nat} (ht : Tab N t n hs) (hd : d < N) (h0 : t ((hs n + d) % N) = 0) (hp : ∀ j, j < d → t ((hs n + j) % N) ≠ 0) : Tab N (up1 t ((hs n + d) % N) (n + 1)) (n + 1) hs := by
  have keep : ∀ b, t b ≠ 0 → up1 t ((hs n + d) % N) (n + 1) b = t b := fun b hb => up1_n (fun e => hb (by rw [e]; exact h0))
  refine ⟨fun a ha => ?_, fun a b ha hb hab hz => ?_, fun i hi => ?_⟩
  · by_cases e : a = (hs n + d) % N
    · subst e; rw [up1_s]; omega
    · rw [up1_n e]; have := ht.1 a ha; omega
  · by_cases e : a = (hs n + d) % N
    · by_cases e' : b = (hs n + d) % N
      · rw [e, e']
      · rw [e, up1_s, up1_n e'] at hab
        have := ht.1 b hb
        omega
    · by_cases e' : b = (hs n + d) % N
      · rw [e', up1_s, up1_n e] at hab
        have := ht.1 a ha
        omega
      · rw [up1_n e, up1_n e'] at hab
        rw [up1_n e] at hz
        exact ht.2.1 a b ha hb hab hz
  · by_cases e : i = n
    · subst e
      exact ⟨d, hd, up1_s, fun j hj => by rw [keep _ (hp j hj)]; exact hp j hj⟩
    · obtain ⟨d', h1, h2, h3⟩ := ht.2.2 i (by omega)
      refine ⟨d', h1, by rw [keep _ (by rw [h2]; omega)]; exact h2, fun j hj => by rw [keep _ (h3 j hj)]; exact h3 j hj⟩
/-- what a search finds: at a free slot the thing isn't there -/
theorem Tab.none {N n d i : Nat} {t hs : Nat → Nat} {h0 : Nat} (ht : Tab N t n hs) (hf : t ((h0 + d) % N) = 0) (hp : ∀ j, j < d → t ((h0 + j) % N) ≠ 0 ∧ t ((h0 + j) % N) ≠ i + 1) (hi : i < n) (he : hs i = h0) : False := by
  obtain ⟨d', h1, h2, h3⟩ := ht.2.2 i hi
  rw [he] at h2 h3
  rcases Nat.lt_or_ge d' d with q | q
  · exact (hp d' q).2 h2
  · rcases Nat.eq_or_lt_of_le q with q | q
    · rw [q, h2] at hf; omega
    · exact h3 d q hf
