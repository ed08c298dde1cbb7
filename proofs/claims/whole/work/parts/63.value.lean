/-! ===== the class works a sum out ===== -/
def evS1 (nm : Nat → Int) (v : Nat) (s : (Nat → Int) × Nat) : (Nat → Int) × Nat :=
  if v < 10000 then (up1 s.1 s.2 v, s.2 + 1) else if v ≤ 10006 then (up1 s.1 s.2 (nm (v - 10000)), s.2 + 1)
  else if v = 10019 then (up1 s.1 (s.2 - 1) (1 - s.1 (s.2 - 1)), s.2) else if v = 10037 then (up1 s.1 (s.2 - 1) (-(s.1 (s.2 - 1))), s.2)
  else (up1 s.1 (s.2 - 2) (jnZ (v - 10000) (s.1 (s.2 - 2)) (s.1 (s.2 - 1))), s.2 - 1)
def evF (nm : Nat → Int) : List Nat → (Nat → Int) × Nat → (Nat → Int) × Nat
  | [], s => s
  | v :: r, s => evF nm r (evS1 nm v s)
def tyS1 (v : Nat) (s : (Nat → Bool) × Nat) : Option ((Nat → Bool) × Nat) :=
  if v ≤ 10006 then (if s.2 < 40 then some (up1 s.1 s.2 false, s.2 + 1) else none)
  else if v = 10019 then (if 1 ≤ s.2 ∧ s.1 (s.2 - 1) = true then some s else none)
  else if v = 10037 then (if 1 ≤ s.2 ∧ s.1 (s.2 - 1) = false then some s else none)
  else if 2 ≤ s.2 ∧ isBn (v - 10000) = true ∧ s.1 (s.2 - 2) = true ∧ s.1 (s.2 - 1) = true then some (up1 s.1 (s.2 - 2) true, s.2 - 1)
  else if 2 ≤ s.2 ∧ isCmp (v - 10000) = true ∧ s.1 (s.2 - 2) = false ∧ s.1 (s.2 - 1) = false then some (up1 s.1 (s.2 - 2) true, s.2 - 1)
  else if 2 ≤ s.2 ∧ isAr (v - 10000) = true ∧ s.1 (s.2 - 2) = false ∧ s.1 (s.2 - 1) = false then some (up1 s.1 (s.2 - 2) false, s.2 - 1)
  else none
def tyF : List Nat → (Nat → Bool) × Nat → Option ((Nat → Bool) × Nat)
  | [], s => some s
  | v :: r, s => (tyS1 v s).bind (tyF r)
def okS (g : Nat → Bool) (f : Nat → Int) (t : Nat) : Prop := ∀ j, j < t → vl (f j) ∧ (g j = true → b01 (f j))
def nmOk (nm : Nat → Int) : Prop := ∀ k, k ≤ 6 → vl (nm k)
/-- which two values a sign may join -/
theorem ty_bin {v : Nat} {g g' : Nat → Bool} {t t' : Nat} {f : Nat → Int} (h : tyS1 v (g, t) = some (g', t')) (ok : okS g f t) (h1 : 10006 < v) (h2 : v ≠ 10019) (h3 : v ≠ 10037) : 2 ≤ t ∧ t' = t - 1 ∧ ((isBn (v - 10000) = true ∧ b01 (f (t - 2)) ∧ b01 (f (t - 1))) ∨ isCmp (v - 10000) = true ∨ isAr (v - 10000) = true) ∧ g' = up1 g (t - 2) (isBn (v - 10000) || isCmp (v - 10000)) := by
  unfold tyS1 at h
  rw [if_neg (by omega), if_neg h2, if_neg h3] at h
  dsimp only at h
  by_cases c1 : 2 ≤ t ∧ isBn (v - 10000) = true ∧ g (t - 2) = true ∧ g (t - 1) = true
  · rw [if_pos c1] at h
    cases h
    exact ⟨c1.1, rfl, Or.inl ⟨c1.2.1, (ok _ (by omega)).2 c1.2.2.1, (ok _ (by omega)).2 c1.2.2.2⟩, by rw [c1.2.1]; rfl⟩
  · rw [if_neg c1] at h
    by_cases c2 : 2 ≤ t ∧ isCmp (v - 10000) = true ∧ g (t - 2) = false ∧ g (t - 1) = false
    · rw [if_pos c2] at h
      cases h
      exact ⟨c2.1, rfl, Or.inr (Or.inl c2.2.1), by rw [c2.2.1, Bool.or_true]⟩
    · rw [if_neg c2] at h
      by_cases c3 : 2 ≤ t ∧ isAr (v - 10000) = true ∧ g (t - 2) = false ∧ g (t - 1) = false
      · rw [if_pos c3] at h
        cases h
        have hn : isBn (v - 10000) = false ∧ isCmp (v - 10000) = false := by
          have := c3.2.1
          unfold isAr at this
          unfold isBn isCmp
          simp only [Bool.and_eq_true, decide_eq_true_eq] at this
          constructor
          · simp; omega
          · simp; omega
        exact ⟨c3.1, rfl, Or.inr (Or.inr c3.2.1), by rw [hn.1, hn.2]; rfl⟩
      · rw [if_neg c3] at h; cases h
theorem ev_step {nm : Nat → Int} {v : Nat} {g g' : Nat → Bool} {t t' : Nat} {f : Nat → Int} (hn : nmOk nm) (h : tyS1 v (g, t) = some (g', t')) (ok : okS g f t) : (evS1 nm v (f, t)).2 = t' ∧ okS g' (evS1 nm v (f, t)).1 t' := by
  by_cases h1 : v ≤ 10006
  · unfold tyS1 at h
    rw [if_pos h1] at h
    dsimp only at h
    by_cases ht : t < 40
    · rw [if_pos ht] at h
      cases h
      have push : ∀ x : Int, vl x → okS (up1 g t false) (up1 f t x) (t + 1) := by
        intro x hx j hj
        by_cases e : j = t
        · subst e; rw [up1_s, up1_s]; exact ⟨hx, fun q => by cases q⟩
        · rw [up1_n e, up1_n e]; exact ok j (by omega)
      unfold evS1
      by_cases h2 : v < 10000
      · rw [if_pos h2]; exact ⟨rfl, push _ ⟨by omega, by omega⟩⟩
      · rw [if_neg h2, if_pos h1]; exact ⟨rfl, push _ (hn _ (by omega))⟩
    · rw [if_neg ht] at h; cases h
  · by_cases h2 : v = 10019
    · subst h2
      unfold tyS1 at h
      rw [if_neg h1, if_pos rfl] at h
      dsimp only at h
      by_cases c : 1 ≤ t ∧ g (t - 1) = true
      · rw [if_pos c] at h
        cases h
        refine ⟨rfl, fun j hj => ?_⟩
        show vl (up1 f (t - 1) (1 - f (t - 1)) j) ∧ _
        by_cases e : j = t - 1
        · subst e
          have hb := (ok (t - 1) (by omega)).2 c.2
          have : b01 (1 - f (t - 1)) := by rcases hb with q | q <;> rw [q]; exact Or.inr rfl; exact Or.inl rfl
          show vl (up1 f (t - 1) (1 - f (t - 1)) (t - 1)) ∧ (_ → b01 (up1 f (t - 1) (1 - f (t - 1)) (t - 1)))
          rw [up1_s]
          exact ⟨this.vl, fun _ => this⟩
        · show vl (up1 f (t - 1) (1 - f (t - 1)) j) ∧ (_ → b01 (up1 f (t - 1) (1 - f (t - 1)) j))
          rw [up1_n e]; exact ok j hj
      · rw [if_neg c] at h; cases h
    · by_cases h3 : v = 10037
      · subst h3
        unfold tyS1 at h
        rw [if_neg h1, if_neg h2, if_pos rfl] at h
        dsimp only at h
        by_cases c : 1 ≤ t ∧ g (t - 1) = false
        · rw [if_pos c] at h
          cases h
          refine ⟨rfl, fun j hj => ?_⟩
          show vl (up1 f (t - 1) (-f (t - 1)) j) ∧ (_ → b01 (up1 f (t - 1) (-f (t - 1)) j))
          by_cases e : j = t - 1
          · subst e
            have hb := (ok (t - 1) (by omega)).1
            rw [up1_s]
            exact ⟨⟨by have := hb.2; omega, by have := hb.1; omega⟩, fun q => by rw [c.2] at q; cases q⟩
          · rw [up1_n e]; exact ok j hj
        · rw [if_neg c] at h; cases h
      · obtain ⟨b1, b2, b3, b4⟩ := ty_bin h ok (by omega) h2 h3
        subst b4
        unfold evS1
        rw [if_neg (by omega), if_neg h1, if_neg h2, if_neg h3]
        refine ⟨b2.symm, fun j hj => ?_⟩
        dsimp only
        by_cases e : j = t - 2
        · subst e
          rw [up1_s, up1_s]
          have v1 := (ok (t - 2) (by omega)).1
          have v2 := (ok (t - 1) (by omega)).1
          rcases b3 with ⟨q1, q2, q3⟩ | q | q
          · have := jnZ_b q1 q2 q3; exact ⟨this.vl, fun _ => this⟩
          · have := jnZ_01 (x := f (t - 2)) (y := f (t - 1)) q; exact ⟨this.vl, fun _ => this⟩
          · refine ⟨jnZ_vl q v1 v2, fun z => ?_⟩
            exfalso
            unfold isAr at q
            unfold isBn isCmp at z
            simp only [Bool.and_eq_true, decide_eq_true_eq, Bool.or_eq_true, beq_iff_eq] at q z
            omega
        · rw [up1_n e, up1_n e]; exact ok j (by omega)
/-- what a run may have changed -/
def Fr1 (S : Nat → Prop) (M M' : Mem) : Prop := mT M' = mT M ∧ mZ M' = mZ M ∧ mR M' = mR M ∧ ∀ b, ¬ S b → mI M' b = mI M b ∧ mL M' b = mL M b
theorem Fr1.rf {S : Nat → Prop} {M : Mem} : Fr1 S M M := ⟨rfl, rfl, rfl, fun _ _ => ⟨rfl, rfl⟩⟩
theorem Fr1.tr {S : Nat → Prop} {M M' M'' : Mem} (h : Fr1 S M M') (h' : Fr1 S M' M'') : Fr1 S M M'' := ⟨h'.1.trans h.1, h'.2.1.trans h.2.1, h'.2.2.1.trans h.2.2.1, fun b hb => ⟨(h'.2.2.2 b hb).1.trans (h.2.2.2 b hb).1, (h'.2.2.2 b hb).2.trans (h.2.2.2 b hb).2⟩⟩
theorem Fr1.mono {S S' : Nat → Prop} {M M' : Mem} (h : Fr1 S M M') (hs : ∀ b, S b → S' b) : Fr1 S' M M' := ⟨h.1, h.2.1, h.2.2.1, fun b hb => h.2.2.2 b (fun q => hb (hs b q))⟩
theorem Fr1.I {S : Nat → Prop} {M : Mem} {a k : Nat} {v : Int32} (h : S a) : Fr1 S M (sI M a k v) := ⟨rfl, rfl, rfl, fun b hb => ⟨up2_n (fun e => hb (e ▸ h)), rfl⟩⟩
theorem Fr1.L {S : Nat → Prop} {M : Mem} {a k : Nat} {v : Int64} (h : S a) : Fr1 S M (sL M a k v) := ⟨rfl, rfl, rfl, fun b hb => ⟨rfl, up2_n (fun e => hb (e ▸ h))⟩⟩
theorem Fr1.i {S : Nat → Prop} {M M' : Mem} (h : Fr1 S M M') {b : Nat} (hb : ¬ S b) : mI M' b = mI M b := (h.2.2.2 b hb).1
theorem Fr1.l {S : Nat → Prop} {M M' : Mem} (h : Fr1 S M M') {b : Nat} (hb : ¬ S b) : mL M' b = mL M b := (h.2.2.2 b hb).2
theorem Fr1.r {S : Nat → Prop} {M M' : Mem} (h : Fr1 S M M') {b : Nat} (_ : ¬ S b) : mR M' b = mR M b := by rw [h.2.2.1]
def SumsAt (Sa Na Ka : Nat) (M : Mem) : Prop := mT M Sa = (1, 9) ∧ mR M Sa 0 = some Na ∧ mR M Sa 1 = some Ka ∧ mT M Na = (2, 7) ∧ mT M Ka = (2, 64)
def StkAt (Ka : Nat) (f : Nat → Int) (t : Nat) (M : Mem) : Prop := ∀ j, j < t → mI M Ka j = i32 (f j)
theorem StkAt.put {Ka t j : Nat} {f : Nat → Int} {M : Mem} {x : Int} (h : ∀ i, i < t → i ≠ j → mI M Ka i = i32 (f i)) : StkAt Ka (up1 f j x) t (sI M Ka j (i32 x)) := by
  intro i hi
  rw [mI_s]
  by_cases e : i = j
  · subst e; simp [up1_s]
  · rw [up1_n e]; simp [e]; exact h i hi e
theorem x_val_step {Sa Na Ka Ra Da Ca ce i v t t' : Nat} {g g' : Nat → Bool} {f nm : Nat → Int} {M : Mem} {q : Option Nat → Option Nat → Option Nat → Int32 → Int32 → Mem → Option (Int32 × Mem)} (hS : SumsAt Sa Na Ka M) (hRa : mT M Ra = (1, 6)) (hDa : mR M Ra 3 = some Da) (hDt : mT M Da = (2, 300)) (hCa : mT M Ca = (1, 1)) (hce : mI M Ca 7 = nI ce) (hce3 : ce ≤ 300) (hi : i < ce) (hv : mI M Da i = nI v) (hvb : v < 20000) (hnm : ∀ k, k < 7 → mI M Na k = i32 (nm k))
    (h : tyS1 v (g, t) = some (g', t')) (ok : okS g f t) (ht : t ≤ 40) (hst : StkAt Ka f t M) : ∃ M1, b_X9_value_8 q (some Sa) (some Ra) (some Ca) (nI t) (nI i) M = q (some Sa) (some Ra) (some Ca) (nI t') (nI (i + 1)) M1 ∧ StkAt Ka (evS1 nm v (f, t)).1 t' M1 ∧ Fr1 (fun b => b = Ka) M M1 := by
  obtain ⟨s1, s2, s3, s4, s5⟩ := hS
  have ev : nI v - (10000 : Int32) = i32 ((v : Int) - 10000) := by rw [← i32_n, show (10000 : Int32) = i32 10000 by decide, i32_sub]
  have smv : sm ((v : Int) - 10000) := ⟨by omega, by omega⟩
  have e6 : (6 : Int32) = i32 6 := by decide
  unfold b_X9_value_8
  rw [gI_t hCa, hce, if_neg (nI_ge hi (by omega)), gR_t hRa, hDa, aN_t hDt (by decide) (by decide) (by decide), if_neg (show ¬ nI 300 ≤ nI i from nI_ge (by omega) (by decide)), gR_t hRa, hDa, aI_t hDt (by omega) (by decide), hv, ev]
  have h6 : (6 : Int32) < i32 ((v : Int) - 10000) ↔ 10006 < v := by rw [e6, i32_lt ⟨by decide, by decide⟩ smv]; omega
  by_cases h1 : v ≤ 10006
  · rw [if_neg (fun z => by have := h6.mp z; omega)]
    unfold tyS1 at h
    rw [if_pos h1] at h
    dsimp only at h
    by_cases ht2 : t < 40
    · rw [if_pos ht2] at h
      cases h
      rw [gR_t s1, s3, aN_t s5 (by decide) (by decide) (by decide), if_pos (nI_lt (a := t) (b := 64) (by omega) (by decide)), gR_t s1, s3]
      have e0 : (0 : Int32) ≤ i32 ((v : Int) - 10000) ↔ 10000 ≤ v := by rw [i32_0, i32_le ⟨by decide, by decide⟩ smv]; omega
      by_cases h2 : v < 10000
      · rw [if_neg (fun z => by have := e0.mp z; omega), gR_t hRa, hDa, aI_t hDt (by omega) (by decide), hv, wI_t s5 (by omega) (by decide), nI_1, nI_1]
        refine ⟨_, rfl, ?_, Fr1.I rfl⟩
        unfold evS1
        rw [if_pos h2, ← i32_n]
        exact StkAt.put (fun j hj hn => hst j (by omega))
      · rw [if_pos (e0.mpr (by omega)), gR_t s1, s2, show (v : Int) - 10000 = ((v - 10000 : Nat) : Int) by omega, i32_n, aI_t s4 (by omega) (by decide), hnm _ (by omega), wI_t s5 (by omega) (by decide), nI_1, nI_1]
        refine ⟨_, rfl, ?_, Fr1.I rfl⟩
        unfold evS1
        rw [if_neg h2, if_pos h1]
        exact StkAt.put (fun j hj hn => hst j (by omega))
    · rw [if_neg ht2] at h; cases h
  · rw [if_pos (h6.mpr (by omega))]
    have e19 : i32 ((v : Int) - 10000) = 19 ↔ v = 10019 := by rw [show (19 : Int32) = i32 19 by decide, i32_eq smv ⟨by decide, by decide⟩]; omega
    have e37 : i32 ((v : Int) - 10000) = 37 ↔ v = 10037 := by rw [show (37 : Int32) = i32 37 by decide, i32_eq smv ⟨by decide, by decide⟩]; omega
    have em : ∀ j, j < t → nI t - (1 : Int32) = nI (t - 1) := fun j hj => by rw [show (1 : Int32) = nI 1 from rfl, pk_sub (by omega)]
    have h1t : 1 ≤ t → ¬ ¬ (1 : Int32) ≤ nI t := fun z q => q (nI_le (a := 1) (b := t) z (by omega))
    by_cases h2 : v = 10019
    · subst h2
      rw [if_pos (e19.mpr rfl)]
      unfold tyS1 at h
      rw [if_neg h1, if_pos rfl] at h
      dsimp only at h
      by_cases c : 1 ≤ t ∧ g (t - 1) = true
      · rw [if_pos c] at h
        cases h
        unfold f_X9_value_106
        rw [if_pos (show (1 : Int32) ≤ nI t from nI_le (a := 1) (b := t) c.1 (by omega)), gR_t s1, s3, if_pos (e19.mpr rfl), gR_t s1, s3, em 0 (by omega), aI_t s5 (by omega) (by decide), hst _ (by omega), wI_t s5 (by omega) (by decide), nI_1, show (1 : Int32) = i32 1 by decide, i32_sub]
        refine ⟨_, rfl, ?_, Fr1.I rfl⟩
        exact StkAt.put (fun j hj hn => hst j hj)
      · rw [if_neg c] at h; cases h
    · rw [if_neg (fun z => h2 (e19.mp z))]
      by_cases h3 : v = 10037
      · subst h3
        rw [if_pos (e37.mpr rfl)]
        unfold tyS1 at h
        rw [if_neg h1, if_neg h2, if_pos rfl] at h
        dsimp only at h
        by_cases c : 1 ≤ t ∧ g (t - 1) = false
        · rw [if_pos c] at h
          cases h
          unfold f_X9_value_106
          rw [if_pos (show (1 : Int32) ≤ nI t from nI_le (a := 1) (b := t) c.1 (by omega)), gR_t s1, s3, if_neg (fun z => h2 (e19.mp z)), gR_t s1, s3, em 0 (by omega), aI_t s5 (by omega) (by decide), hst _ (by omega), wI_t s5 (by omega) (by decide), nI_1, i32_neg]
          refine ⟨_, rfl, ?_, Fr1.I rfl⟩
          exact StkAt.put (fun j hj hn => hst j hj)
        · rw [if_neg c] at h; cases h
      · rw [if_neg (fun z => h3 (e37.mp z))]
        obtain ⟨b1, b2, b3, b4⟩ := ty_bin h ok (by omega) h2 h3
        have e2 : nI t + (-1 : Int32) = nI (t - 1) := by
          have := pk_m1 (t - 1)
          rwa [show t - 1 + 1 = t by omega] at this
        have e3 : nI (t - 1) - (1 : Int32) = nI (t - 2) := by rw [show (1 : Int32) = nI 1 from rfl, pk_sub (by omega)]; congr 1
        rw [if_pos (show (2 : Int32) ≤ nI t from nI_le (a := 2) (b := t) b1 (by omega)), gR_t s1, s3, gR_t s1, s3, e2, e3, aI_t s5 (by omega) (by decide), gR_t s1, s3, aI_t s5 (by omega) (by decide), hst _ (by omega), hst _ (by omega), show (v : Int) - 10000 = ((v - 10000 : Nat) : Int) by omega, i32_n, x_joined (ok _ (by omega)).1 (ok _ (by omega)).1 b3, cA_s, wI_t s5 (by omega) (by decide), nI_1]
        refine ⟨_, by rw [b2], ?_, Fr1.I rfl⟩
        unfold evS1
        rw [if_neg (by omega), if_neg h1, if_neg h2, if_neg h3]
        exact StkAt.put (fun j hj hn => hst j (by omega))
