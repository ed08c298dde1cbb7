/-! ===== a whole sum, in the class ===== -/
def cdOk (cd : List Nat) : Prop := ∀ v ∈ cd, v < 20000
theorem tyS1_le {v : Nat} {g g' : Nat → Bool} {t t' : Nat} (h : tyS1 v (g, t) = some (g', t')) (ht : t ≤ 40) : t' ≤ 40 := by
  unfold tyS1 at h
  dsimp only at h
  split at h
  · split at h
    · cases h; omega
    · cases h
  · split at h
    · split at h
      · cases h; exact ht
      · cases h
    · split at h
      · split at h
        · cases h; exact ht
        · cases h
      · split at h
        · cases h; omega
        · split at h
          · cases h; omega
          · split at h
            · cases h; omega
            · cases h
theorem evF_c {nm : Nat → Int} {v : Nat} {r : List Nat} {s : (Nat → Int) × Nat} : evF nm (v :: r) s = evF nm r (evS1 nm v s) := rfl
theorem x_val_loop {Sa Na Ka Ra Da Ca ce : Nat} {nm : Nat → Int} (hn : nmOk nm) (hce3 : ce ≤ 300) (hne : Ka ≠ Da ∧ Ka ≠ Na ∧ Ka ≠ Ca) : ∀ (cd : List Nat) (n i t t' : Nat) (g g' : Nat → Bool) (f : Nat → Int) (M : Mem), cdOk cd → i + cd.length = ce → cd.length < n → tyF cd (g, t) = some (g', t') → 1 ≤ t' → okS g f t → t ≤ 40 → SumsAt Sa Na Ka M → mT M Ra = (1, 6) → mR M Ra 3 = some Da → mT M Da = (2, 300) → mT M Ca = (1, 1) → mI M Ca 7 = nI ce → (∀ j, j < cd.length → mI M Da (i + j) = nI (cd.getD j 0)) → (∀ k, k < 7 → mI M Na k = i32 (nm k)) → StkAt Ka f t M →
    ∃ M', f_X9_value_8 n (some Sa) (some Ra) (some Ca) (nI t) (nI i) M = some (i32 ((evF nm cd (f, t)).1 (t' - 1)), M') ∧ Fr1 (fun b => b = Ka) M M'
  | cd, 0, i, t, t', g, g', f, M => fun _ _ h => absurd h (by omega)
  | [], n + 1, i, t, t', g, g', f, M => by
    intro hcd hi hl hty ht1 ok ht hS hRa hDa hDt hCa hce hcode hnm hst
    cases hty
    obtain ⟨s1, s2, s3, s4, s5⟩ := hS
    simp only [List.length_nil, Nat.add_zero] at hi
    subst hi
    refine ⟨M, ?_, Fr1.rf⟩
    rw [u_X9_value_8]
    unfold b_X9_value_8
    rw [gI_t hCa, hce, if_pos (Int32.le_refl _), if_neg (show ¬ nI t ≤ 0 from nI_nle (by omega) (by omega)), gR_t s1, s3, show (1 : Int32) = nI 1 from rfl, pk_sub (by omega), aI_t s5 (by omega) (by decide), hst _ (by omega)]
    rfl
  | v :: cd, n + 1, i, t, t', g, g', f, M => by
    intro hcd hi hl hty ht1 ok ht hS hRa hDa hDt hCa hce hcode hnm hst
    simp only [List.length_cons] at hi hl
    unfold tyF at hty
    cases h1 : tyS1 v (g, t) with
    | none => rw [h1] at hty; cases hty
    | some s =>
      obtain ⟨g1, t1⟩ := s
      rw [h1, Option.bind_some] at hty
      have hv : mI M Da i = nI v := by have := hcode 0 (by simp); simpa using this
      obtain ⟨M1, e1, st1, fr1⟩ := x_val_step (q := f_X9_value_8 n) hS hRa hDa hDt hCa hce hce3 (by omega) hv (hcd v List.mem_cons_self) hnm h1 ok ht hst
      obtain ⟨ev2, ok1⟩ := ev_step hn h1 ok
      have hT : mT M1 = mT M := fr1.1
      have hSa : Sa ≠ Ka := by
        intro e
        have q1 := hS.1
        have q2 := hS.2.2.2.2
        rw [e, q2] at q1
        cases q1
      have hRaK : Ra ≠ Ka := by
        intro e
        have q2 := hS.2.2.2.2
        rw [e, q2] at hRa
        cases hRa
      obtain ⟨M', e2, fr2⟩ := x_val_loop hn hce3 hne cd n (i + 1) t1 t' g1 g' (evS1 nm v (f, t)).1 M1 (fun w hw => hcd w (List.mem_cons_of_mem _ hw)) (by omega) (by omega) hty ht1 ok1 (tyS1_le h1 ht)
        ⟨by rw [hT]; exact hS.1, by rw [fr1.r hSa]; exact hS.2.1, by rw [fr1.r hSa]; exact hS.2.2.1, by rw [hT]; exact hS.2.2.2.1, by rw [hT]; exact hS.2.2.2.2⟩ (by rw [hT]; exact hRa) (by rw [fr1.r hRaK]; exact hDa) (by rw [hT]; exact hDt) (by rw [hT]; exact hCa) (by rw [fr1.i (Ne.symm hne.2.2)]; exact hce)
        (fun j hj => by
          rw [fr1.i (Ne.symm hne.1)]
          have := hcode (j + 1) (by simp; omega)
          rw [show i + 1 + j = i + (j + 1) by omega, this]
          simp) (fun k hk => by rw [fr1.i (Ne.symm hne.2.1)]; exact hnm k hk) st1
      refine ⟨M', ?_, fr1.tr fr2⟩
      rw [u_X9_value_8, e1, e2, evF_c, show evS1 nm v (f, t) = ((evS1 nm v (f, t)).1, t1) by rw [← ev2]]
/-- the code of a clause in a text of the class -/
def CodeAt (Ra Da Ca cs : Nat) (cd : List Nat) (M : Mem) : Prop := mT M Ra = (1, 6) ∧ mR M Ra 3 = some Da ∧ mT M Da = (2, 300) ∧ mT M Ca = (1, 1) ∧ mI M Ca 6 = nI cs ∧ mI M Ca 7 = nI (cs + cd.length) ∧ cs + cd.length ≤ 300 ∧ ∀ j, j < cd.length → mI M Da (cs + j) = nI (cd.getD j 0)
/-- what a sum is worth -/
def evV (nm : Nat → Int) (cd : List Nat) : Int := (evF nm cd (fun _ => 0, 0)).1 0
/-- a row of signs that leaves one value, of a kind -/
def wtC (cd : List Nat) (b : Bool) : Prop := cdOk cd ∧ ∃ g', tyF cd (fun _ => false, 0) = some (g', 1) ∧ g' 0 = b
theorem ev_all {nm : Nat → Int} (hn : nmOk nm) : ∀ (cd : List Nat) (g g' : Nat → Bool) (f : Nat → Int) (t t' : Nat), tyF cd (g, t) = some (g', t') → okS g f t → (evF nm cd (f, t)).2 = t' ∧ okS g' (evF nm cd (f, t)).1 t'
  | [], g, g', f, t, t', h, ok => by cases h; exact ⟨rfl, ok⟩
  | v :: cd, g, g', f, t, t', h, ok => by
    unfold tyF at h
    cases h1 : tyS1 v (g, t) with
    | none => rw [h1] at h; cases h
    | some s =>
      obtain ⟨g1, t1⟩ := s
      rw [h1, Option.bind_some] at h
      obtain ⟨e2, ok1⟩ := ev_step hn h1 ok
      have := ev_all hn cd g1 g' (evS1 nm v (f, t)).1 t1 t' h ok1
      unfold evF
      rwa [show evS1 nm v (f, t) = ((evS1 nm v (f, t)).1, t1) by rw [← e2]]
theorem evV_ok {nm : Nat → Int} {cd : List Nat} {b : Bool} (hn : nmOk nm) (h : wtC cd b) : vl (evV nm cd) ∧ (b = true → b01 (evV nm cd)) := by
  obtain ⟨-, g', h1, h2⟩ := h
  obtain ⟨-, ok⟩ := ev_all hn cd _ g' (fun _ => 0) 0 1 h1 (fun j hj => absurd hj (by omega))
  have := ok 0 (by omega)
  rw [h2] at this
  exact this
theorem x_value {Sa Na Ka Ra Da Ca cs : Nat} {nm : Nat → Int} {cd : List Nat} {b : Bool} {M : Mem} (hn : nmOk nm) (hw : wtC cd b) (hS : SumsAt Sa Na Ka M) (hC : CodeAt Ra Da Ca cs cd M) (hnm : ∀ k, k < 7 → mI M Na k = i32 (nm k)) (hne : Ka ≠ Da ∧ Ka ≠ Na) : ∃ M', f_X9_value (some Sa) (some Ra) (some Ca) M = some (i32 (evV nm cd), M') ∧ Fr1 (fun b => b = Ka) M M' := by
  obtain ⟨hcd, g', hty, -⟩ := hw
  obtain ⟨c1, c2, c3, c4, c5, c6, c7, c8⟩ := hC
  have hKC : Ka ≠ Ca := by
    intro e
    have := hS.2.2.2.2
    rw [e, c4] at this
    cases this
  unfold f_X9_value
  rw [gI_t c4, c5]
  exact x_val_loop hn c7 ⟨hne.1, hne.2, hKC⟩ cd FU cs 0 1 _ g' (fun _ => 0) M hcd rfl (by unfold FU; omega) hty (Nat.le_refl 1) (fun j hj => absurd hj (by omega)) (by omega) hS c1 c2 c3 c4 c6 c8 hnm (fun j hj => absurd hj (by omega))
