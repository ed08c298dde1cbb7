/-! ===== the reference works a sum out ===== -/
def moB (k : Nat) : Nat := if k = 17 then 406 else if k = 18 then 407 else if k = 21 then 60 else if k = 22 then 300 else if k = 23 then 62 else if k = 24 then 301 else if k = 25 then 61 else if k = 26 then 35 else if k = 27 then 43 else if k = 28 then 45 else if k = 29 then 42 else 47
def moC (v : Nat) : Nat := if v < 10000 then 400 else if v ≤ 10006 then 401 else if v = 10019 then 405 else if v = 10037 then 402 else moB (v - 10000)
def mvC (v : Nat) : Nat := if v < 10000 then v else if v ≤ 10006 then v - 10000 else 0
theorem y_bound {M : Mem} {z : Int} (h : bg z) : f_X12_bound (i64 z) M = some (i64 (bnd z), M) := by
  unfold f_X12_bound bnd
  have e1 : (1000000 : Int64) = i64 1000000 := by decide
  have e2 : (-1000000 : Int64) = i64 (-1000000) := by decide
  rw [e2, e1]
  by_cases h1 : z ≤ 1000000
  · rw [if_pos h1, if_pos ((lg_cmp_le _ _).mpr ((i64_le h ⟨by decide, by decide⟩).mpr h1))]
    by_cases h2 : -1000000 ≤ z
    · rw [if_pos h2, if_pos ((lg_cmp_ge _ _).mpr ((i64_le ⟨by decide, by decide⟩ h).mpr h2))]
    · rw [if_neg h2, if_neg (fun q => h2 ((i64_le ⟨by decide, by decide⟩ h).mp ((lg_cmp_ge _ _).mp q)))]
  · rw [if_neg h1, if_neg (fun q => h1 ((i64_le h ⟨by decide, by decide⟩).mp ((lg_cmp_le _ _).mp q)))]
theorem ite2 {M : Mem} {b c : Prop} [Decidable b] [Decidable c] {u v : Int} (h : b ↔ c) : (if b then some (i64 u, M) else some (i64 v, M)) = some (i64 (if c then u else v), M) := by
  by_cases hc : c
  · rw [if_pos (h.mpr hc), if_pos hc]
  · rw [if_neg (fun q => hc (h.mp q)), if_neg hc]
theorem y_worked {M : Mem} {k : Nat} {x y : Int} (hx : vl x) (hy : vl y) (hk : (isBn k = true ∧ b01 x ∧ b01 y) ∨ isCmp k = true ∨ isAr k = true) : f_X12_worked (nI (moB k)) (i64 x) (i64 y) M = some (i64 (jnZ k x y), M) := by
  have hk' : k = 17 ∨ k = 18 ∨ k = 21 ∨ k = 22 ∨ k = 23 ∨ k = 24 ∨ k = 25 ∨ k = 26 ∨ k = 27 ∨ k = 28 ∨ k = 29 ∨ k = 30 := by
    unfold isBn isCmp isAr at hk
    simp only [Bool.or_eq_true, beq_iff_eq, Bool.and_eq_true, decide_eq_true_eq] at hk
    omega
  have hbx := hx.sm.bg
  have hby := hy.sm.bg
  unfold f_X12_worked
  rcases hk' with rfl | rfl | rfl | rfl | rfl | rfl | rfl | rfl | rfl | rfl | rfl | rfl
  · rw [show moB 17 = 406 from rfl, if_neg (by decide), if_neg (by decide), if_neg (by decide), if_neg (by decide), if_neg (by decide), if_neg (by decide), if_neg (by decide), if_neg (by decide), if_neg (by decide), if_neg (by decide), if_pos (by decide), i64_mul]
    rfl
  · rw [show moB 18 = 407 from rfl, if_neg (by decide), if_neg (by decide), if_neg (by decide), if_neg (by decide), if_neg (by decide), if_neg (by decide), if_neg (by decide), if_neg (by decide), if_neg (by decide), if_neg (by decide), if_neg (by decide), i64_add, i64_0, i64_1]
    refine ite2 ((lg_cmp_le _ _).trans (i64_le ?_ vl0.sm.bg))
    exact ⟨by have := hx.1; have := hy.1; omega, by have := hx.2; have := hy.2; omega⟩
  · rw [show moB 21 = 60 from rfl, if_neg (by decide), if_neg (by decide), if_neg (by decide), if_neg (by decide), if_neg (by decide), if_pos (by decide), i64_0, i64_1]
    exact ite2 ((lg_cmp_ge _ _).trans (i64_le hby hbx))
  · rw [show moB 22 = 300 from rfl, if_neg (by decide), if_neg (by decide), if_neg (by decide), if_neg (by decide), if_neg (by decide), if_neg (by decide), if_neg (by decide), if_neg (by decide), if_pos (by decide), i64_0, i64_1]
    exact ite2 ((lg_cmp_gt _ _).trans (i64_lt hby hbx))
  · rw [show moB 23 = 62 from rfl, if_neg (by decide), if_neg (by decide), if_neg (by decide), if_neg (by decide), if_neg (by decide), if_neg (by decide), if_neg (by decide), if_pos (by decide), i64_0, i64_1]
    exact ite2 ((lg_cmp_le _ _).trans (i64_le hbx hby))
  · rw [show moB 24 = 301 from rfl, if_neg (by decide), if_neg (by decide), if_neg (by decide), if_neg (by decide), if_neg (by decide), if_neg (by decide), if_neg (by decide), if_neg (by decide), if_neg (by decide), if_pos (by decide), i64_0, i64_1]
    exact ite2 ((lg_cmp_lt _ _).trans (i64_lt hbx hby))
  · rw [show moB 25 = 61 from rfl, if_neg (by decide), if_neg (by decide), if_neg (by decide), if_neg (by decide), if_neg (by decide), if_neg (by decide), if_pos (by decide), i64_0, i64_1]
    exact ite2 ((lg_cmp_eq _ _).trans (i64_eq hbx hby))
  · rw [show moB 26 = 35 from rfl, if_pos (by decide), i64_0, i64_1]
    exact ite2 ((lg_cmp_eq _ _).trans (i64_eq hbx hby))
  · rw [show moB 27 = 43 from rfl, if_neg (by decide), if_neg (by decide), if_pos (by decide), i64_add, y_bound ⟨by have := hx.1; have := hy.1; omega, by have := hx.2; have := hy.2; omega⟩, cA_s]
    rfl
  · rw [show moB 28 = 45 from rfl, if_neg (by decide), if_neg (by decide), if_neg (by decide), if_pos (by decide), i64_sub, y_bound ⟨by have := hx.1; have := hy.2; omega, by have := hx.2; have := hy.1; omega⟩, cA_s]
    rfl
  · rw [show moB 29 = 42 from rfl, if_neg (by decide), if_pos (by decide), i64_mul, y_bound (mul_bg hx hy), cA_s]
    rfl
  · rw [show moB 30 = 47 from rfl, if_neg (by decide), if_neg (by decide), if_neg (by decide), if_neg (by decide), if_pos (by decide)]
    rw [show jnZ 30 x y = if y = 0 then 0 else x.tdiv y from rfl]
    have e0 : (lg_cmp (i64 y) 0 = 0) ↔ y = 0 := by rw [i64_0]; exact (lg_cmp_eq _ _).trans (i64_eq hby vl0.sm.bg)
    by_cases h0 : y = 0
    · rw [if_pos (e0.mpr h0), if_pos h0, i64_0]
    · have h1 : ¬ i64 y = 0 := fun q => h0 (by rw [i64_0] at q; exact (i64_eq hby vl0.sm.bg).mp q)
      rw [if_neg (fun q => h0 (e0.mp q)), if_neg h0]
      simp only [nzL]
      rw [if_neg h1, i64_div hx hy]
def PilAt (f : Nat → Int) (t : Nat) (M : Mem) : Prop := ∀ j, j < t → mL M 253 j = i64 (f j)
theorem PilAt.put {t j : Nat} {f : Nat → Int} {M : Mem} {x : Int} (h : ∀ i, i < t → i ≠ j → mL M 253 i = i64 (f i)) : PilAt (up1 f j x) t (sL M 253 j (i64 x)) := by
  intro i hi
  rw [mL_s]
  by_cases e : i = j
  · subst e; simp [up1_s]
  · rw [up1_n e]; simp [e]; exact h i hi e
theorem lay_L {pl L : Nat} {M : Mem} {a k : Nat} {v : Int64} (h : Lay pl L M) : Lay pl L (sL M a k v) := h
theorem y_says_step {pl L i v t t' : Nat} {g g' : Nat → Bool} {f nm : Nat → Int} {M : Mem} {q : Option Nat → Int32 → Int32 → Mem → Option (Int64 × Mem)} (hl : Lay pl L M) (hi : i < 2400) (ho : mI M 241 i = nI (moC v)) (hv : mI M 242 i = nI (mvC v)) (hvb : v < 20000) (hnm : ∀ k, k < 7 → mI M 252 k = i32 (nm k)) (hn : nmOk nm)
    (h : tyS1 v (g, t) = some (g', t')) (ok : okS g f t) (ht : t ≤ 40) (hst : PilAt f t M) : ∃ M1, b_X12_saysOf_4 q (some 230) (nI t) (nI i) M = q (some 230) (nI t') (nI (i + 1)) M1 ∧ PilAt (evS1 nm v (f, t)).1 t' M1 ∧ Fr1 (fun b => b = 253) M M1 := by
  have t0 := ly_t230 hl
  have t1 := ly_t241 hl
  have t2 := ly_t242 hl
  have t3 := ly_t253 hl
  have t4 := ly_t252 hl
  have r1 := ly_r230_16 hl
  have r2 := ly_r230_17 hl
  have r3 := ly_r230_42 hl
  have r4 := ly_r230_41 hl
  have em : 1 ≤ t → nI t - (1 : Int32) = nI (t - 1) := fun hj => by rw [show (1 : Int32) = nI 1 from rfl, pk_sub (by omega)]
  unfold b_X12_saysOf_4
  rw [gR_t t0, r1, aI_t t1 hi (by decide), ho]
  by_cases h1 : v ≤ 10006
  · unfold tyS1 at h
    rw [if_pos h1] at h
    dsimp only at h
    by_cases ht2 : t < 40
    · rw [if_pos ht2] at h
      cases h
      by_cases h2 : v < 10000
      · have e1 : moC v = 400 := by unfold moC; rw [if_pos h2]
        have e2 : mvC v = v := by unfold mvC; rw [if_pos h2]
        rw [e1, if_neg (by decide), gR_t t0, r1, aI_t t1 hi (by decide), ho, e1, if_pos (by decide)]
        unfold f_X12_saysOf_40
        rw [gR_t t0, r3, if_pos (by decide), gR_t t0, r2, aI_t t2 hi (by decide), hv, e2, ← i32_n v, i32_w ⟨by omega, by omega⟩, wL_t t3 (by omega) (by decide), nI_1, nI_1]
        refine ⟨_, rfl, ?_, Fr1.L rfl⟩
        unfold evS1
        rw [if_pos h2]
        exact PilAt.put (fun j hj hn => hst j (by omega))
      · have e1 : moC v = 401 := by unfold moC; rw [if_neg h2, if_pos h1]
        have e2 : mvC v = v - 10000 := by unfold mvC; rw [if_neg h2, if_pos h1]
        rw [e1, if_neg (by decide), gR_t t0, r1, aI_t t1 hi (by decide), ho, e1, if_neg (by decide), if_pos (by decide)]
        unfold f_X12_saysOf_40
        rw [gR_t t0, r3, if_neg (by decide), gR_t t0, r4, gR_t t0, r2, aI_t t2 hi (by decide), hv, e2, aI_t t4 (by omega) (by decide), hnm _ (by omega), i32_w (hn _ (by omega)).sm, wL_t t3 (by omega) (by decide), nI_1, nI_1]
        refine ⟨_, rfl, ?_, Fr1.L rfl⟩
        unfold evS1
        rw [if_neg h2, if_pos h1]
        exact PilAt.put (fun j hj hn => hst j (by omega))
    · rw [if_neg ht2] at h; cases h
  · by_cases h2 : v = 10019
    · subst h2
      unfold tyS1 at h
      rw [if_neg h1, if_pos rfl] at h
      dsimp only at h
      by_cases c : 1 ≤ t ∧ g (t - 1) = true
      · rw [if_pos c] at h
        cases h
        rw [show moC 10019 = 405 from rfl, if_neg (by decide), gR_t t0, r1, aI_t t1 hi (by decide), ho, show moC 10019 = 405 from rfl, if_neg (by decide), if_neg (by decide), if_neg (by decide), if_pos (by decide), gR_t t0, r3, gR_t t0, r3, em c.1, aL_t t3 (by omega) (by decide), hst _ (by omega), wL_t t3 (by omega) (by decide), nI_1, i64_1, i64_sub]
        refine ⟨_, rfl, ?_, Fr1.L rfl⟩
        exact PilAt.put (fun j hj hn => hst j hj)
      · rw [if_neg c] at h; cases h
    · by_cases h3 : v = 10037
      · subst h3
        unfold tyS1 at h
        rw [if_neg h1, if_neg h2, if_pos rfl] at h
        dsimp only at h
        by_cases c : 1 ≤ t ∧ g (t - 1) = false
        · rw [if_pos c] at h
          cases h
          rw [show moC 10037 = 402 from rfl, if_neg (by decide), gR_t t0, r1, aI_t t1 hi (by decide), ho, show moC 10037 = 402 from rfl, if_neg (by decide), if_neg (by decide), if_pos (by decide), gR_t t0, r3, gR_t t0, r3, em c.1, aL_t t3 (by omega) (by decide), hst _ (by omega), wL_t t3 (by omega) (by decide), nI_1, i64_neg]
          refine ⟨_, rfl, ?_, Fr1.L rfl⟩
          exact PilAt.put (fun j hj hn => hst j hj)
        · rw [if_neg c] at h; cases h
      · obtain ⟨b1, b2, b3, b4⟩ := ty_bin h ok (by omega) h2 h3
        have e2 : nI t + (-1 : Int32) = nI (t - 1) := by
          have := pk_m1 (t - 1)
          rwa [show t - 1 + 1 = t by omega] at this
        have e3 : nI (t - 1) - (1 : Int32) = nI (t - 2) := by rw [show (1 : Int32) = nI 1 from rfl, pk_sub (by omega)]; congr 1
        have eC : moC v = moB (v - 10000) := by unfold moC; rw [if_neg (by omega), if_neg h1, if_neg h2, if_neg h3]
        have hB : ∀ k, moB k < 1000 ∧ moB k ≠ 408 ∧ moB k ≠ 400 ∧ moB k ≠ 401 ∧ moB k ≠ 402 ∧ moB k ≠ 405 := by
          intro k
          unfold moB
          repeat' split
          all_goals decide
        obtain ⟨c0, c1, c2, c3, c4, c5⟩ := hB (v - 10000)
        rw [eC, if_neg (show ¬ nI (moB (v - 10000)) = (408 : Int32) from nIne (b := 408) (by omega) (by decide) c1), gR_t t0, r1, aI_t t1 hi (by decide), ho, eC, if_neg (show ¬ nI (moB (v - 10000)) = (400 : Int32) from nIne (b := 400) (by omega) (by decide) c2), if_neg (show ¬ nI (moB (v - 10000)) = (401 : Int32) from nIne (b := 401) (by omega) (by decide) c3), if_neg (show ¬ nI (moB (v - 10000)) = (402 : Int32) from nIne (b := 402) (by omega) (by decide) c4), if_neg (show ¬ nI (moB (v - 10000)) = (405 : Int32) from nIne (b := 405) (by omega) (by decide) c5), gR_t t0, r3, gR_t t0, r3, e2, e3, aL_t t3 (by omega) (by decide), gR_t t0, r3, aL_t t3 (by omega) (by decide), hst _ (by omega), hst _ (by omega), y_worked (ok _ (by omega)).1 (ok _ (by omega)).1 b3, cA_s, wL_t t3 (by omega) (by decide), nI_1]
        refine ⟨_, by rw [b2], ?_, Fr1.L rfl⟩
        unfold evS1
        rw [if_neg (by omega), if_neg h1, if_neg h2, if_neg h3]
        exact PilAt.put (fun j hj hn => hst j (by omega))
theorem Lay.fr253 {pl L : Nat} {M M1 : Mem} (hl : Lay pl L M) (fr : Fr1 (fun b => b = 253) M M1) : Lay pl L M1 := by
  obtain ⟨l1, l2, l3, l4, l5, l6, l7, l8, l9, l10, l11, l12, l13⟩ := hl
  have hra : ∀ r, isRA r → r ≤ 175 := by
    rintro r (rfl | ⟨t, ht, rfl⟩)
    · decide
    · unfold rA; omega
  have hx : ∀ q ∈ xrefs, q.1 ≠ 253 := by decide
  refine ⟨by rw [fr.1]; exact l1, by rw [fr.2.1]; exact l2, fun q hq => by rw [fr.r (hx q hq)]; exact l3 q hq, fun t ht => by rw [fr.r (by decide)]; exact l4 t ht, fun r hr => ?_, fun r hr i hi => ?_, by rw [fr.r (by decide)]; exact l7, by rw [fr.r (by decide)]; exact l8, fun k => by rw [fr.i (by decide)]; exact l9 k, fun k => by rw [fr.i (by decide)]; exact l10 k, fun k => by rw [fr.i (by decide)]; exact l11 k, fun k => by rw [fr.i (by decide)]; exact l12 k, fun k => by rw [fr.i (by decide)]; exact l13 k⟩
  · have := hra r hr
    rw [fr.r (show ¬ r = 253 by omega), fr.r (show ¬ r + 1 = 253 by omega)]
    exact l5 r hr
  · have := hra r hr
    rw [fr.i (show ¬ r + 5 + i = 253 by omega)]
    exact l6 r hr i hi
theorem y_says_loop {pl L ce : Nat} {nm : Nat → Int} (hn : nmOk nm) (hce : ce < 2400) : ∀ (cd : List Nat) (n i t t' : Nat) (g g' : Nat → Bool) (f : Nat → Int) (M : Mem), cdOk cd → i + cd.length = ce → cd.length < n → tyF cd (g, t) = some (g', t') → 1 ≤ t' → okS g f t → t ≤ 40 → Lay pl L M → (∀ j, j < cd.length → mI M 241 (i + j) = nI (moC (cd.getD j 0)) ∧ mI M 242 (i + j) = nI (mvC (cd.getD j 0))) → mI M 241 ce = nI 408 → (∀ k, k < 7 → mI M 252 k = i32 (nm k)) → PilAt f t M →
    ∃ M', f_X12_saysOf_4 n (some 230) (nI t) (nI i) M = some (i64 ((evF nm cd (f, t)).1 0), M') ∧ Fr1 (fun b => b = 253) M M'
  | cd, 0, i, t, t', g, g', f, M => fun _ _ h => absurd h (by omega)
  | [], n + 1, i, t, t', g, g', f, M => by
    intro hcd hi hl hty ht1 ok ht hly hcode hend hnm hst
    cases hty
    simp only [List.length_nil, Nat.add_zero] at hi
    subst hi
    refine ⟨M, ?_, Fr1.rf⟩
    rw [u_X12_saysOf_4]
    unfold b_X12_saysOf_4
    rw [gR_t (ly_t230 hly), ly_r230_16 hly, aI_t (ly_t241 hly) hce (by decide), hend, if_pos (by decide), gR_t (ly_t230 hly), ly_r230_42 hly, show (0 : Int32) = nI 0 from rfl, aL_t (ly_t253 hly) (by decide) (by decide), hst _ (by omega)]
    rfl
  | v :: cd, n + 1, i, t, t', g, g', f, M => by
    intro hcd hi hl hty ht1 ok ht hly hcode hend hnm hst
    simp only [List.length_cons] at hi hl
    unfold tyF at hty
    cases h1 : tyS1 v (g, t) with
    | none => rw [h1] at hty; cases hty
    | some s =>
      obtain ⟨g1, t1⟩ := s
      rw [h1, Option.bind_some] at hty
      have hv := hcode 0 (by simp)
      simp only [Nat.add_zero, List.getD_cons_zero] at hv
      obtain ⟨M1, e1, st1, fr1⟩ := y_says_step (q := f_X12_saysOf_4 n) hly (by omega) hv.1 hv.2 (hcd v List.mem_cons_self) hnm hn h1 ok ht hst
      obtain ⟨ev2, ok1⟩ := ev_step hn h1 ok
      obtain ⟨M', e2, fr2⟩ := y_says_loop hn hce cd n (i + 1) t1 t' g1 g' (evS1 nm v (f, t)).1 M1 (fun w hw => hcd w (List.mem_cons_of_mem _ hw)) (by omega) (by omega) hty ht1 ok1 (tyS1_le h1 ht) (hly.fr253 fr1)
        (fun j hj => by
          rw [fr1.i (by decide), fr1.i (by decide)]
          have := hcode (j + 1) (by simp; omega)
          rw [show i + 1 + j = i + (j + 1) by omega]
          simpa using this) (by rw [fr1.i (by decide)]; exact hend) (fun k hk => by rw [fr1.i (by decide)]; exact hnm k hk) st1
      refine ⟨M', ?_, fr1.tr fr2⟩
      rw [u_X12_saysOf_4, e1, e2, evF_c, show evS1 nm v (f, t) = ((evS1 nm v (f, t)).1, t1) by rw [← ev2]]
/-- the code of a clause in the reference -/
def CodeM (off : Nat) (cd : List Nat) (M : Mem) : Prop := off + cd.length < 2400 ∧ (∀ j, j < cd.length → mI M 241 (off + j) = nI (moC (cd.getD j 0)) ∧ mI M 242 (off + j) = nI (mvC (cd.getD j 0))) ∧ mI M 241 (off + cd.length) = nI 408
theorem y_says {pl L off : Nat} {nm : Nat → Int} {cd : List Nat} {b : Bool} {M : Mem} (hn : nmOk nm) (hw : wtC cd b) (hly : Lay pl L M) (hC : CodeM off cd M) (hnm : ∀ k, k < 7 → mI M 252 k = i32 (nm k)) : ∃ M', f_X12_saysOf (some 230) (nI off) M = some (i64 (evV nm cd), M') ∧ Fr1 (fun b => b = 253) M M' := by
  obtain ⟨hcd, g', hty, -⟩ := hw
  obtain ⟨c1, c2, c3⟩ := hC
  unfold f_X12_saysOf
  exact y_says_loop hn c1 cd FU off 0 1 _ g' (fun _ => 0) M hcd rfl (by unfold FU; omega) hty (Nat.le_refl 1) (fun j hj => absurd hj (by omega)) (by omega) hly c2 c3 hnm (fun j hj => absurd hj (by omega))
