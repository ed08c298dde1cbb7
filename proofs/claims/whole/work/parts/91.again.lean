/-! ===== boards that come again by another heap ===== -/
def sBH (P : Nat → Pos) (e i : Nat) : Bool := decide (btN (P e) = btN (P i)) && !decide (enc 2 (P e).2.1 8 = enc 2 (P i).2.1 8)
def dupR (P : Nat → Pos) (i : Nat) : Nat → Nat → Bool
  | _, 0 => false
  | e, k + 1 => sBH P e i || dupR P i (e + 1) k
def agS (lg dp : Nat → Bool) : Nat → Nat → Option Nat
  | _, 0 => none
  | i, k + 1 => if lg i = true then (if dp i = true then some i else agS lg dp (i + 1) k) else none
theorem fstF_le {p : Nat → Bool} : ∀ (k i : Nat), i ≤ (fstF p i k).getD (i + k) ∧ (fstF p i k).getD (i + k) ≤ i + k
  | 0, i => ⟨Nat.le_refl _, Nat.le_refl _⟩
  | k + 1, i => by
    cases hp : p i with
    | true =>
      rw [fstF_y hp]
      have := fstF_le (p := p) k (i + 1)
      rw [show i + (k + 1) = i + 1 + k by omega]
      omega
    | false => rw [fstF_n hp]; show i ≤ i ∧ i ≤ i + (k + 1); omega
theorem agS_eq {lg dp : Nat → Bool} : ∀ (k i : Nat), agS lg dp i k = fstF (fun j => !dp j) i ((fstF lg i k).getD (i + k) - i)
  | 0, i => by show none = fstF _ i (i + 0 - i); rw [Nat.add_zero, Nat.sub_self]; rfl
  | k + 1, i => by
    cases hp : lg i with
    | true =>
      have h1 := fstF_le (p := lg) k (i + 1)
      have ih := agS_eq (lg := lg) (dp := dp) k (i + 1)
      rw [fstF_y hp, show i + (k + 1) = i + 1 + k by omega]
      rw [show (fstF lg (i + 1) k).getD (i + 1 + k) - i = ((fstF lg (i + 1) k).getD (i + 1 + k) - (i + 1)) + 1 by omega]
      show (if _ then _ else _) = _
      rw [if_pos hp, ih]
      cases hd : dp i with
      | true => rw [if_pos rfl, fstF_n (by rw [hd]; rfl)]
      | false => rw [if_neg (by decide), fstF_y (p := fun j => !dp j) (by rw [hd]; rfl)]
    | false =>
      rw [fstF_n hp]
      show (if _ then _ else _) = fstF _ i (i - i)
      rw [hp, Nat.sub_self]
      rfl
section AGAIN
variable {w h L : Nat} {s : Std} {τ : Nat → Txt}
def PastX (P : Nat → Pos) (n : Nat) (M : Mem) : Prop := ∀ i, i ≤ n → mL M 48 i = lN (btN (P i)) ∧ mI M 49 i = nI (enc 2 (P i).2.1 8)
theorem x_came_l {M : Mem} {P : Nat → Pos} {i : Nat} (hp : Pre w h L s τ M) (hi : i < 41) (hok : ∀ j, j ≤ i → okN w h (P j)) (hPs : PastX P i M) : ∀ (k f e : Nat), e + k = i → k < f → f_X11_cameByAnotherHeap_2 f (some 8) (nI i) (nI e) M = some (nI (dupR P i e k).toNat, M)
  | k, 0, e, _, hf => absurd hf (by omega)
  | 0, f + 1, e, he, _ => by
    obtain rfl : e = i := by omega
    rw [u_X11_cameByAnotherHeap_2]
    unfold b_X11_cameByAnotherHeap_2
    rw [if_pos (Int32.le_refl _), tv_0]
    rfl
  | k + 1, f + 1, e, he, hf => by
    have hl := hp.1.lay
    obtain ⟨a1, a2⟩ := hPs e (by omega)
    obtain ⟨a3, a4⟩ := hPs i (Nat.le_refl _)
    have b1 := btN_lt (hok e (by omega)).1
    have b2 := btN_lt (hok i (Nat.le_refl _)).1
    have b3 := (hok e (by omega)).1.hlt
    have b4 := (hok i (Nat.le_refl _)).1.hlt
    have ih := x_came_l hp hi hok hPs k f (e + 1) (by omega) (by omega)
    rw [u_X11_cameByAnotherHeap_2]
    unfold b_X11_cameByAnotherHeap_2
    rw [if_neg (nI_ge (by omega) (by omega)), gR_t (ly_t8 hl), ly_r8_13 hl, aL_t (ly_t48 hl) (by omega) (by decide), gR_t (ly_t8 hl), ly_r8_13 hl, aL_t (ly_t48 hl) hi (by decide), a1, a3, nI_1]
    have hd : dupR P i e (k + 1) = (sBH P e i || dupR P i (e + 1) k) := rfl
    rw [hd]
    by_cases c1 : btN (P e) = btN (P i)
    · rw [if_pos ((lg_cmp_eq _ _).mpr (by rw [c1])), gR_t (ly_t8 hl), ly_r8_14 hl, aI_t (ly_t49 hl) (by omega) (by decide), gR_t (ly_t8 hl), ly_r8_14 hl, aI_t (ly_t49 hl) hi (by decide), a2, a4]
      by_cases c2 : enc 2 (P e).2.1 8 = enc 2 (P i).2.1 8
      · rw [if_pos (by rw [c2]), ih]
        have : sBH P e i = false := by unfold sBH; simp [c2]
        rw [this, Bool.false_or]
      · rw [if_neg (nIne (by omega) (by omega) c2), tv_1]
        have : sBH P e i = true := by unfold sBH; simp [c1, c2]
        rw [this, Bool.true_or]
        rfl
    · rw [if_neg (fun z => c1 ((lN_eqq (by omega) (by omega)).mp ((lg_cmp_eq _ _).mp z))), ih]
      have : sBH P e i = false := by unfold sBH; simp [c1]
      rw [this, Bool.false_or]
theorem x_remember {M : Mem} {π : Pos} {i : Nat} (hp : Pre w h L s τ M) (hP : PosAt 47 π M) (ok : okP π) (hi : i < 41) : f_X11_remember (some 8) (nI i) M = some ((), sI (sL M 48 i (lN (btN π))) 49 i (nI (enc 2 π.2.1 8))) := by
  have hl := hp.1.lay
  have h1 := x_boardAndTurn hP ok
  have h2 := hP.2.2.1
  unfold f_X11_remember
  simp (disch := first | omega | (simp (disch := omega) only [↓litm, lit, tN_n, nI_add, pk_mul, pk_sub, pk_div, nI_remN, nI_remN', nI_eq, nI_leI, nI_ltI, nI_nm1, m1_nI, m1_m1, m1_le, m1_lt, le_m1, lt_m1, oI_n, oI_s, bS_inN, bS_addN, bS_delN, not_true_eq_false, not_false_eq_true, and_true, true_and, if_true, if_false, mT_sI, mT_sL, mT_sR, mR_sI, mR_sL, mI_sL, mI_sR, mL_sI, mL_sR, mI_e, mI_na, mI_nk, mL_e, mL_na, mL_nk, inB_n, h1, h2]; done) | (simp (disch := omega) only [↓litm, lit, tN_n, nI_add, pk_mul, pk_sub, pk_div, nI_remN, nI_remN', nI_eq, nI_leI, nI_ltI, nI_nm1, m1_nI, m1_m1, m1_le, m1_lt, le_m1, lt_m1, oI_n, oI_s, bS_inN, bS_addN, bS_delN, not_true_eq_false, not_false_eq_true, and_true, true_and, if_true, if_false, mT_sI, mT_sL, mT_sR, mR_sI, mR_sL, mI_sL, mI_sR, mL_sI, mL_sR, mI_e, mI_na, mI_nk, mL_e, mL_na, mL_nk, inB_n, h1, h2]; omega)) only [↓T_8 hl, ly_r8_2 hl, ly_r8_3 hl, ly_r8_4 hl, ly_r8_5 hl, ly_r8_6 hl, ly_r8_7 hl, ly_r8_8 hl, ly_r8_9 hl, ly_r8_10 hl, ly_r8_11 hl, ly_r8_12 hl, ly_r8_13 hl, ly_r8_14 hl, ↓A_48 hl, ↓A_49 hl, ↓T_47 hl, ↓e_gI, ↓e_gL, ↓e_gR, ↓e_pI, ↓e_pL, ↓e_pR, ↓e_cR, ↓e_aI, ↓e_aL, ↓e_aR, ↓e_wI, ↓e_wL, ↓e_aN, ↓t_sI, ↓t_sL, ↓t_sR, ↓q_sI, ↓q_sL, ↓q_sR, ↓n_sI, ↓n_sL, ↓n_sR, ↓cA_s, tv_0, tv_1, tv_n0, tv_n1, ↓nz_y, ↓reduceIte, mT_sI, mT_sL, mT_sR, mR_sI, mR_sL, mI_sL, mI_sR, mL_sI, mL_sR, mI_e, mI_na, mI_nk, mL_e, mL_na, mL_nk, ↓litm, lit, tN_n, nI_add, pk_mul, pk_sub, pk_div, nI_remN, nI_remN', nI_eq, nI_leI, nI_ltI, nI_nm1, m1_nI, m1_m1, m1_le, m1_lt, le_m1, lt_m1, oI_n, oI_s, bS_inN, bS_addN, bS_delN, not_true_eq_false, not_false_eq_true, and_true, true_and, if_true, if_false, h1, h2]
theorem x_again_l : ∀ (k f i : Nat) (M : Mem), i + k = stK s → k < f → Pre w h L s τ M → (∀ j, j < i → lgS w h (tT τ (stB s)) (stG s) (stP s) j = true) → PosAt 47 (psS w h (tT τ (stB s)) (stG s) (stP s) i) M → PastX (psS w h (tT τ (stB s)) (stG s) (stP s)) i M → ∃ M', f_X11_again_21 f (some 8) (nI i) M = some (oI (agS (lgS w h (tT τ (stB s)) (stG s) (stP s)) (fun j => dupR (psS w h (tT τ (stB s)) (stG s) (stP s)) (j + 1) 0 (j + 1)) i k), M') ∧ Fx (47 :: 48 :: 49 :: xA) xF M M'
  | k, 0, i, M => fun _ z => absurd z (by omega)
  | 0, f + 1, i, M => by
    intro hi _ hp hlg hP hPs
    have hl := hp.1.lay
    have h40 := hp.2.1.2.2.2.2.2.1
    have hk := hp.2.2.1.2.2.2.2.1
    refine ⟨M, ?_, Fx.rf⟩
    rw [u_X11_again_21]
    unfold b_X11_again_21
    rw [gR_t (ly_t8 hl), ly_r8_2 hl, gI_t (ly_t9 hl), hk, if_pos (nI_le (by omega) (by omega))]
    rfl
  | k + 1, f + 1, i, M => by
    intro hi hf hp hlg hP hPs
    have hl := hp.1.lay
    have h40 := hp.2.1.2.2.2.2.2.1
    have hk := hp.2.2.1.2.2.2.2.1
    have okt := hp.1.okT hp.2.1.2.1
    have hps := fun j => ps_ok (T := tT τ (stB s)) (g := stG s) hp.1.1 okt hp.2.1.1 hp.2.1.2.2.2.2.2.2 j
    have ok := hps i hlg
    obtain ⟨M1, a1, a2, a3⟩ := x_tryPly hp (show i < 40 by omega) hP ok
    have hp1 : Pre w h L s τ M1 := hp.fx2 a2 (by decide)
    rw [u_X11_again_21]
    unfold b_X11_again_21
    rw [gR_t (ly_t8 hl), ly_r8_2 hl, gI_t (ly_t9 hl), hk, if_neg (nI_ge (by omega) (by omega)), if_neg (show ¬ (40 : Int32) ≤ nI i from nI_ge (b := 40) (by omega) (by decide)), cR_t (ly_t8 hl), a1, cA_s]
    cases hl' : lgS w h (tT τ (stB s)) (stG s) (stP s) i with
    | false =>
      rw [if_neg (show ¬ false = true by decide), if_pos (show nI 0 = (0 : Int32) by decide)]
      refine ⟨M1, ?_, a2.mono (by decide) (by decide)⟩
      show _ = some (oI (if _ then _ else _), M1)
      rw [hl']
      rfl
    | true =>
      have hlg' : ∀ j, j < i + 1 → lgS w h (tT τ (stB s)) (stG s) (stP s) j = true := fun j hj => by
        by_cases e : j = i
        · subst e; exact hl'
        · exact hlg j (by omega)
      have hP1 := a3 hl'
      have ok1 := hps (i + 1) hlg'
      have fr2 : Fx (47 :: 48 :: 49 :: xA) xF M (sI (sL M1 48 (i + 1) (lN (btN (psS w h (tT τ (stB s)) (stG s) (stP s) (i + 1))))) 49 (i + 1) (nI (enc 2 (psS w h (tT τ (stB s)) (stG s) (stP s) (i + 1)).2.1 8))) := ((a2.mono (by decide) (by decide)).L (Or.inl (by decide))).I (Or.inl (by decide))
      have hp2 := hp.fx2 fr2 (by decide)
      have hPs2 : PastX (psS w h (tT τ (stB s)) (stG s) (stP s)) (i + 1) (sI (sL M1 48 (i + 1) (lN (btN (psS w h (tT τ (stB s)) (stG s) (stP s) (i + 1))))) 49 (i + 1) (nI (enc 2 (psS w h (tT τ (stB s)) (stG s) (stP s) (i + 1)).2.1 8))) := fun j hj => by
        by_cases e : j = i + 1
        · subst e
          exact ⟨by rw [mL_sI, mL_e], mI_e⟩
        · rw [mL_sI, mL_nk e, mI_nk e, mI_sL, a2.lb (by decide), a2.ib (by decide)]
          exact hPs j (by omega)
      have hcm := x_came_l hp2 (show i + 1 < 41 by omega) (fun j hj => hps j (fun q hq => hlg' q (by omega))) hPs2 (i + 1) FU 0 (by omega) (by unfold FU; omega)
      have hcm : f_X11_cameByAnotherHeap (some 8) (nI (i + 1)) _ = _ := hcm
      rw [if_pos rfl, if_neg (show ¬ nI 1 = (0 : Int32) by decide), cR_t (ly_t8 hp1.1.lay), nI_1, x_remember hp1 hP1 ok1.1 (by omega), cA_s, cR_t (ly_t8 hp2.1.lay), hcm, cA_s]
      have hag : agS (lgS w h (tT τ (stB s)) (stG s) (stP s)) (fun j => dupR (psS w h (tT τ (stB s)) (stG s) (stP s)) (j + 1) 0 (j + 1)) i (k + 1) = if dupR (psS w h (tT τ (stB s)) (stG s) (stP s)) (i + 1) 0 (i + 1) = true then some i else agS (lgS w h (tT τ (stB s)) (stG s) (stP s)) (fun j => dupR (psS w h (tT τ (stB s)) (stG s) (stP s)) (j + 1) 0 (j + 1)) (i + 1) k := by
        show (if _ then _ else _) = _
        rw [if_pos hl']
      rw [hag]
      cases hdp : dupR (psS w h (tT τ (stB s)) (stG s) (stP s)) (i + 1) 0 (i + 1) with
      | true =>
        rw [if_neg (by decide), if_pos rfl]
        exact ⟨_, rfl, fr2⟩
      | false =>
        rw [if_pos (by decide), if_neg (by decide)]
        obtain ⟨M3, z1, z2⟩ := x_again_l k f (i + 1) _ (by omega) (by omega) hp2 hlg' ((hP1.fx (Fx.wL (A := [48]) (F := []) (Or.inl (by decide))) (by decide)).fx (Fx.wI (A := [49]) (F := []) (Or.inl (by decide))) (by decide)) hPs2
        exact ⟨M3, z1, fr2.tr z2⟩
theorem y_ag31 {M : Mem} {P : Nat → Pos} {n i3 : Nat} (hp : Pre w h L s τ M) (hi : i3 < 40) (hok : ∀ j, j ≤ i3 + 1 → okN w h (P j)) (hPs : PastM w h P (i3 + 1) M) (q : Option Nat → Int32 → Int32 → Mem → Option (Int32 × Mem)) : ∀ (k f e : Nat), e + k = i3 + 1 → k < f → f_X12_again_31 q f (some 230) (nI n) (nI i3) (nI e) M = if dupR P (i3 + 1) e k = true then some (nI i3, M) else q (some 230) (nI n) (nI (i3 + 1)) M
  | k, 0, e, _, hf => absurd hf (by omega)
  | 0, f + 1, e, he, _ => by
    obtain rfl : e = i3 + 1 := by omega
    rw [u_X12_again_31]
    unfold b_X12_again_31
    rw [if_pos (nI_lt (by omega) (by omega)), nI_1, show dupR P (i3 + 1) (i3 + 1) 0 = false from rfl, if_neg (by decide)]
  | k + 1, f + 1, e, he, hf => by
    have hl := hp.1.lay
    obtain ⟨a1, a2⟩ := hPs e (by omega)
    obtain ⟨a3, a4⟩ := hPs (i3 + 1) (Nat.le_refl _)
    have o1 := hok e (by omega)
    have o2 := hok (i3 + 1) (Nat.le_refl _)
    have b1 := bcN_lt hp.1.1 o1.1
    have b2 := bcN_lt hp.1.1 o2.1
    have b3 := hcN_lt o1.1
    have b4 := hcN_lt o2.1
    have ih := y_ag31 (n := n) hp hi hok hPs q k f (e + 1) (by omega) (by omega)
    rw [u_X12_again_31]
    unfold b_X12_again_31
    rw [if_neg (nI_nlt (by omega) (by omega)), gR_t (ly_t230 hl), ly_r230_55 hl, aL_t (ly_t260 hl) (by omega) (by decide), gR_t (ly_t230 hl), ly_r230_55 hl, nI_1, aL_t (ly_t260 hl) (by omega) (by decide), a1, a3, nI_1]
    have hd : dupR P (i3 + 1) e (k + 1) = (sBH P e (i3 + 1) || dupR P (i3 + 1) (e + 1) k) := rfl
    rw [hd]
    by_cases c1 : btN (P e) = btN (P (i3 + 1))
    · have c1' := (o1.eqB o2).mpr c1
      rw [if_pos ((lg_cmp_eq _ _).mpr (by rw [c1'])), gR_t (ly_t230 hl), ly_r230_56 hl, aI_t (ly_t261 hl) (by omega) (by decide), gR_t (ly_t230 hl), ly_r230_56 hl, aI_t (ly_t261 hl) (by omega) (by decide), a2, a4]
      by_cases c2 : enc 2 (P e).2.1 8 = enc 2 (P (i3 + 1)).2.1 8
      · have c2' := (o1.eqH o2).mpr c2
        rw [if_pos (by rw [c2']), ih]
        have : sBH P e (i3 + 1) = false := by unfold sBH; simp [c2]
        rw [this, Bool.false_or]
      · rw [if_neg (nIne (by omega) (by omega) (fun z => c2 ((o1.eqH o2).mp z)))]
        have : sBH P e (i3 + 1) = true := by unfold sBH; simp [c1, c2]
        rw [this, Bool.true_or, if_pos rfl]
    · rw [if_neg (fun z => c1 ((o1.eqB o2).mp ((lN_eqq (by omega) (by omega)).mp ((lg_cmp_eq _ _).mp z)))), ih]
      have : sBH P e (i3 + 1) = false := by unfold sBH; simp [c1]
      rw [this, Bool.false_or]
theorem y_ag23 {M : Mem} {P : Nat → Pos} {n : Nat} (hp : Pre w h L s τ M) (hn : n ≤ 40) (hok : ∀ j, j ≤ n → okN w h (P j)) (hPs : PastM w h P n M) : ∀ (k f i : Nat), i + k = n → k < f → f_X12_again_23 f (some 230) (nI n) (nI i) M = some (oI (fstF (fun j => !dupR P (j + 1) 0 (j + 1)) i k), M)
  | k, 0, i, _, hf => absurd hf (by omega)
  | 0, f + 1, i, hi, _ => by
    obtain rfl : i = n := by omega
    rw [u_X12_again_23]
    unfold b_X12_again_23
    rw [if_pos (Int32.le_refl _)]
    rfl
  | k + 1, f + 1, i, hi, hf => by
    rw [u_X12_again_23]
    unfold b_X12_again_23
    rw [if_neg (nI_ge (by omega) (by omega))]
    have := y_ag31 (n := n) (i3 := i) hp (by omega) (fun j hj => hok j (by omega)) (fun j hj => hPs j (by omega)) (f_X12_again_23 f) (i + 1) FU 0 (by omega) (by unfold FU; omega)
    rw [show (0 : Int32) = nI 0 from rfl, this]
    cases hd : dupR P (i + 1) 0 (i + 1) with
    | true => rw [if_pos rfl, fstF_n (p := fun j => !dupR P (j + 1) 0 (j + 1)) (by rw [hd]; rfl)]; rfl
    | false =>
      rw [if_neg (by decide), fstF_y (p := fun j => !dupR P (j + 1) 0 (j + 1)) (by rw [hd]; rfl)]
      exact y_ag23 hp hn hok hPs k f (i + 1) (by omega) (by omega)
theorem fstF_all {p : Nat → Bool} : ∀ (k i : Nat) (j : Nat), i ≤ j → j < (fstF p i k).getD (i + k) → p j = true
  | 0, i, j, h1, h2 => absurd h2 (by show ¬ j < i + 0; omega)
  | k + 1, i, j, h1, h2 => by
    cases hp : p i with
    | true =>
      by_cases e : j = i
      · subst e; exact hp
      · rw [fstF_y hp, show i + (k + 1) = i + 1 + k by omega] at h2
        exact fstF_all k (i + 1) j (by omega) h2
    | false => rw [fstF_n hp] at h2; exact absurd h2 (by show ¬ j < i; omega)
theorem c_again {M : Mem} (hp : Pre w h L s τ M) : ∃ r M1 M2, f_X11_again (some 8) M = some (r, M1) ∧ f_X12_again (some 230) M1 = some (r, M2) ∧ Fx SA SF M M2 := by
  have hl := hp.1.lay
  have h40 := hp.2.1.2.2.2.2.2.1
  have okt := hp.1.okT hp.2.1.2.1
  have hps := fun j => ps_ok (T := tT τ (stB s)) (g := stG s) hp.1.1 okt hp.2.1.1 hp.2.1.2.2.2.2.2.2 j
  obtain ⟨M0, t1, t2, t3⟩ := x_try hp
  have hp0 : Pre w h L s τ M0 := hp.fx2 t2 (by decide)
  have frR : Fx (48 :: 49 :: [47]) [] M (sI (sL M0 48 0 (lN (btN (stP s)))) 49 0 (nI (enc 2 (stP s).2.1 8))) := ((t2.mono (by decide) (by decide)).L (Or.inl (by decide))).I (Or.inl (by decide))
  have hpR : Pre w h L s τ (sI (sL M0 48 0 (lN (btN (stP s)))) 49 0 (nI (enc 2 (stP s).2.1 8))) := hp.fx2 frR (by decide)
  obtain ⟨M1, a1, a2⟩ := x_again_l (stK s) FU 0 _ (by omega) (by unfold FU; omega) hpR (fun j hj => absurd hj (by omega)) ((t3.fx (Fx.wL (A := [48]) (F := []) (Or.inl (by decide))) (by decide)).fx (Fx.wI (A := [49]) (F := []) (Or.inl (by decide))) (by decide)) (fun j hj => by
    obtain rfl : j = 0 := by omega
    exact ⟨by rw [mL_sI, mL_e]; rfl, mI_e⟩)
  have fr1 : Fx SA SF M M1 := (frR.mono (by decide) (by decide)).tr (a2.mono (by decide) (by decide))
  have hp1 : Pre w h L s τ M1 := hp.fx2 fr1 (by decide)
  obtain ⟨M2, b1, b2, b3⟩ := y_judges hp1
  have hp2 : Pre w h L s τ M2 := hp1.fx2 b2 (by decide)
  have hle := fstF_le (p := lgS w h (tT τ (stB s)) (stG s) (stP s)) (stK s) 0
  rw [Nat.zero_add] at hle
  have hall := fun j => fstF_all (p := lgS w h (tT τ (stB s)) (stG s) (stP s)) (stK s) 0 j (Nat.zero_le _)
  rw [Nat.zero_add] at hall
  have z := y_ag23 hp2 (show (fstF (lgS w h (tT τ (stB s)) (stG s) (stP s)) 0 (stK s)).getD (stK s) ≤ 40 by omega) (fun j hj => hps j (fun q hq => hall q (by omega))) b3 ((fstF (lgS w h (tT τ (stB s)) (stG s) (stP s)) 0 (stK s)).getD (stK s)) FU 0 (by omega) (by unfold FU; omega)
  have heq := agS_eq (lg := lgS w h (tT τ (stB s)) (stG s) (stP s)) (dp := fun j => dupR (psS w h (tT τ (stB s)) (stG s) (stP s)) (j + 1) 0 (j + 1)) (stK s) 0
  rw [Nat.zero_add, Nat.sub_zero] at heq
  rw [← heq] at z
  refine ⟨oI (agS (lgS w h (tT τ (stB s)) (stG s) (stP s)) (fun j => dupR (psS w h (tT τ (stB s)) (stG s) (stP s)) (j + 1) 0 (j + 1)) 0 (stK s)), M1, M2, ?_, ?_, fr1.tr (b2.mono (by decide) (by decide))⟩
  · unfold f_X11_again
    rw [gR_t (ly_t8 hl), ly_r8_12 hl, gR_t (ly_t8 hl), ly_r8_2 hl, gR_t (ly_t9 hl), ly_r9_0 hl, cR_t (ly_t47 hl), t1, cA_s, cR_t (ly_t8 hp0.1.lay), show (0 : Int32) = nI 0 from rfl, x_remember hp0 t3 hp.2.1.1.1 (by decide), cA_s]
    exact a1
  · unfold f_X12_again
    rw [cR_t (ly_t230 hp1.1.lay), b1, cA_s]
    cases hf : fstF (lgS w h (tT τ (stB s)) (stG s) (stP s)) 0 (stK s) with
    | none =>
      rw [hf] at z
      rw [oI_n, if_pos (show m1 = -1 from rfl), gR_t (ly_t230 hp2.1.lay), ly_r230_3 hp2.1.lay, show (5 : Int32) = nI 5 from rfl, aI_t (ly_t231 hp2.1.lay) (by decide) (by decide), hp2.2.2.2.2.2.2.2.2.1]
      exact z
    | some j =>
      rw [hf] at z hle
      have hj : j ≤ stK s := hle.2
      rw [oI_s, if_neg (show ¬ nI j = -1 from fun q => (nI_nm1 (by omega)).mp q)]
      exact z
end AGAIN
