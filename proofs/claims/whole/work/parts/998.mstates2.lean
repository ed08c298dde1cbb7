/-! ===== the reference goes through all states ===== -/
theorem bS_sh2 {χ : Chi} {x y : Nat} (hx : x < 8) (hy : y < 8) : ((nI (bS χ 8) >>> (nI x &&& 31)) &&& (nI (bS χ 8) >>> (nI y &&& 31))) &&& (1 : Int32) = nI (χ x && χ y).toNat := by
  have h := bS_lt χ 8
  rw [pk_shrN (by omega) _ x (s_l x (by omega)), pk_shrN (by omega) _ y (s_l y (by omega)), show (1 : Int32) = nI 1 from rfl, nx_and, nx_and]
  congr 1
  have e : ∀ k, k < 8 → ((bS χ 8) / 2 ^ k).testBit 0 = χ k := fun k hk => by
    rw [Nat.testBit_div_two_pow, bS_bit]
    simp [hk]
  have key : ∀ n : Nat, n &&& 1 = (n.testBit 0).toNat := fun n => by
    rw [Nat.and_one_is_mod, Nat.testBit_zero]
    rcases Nat.mod_two_eq_zero_or_one n with q | q <;> simp [q]
  rw [key, Nat.testBit_and, e x hx, e y hy]
section MST2
variable {w h L nt : Nat} {τ : Nat → Txt} {x : Option Nat} {r : Pos}
def FolM (w h : Nat) (T : Txt) (Q : Nat → Pos) (n i q : Nat) (M : Mem) : Prop := (Edg w h T (Q i) (q / 8) (q % 8) → ∃ j, j < n ∧ mI M 264 (64 * i + q) = nI j ∧ Q j = sucS w h T (Q i) (q / 8) (q % 8)) ∧ (¬ Edg w h T (Q i) (q / 8) (q % 8) → mI M 264 (64 * i + q) = m1)
def FulM (w h : Nat) (T : Txt) (Q : Nat → Pos) (n i : Nat) (M : Mem) : Prop := mI M 263 i = nI (bS (opS w h T (Q i)) 8) ∧ ∀ q, q < 64 → FolM w h T Q n i q M
def MoI (w h L nt : Nat) (τ : Nat → Txt) (x : Option Nat) (r : Pos) (Q : Nat → Pos) (n : Nat) (t : Nat → Nat) (s k : Nat) (M : Mem) : Prop :=
  Bs w h L nt τ M ∧ StsM w h Q n t M ∧ StmOk w h Q n t ∧ (∀ i, i < n → Rch w h (tT τ x) r (Q i)) ∧ (∀ i, i < s → FulM w h (tT τ x) Q n i M) ∧ (∀ q, q < k → FolM w h (tT τ x) Q n s q M) ∧ mI M 231 2 = oI x ∧ ∃ π0, MPos π0 M ∧ okN w h π0
/-- more than 2000 states -/
def Many (w h : Nat) (T : Txt) (r : Pos) : Prop := ∃ (Q : Nat → Pos) (π : Pos), (∀ i, i < 2000 → okN w h (Q i) ∧ Rch w h T r (Q i)) ∧ (∀ i j, i < 2000 → j < 2000 → Q i = Q j → i = j) ∧ okN w h π ∧ Rch w h T r π ∧ ∀ i, i < 2000 → Q i ≠ π
abbrev syA : List Nat := [252, 253, 254, 255, 256, 257, 258, 262, 263, 264, 267]
abbrev syF : List (Nat × Nat) := [(230, 45), (230, 46), (230, 47), (230, 48), (230, 49), (230, 58)]
abbrev s1A : List Nat := [254, 255, 262, 264, 267]
abbrev s1F : List (Nat × Nat) := [(230, 45), (230, 58)]
theorem y_st106 {s : Nat} (hx : okX nt x) {M0 : Mem} (g : Option Nat → Int32 → Mem → Option (Int32 × Mem)) : ∀ (k f q : Nat) (Q : Nat → Pos) (n : Nat) (t : Nat → Nat) (M : Mem), q + k = 64 → k < f → s < n → MoI w h L nt τ x r Q n t s q M → LaidAt (canS w h (tT τ x) (Q s)) (ablS w h (tT τ x) (Q s)) 8 M → mI M 263 s = nI (bS (opS w h (tT τ x) (Q s)) 8) → Fx syA syF M0 M → (∃ Q' n' t' M', f_X12_laysStates_106 g f (some 230) (nI s) (nI (bS (opS w h (tT τ x) (Q s)) 8)) (nI q) M = g (some 230) (nI (s + 1)) M' ∧ MoI w h L nt τ x r Q' n' t' (s + 1) 0 M' ∧ Fx syA syF M0 M' ∧ n ≤ n' ∧ (∀ i, i < n → Q' i = Q i)) ∨ (∃ M', f_X12_laysStates_106 g f (some 230) (nI s) (nI (bS (opS w h (tT τ x) (Q s)) 8)) (nI q) M = some (nI 0, M') ∧ Fx syA syF M0 M' ∧ Many w h (tT τ x) r)
  | k, 0, q, Q, n, t, M => fun _ z => absurd z (by omega)
  | 0, f + 1, q, Q, n, t, M => by
    intro hq _ hs hI hL h263 fr
    obtain rfl : q = 64 := by omega
    obtain ⟨i1, i2, i3, i4, i5, i6, i7, i8⟩ := hI
    refine Or.inl ⟨Q, n, t, M, ?_, ⟨i1, i2, i3, i4, fun i hi => ?_, fun q hq => absurd hq (by omega), i7, i8⟩, fr, Nat.le_refl _, fun _ _ => rfl⟩
    · rw [u_X12_laysStates_106]
      unfold b_X12_laysStates_106
      rw [if_pos (by decide), nI_1]
    · by_cases e : i = s
      · subst e; exact ⟨h263, i6⟩
      · exact i5 i (by omega)
  | k + 1, f + 1, q, Q, n, t, M => by
    intro hq hf hs hI hL h263 fr
    obtain ⟨i1, i2, i3, i4, i5, i6, i7, π0, i8, i9⟩ := id hI
    have hl := i1.lay
    have h2000 := i3.1
    have oks := i3.2.1 s hs
    have hn8 : q / 8 < 8 := by omega
    have hd8 : q % 8 < 8 := Nat.mod_lt _ (by decide)
    have e64 : ((64 : Int32) * nI s) + nI q = nI (64 * s + q) := by rw [show (64 : Int32) = nI 64 from rfl, pk_mul, nI_add]
    have n8 : ∀ {X : Option (Int32 × Mem)}, nzI (8 : Int32) X = X := nz_y (y := 8) (by decide)
    have d1 : nI q / (8 : Int32) = nI (q / 8) := pk_div (d := 8) (by omega) (by decide) (by decide)
    have d2 : nI q - nI (q / 8) * (8 : Int32) = nI (q % 8) := nI_remN (d := 8) (by omega) (by decide) (by decide)
    have fA : Fx s1A s1F M (sI M 264 (64 * s + q) m1) := Fx.wI (Or.inl (by decide))
    have hbA := i1.fx fA (by decide) (by decide)
    -- keep what was told, with a new entry
    have keep : ∀ {M' : Mem} {Q' : Nat → Pos} {n' : Nat}, n ≤ n' → (∀ i, i < n → Q' i = Q i) → (∀ j, j ≠ 64 * s + q → mI M' 264 j = mI M 264 j) → mI M' 263 = mI M 263 → FolM w h (tT τ x) Q' n' s q M' → (∀ i, i < s → FulM w h (tT τ x) Q' n' i M') ∧ ∀ p, p < q + 1 → FolM w h (tT τ x) Q' n' s p M' := by
      intro M' Q' n' hn hQ h264 h263' hnew
      have one : ∀ {i p : Nat}, i < n → ¬ (i = s ∧ p = q) → p < 64 → FolM w h (tT τ x) Q n i p M → FolM w h (tT τ x) Q' n' i p M' := by
        intro i p hi hne hp hF
        unfold FolM at *
        rw [hQ i hi, h264 _ (by omega)]
        refine ⟨fun e => ?_, hF.2⟩
        obtain ⟨j, j1, j2, j3⟩ := hF.1 e
        exact ⟨j, by omega, j2, by rw [hQ j j1]; exact j3⟩
      refine ⟨fun i hi => ⟨by rw [h263', hQ i (by omega)]; exact (i5 i hi).1, fun p hp => one (by omega) (by omega) hp ((i5 i hi).2 p hp)⟩, fun p hp => ?_⟩
      by_cases e : p = q
      · subst e; exact hnew
      · exact one hs (by omega) (by omega) (i6 p (by omega))
    rw [u_X12_laysStates_106]
    unfold b_X12_laysStates_106
    rw [if_neg (show ¬ (64 : Int32) ≤ nI q from nI_ge (b := 64) (by omega) (by decide)), gR_t (ly_t230 hl), ly_r230_61 hl, e64, show (-1 : Int32) = m1 from rfl, wI_t (ly_t264 hl) (by omega) (by decide), n8, n8, d1, d2]
    have skip : ¬ Edg w h (tT τ x) (Q s) (q / 8) (q % 8) → (∃ Q' n' t' M', f_X12_laysStates_106 g f (some 230) (nI s) (nI (bS (opS w h (tT τ x) (Q s)) 8)) (nI (q + 1)) (sI M 264 (64 * s + q) m1) = g (some 230) (nI (s + 1)) M' ∧ MoI w h L nt τ x r Q' n' t' (s + 1) 0 M' ∧ Fx syA syF M0 M' ∧ n ≤ n' ∧ (∀ i, i < n → Q' i = Q i)) ∨ (∃ M', f_X12_laysStates_106 g f (some 230) (nI s) (nI (bS (opS w h (tT τ x) (Q s)) 8)) (nI (q + 1)) (sI M 264 (64 * s + q) m1) = some (nI 0, M') ∧ Fx syA syF M0 M' ∧ Many w h (tT τ x) r) := by
      intro hne
      obtain ⟨k1, k2⟩ := keep (M' := sI M 264 (64 * s + q) m1) (Nat.le_refl n) (fun _ _ => rfl) (fun j hj => mI_nk hj) (mI_na (by decide)) ⟨fun e => absurd e hne, fun _ => mI_e⟩
      refine y_st106 hx g k f (q + 1) Q n t _ (by omega) (by omega) hs ⟨hbA, i2.fx (Fx.wI (A := [264]) (F := []) (Or.inl (by decide))) (by decide) (by decide) (by decide), i3, i4, k1, k2, by rw [mI_na (by decide)]; exact i7, π0, i8.fx (Fx.wI (A := [264]) (F := []) (Or.inl (by decide))) (by decide) (by decide), i9⟩ (hL.fx fA (by decide) (by decide)) (by rw [mI_na (by decide)]; exact h263) (fr.tr (fA.mono (by decide) (by decide)))
    by_cases hnd : q / 8 = q % 8
    · rw [if_pos (by rw [hnd]), nI_1]
      exact skip (fun e => e.2.2.1 hnd)
    · rw [if_neg (nIne (by omega) (by omega) hnd), n8, n8, bS_sh2 hn8 hd8]
      cases hop : (opS w h (tT τ x) (Q s) (q / 8) && opS w h (tT τ x) (Q s) (q % 8)) with
      | false =>
        rw [if_neg (by decide), nI_1]
        exact skip (fun e => by rw [e.2.2.2.1, e.2.2.2.2] at hop; cases hop)
      | true =>
        simp only [Bool.and_eq_true] at hop
        have he : Edg w h (tT τ x) (Q s) (q / 8) (q % 8) := ⟨hn8, hd8, hnd, hop.1, hop.2⟩
        have okn := he.ok i1.1 (i1.okT hx) oks
        have hrn : Rch w h (tT τ x) r (sucS w h (tT τ x) (Q s) (q / 8) (q % 8)) := (i4 s hs).step he
        obtain ⟨c1, bb, c2⟩ := abl_can (opS_abl hop.2)
        have hLA := hL.fx fA (by decide) (by decide)
        obtain ⟨M2, a1, a2, a3⟩ := y_laysState hbA (i8.fx (Fx.wI (A := [264]) (F := []) (Or.inl (by decide))) (by decide) (by decide)) i9 oks
        have hb2 := hbA.fx a2 (by decide) (by decide)
        have hL2 := hLA.fx a2 (by decide) (by decide)
        obtain ⟨f1, f2, f3⟩ := hL2.2 _ hd8
        have hB2 : mI M2 231 2 = oI x := by rw [a2.ib (by decide), mI_na (by decide)]; exact i7
        obtain ⟨M3, b1, b2, b3⟩ := y_plays hb2 a3 oks hx hB2 hn8 hd8 hnd c1 c2 f1 f2 f3
        have hb3 := hb2.fx b2 (by decide) (by decide)
        have fr3 : Fx pA pF (sI M 264 (64 * s + q) m1) M3 := a2.tr b2
        have hs3 : StsM w h Q n t M3 := (i2.fx (Fx.wI (A := [264]) (F := []) (Or.inl (by decide))) (by decide) (by decide) (by decide)).fx fr3 (by decide) (by decide) (by decide)
        have hcode : mL (sI M 264 (64 * s + q) m1) 262 s = lN (cdN w h (Q s)) := by rw [mL_sI]; exact i2.2.1 s hs
        obtain ⟨a, g1, g2, g3⟩ := y_cellOf hb3 hs3 i3 okn
        have htv := hs3.2.2 a g2
        have fA3 : Fx syA syF M M3 := (fA.mono (by decide) (by decide)).tr (fr3.mono (by decide) (by decide))
        have hL3 : LaidAt (canS w h (tT τ x) (Q s)) (ablS w h (tT τ x) (Q s)) 8 M3 := hL2.fx b2 (by decide) (by decide)
        have r264 : ∀ j, j ≠ 64 * s + q → mI M3 264 j = mI M 264 j := fun j hj => by rw [fr3.ib (by decide), mI_nk hj]
        have r263 : mI M3 263 = mI M 263 := by rw [fr3.ib (by decide), mI_na (by decide)]
        have r231 : mI M3 231 2 = oI x := by rw [fr3.ib (by decide), mI_na (by decide)]; exact i7
        rw [if_pos (by decide), gR_t (ly_t230 hbA.lay), ly_r230_59 hbA.lay, aL_t (ly_t262 hbA.lay) (by omega) (by decide), hcode, cR_t (ly_t230 hbA.lay), a1, cA_s, n8, n8, cR_t (ly_t230 hb2.lay), b1, cA_s, cR_t (ly_t230 hb3.lay), y_codeOf hb3 b3 okn.1, cA_s, cR_t (ly_t230 hb3.lay), g1, cA_s, gR_t (ly_t230 hb3.lay), ly_r230_64 hb3.lay, aI_t (ly_t267 hb3.lay) g2 (by decide), htv]
        rcases g3 with ⟨j, j1, j2, j3⟩ | ⟨hne, hz, d, dd1, dd2, dd3⟩
        · -- a known one
          have etv : tvM (t a) = nI j := by unfold tvM; rw [if_neg (by omega), j3]; rfl
          have fB : Fx s1A s1F M3 (sI M3 264 (64 * s + q) (nI j)) := Fx.wI (Or.inl (by decide))
          obtain ⟨k1, k2⟩ := keep (M' := sI M3 264 (64 * s + q) (nI j)) (Nat.le_refl n) (fun _ _ => rfl) (fun p hp => by rw [mI_nk hp]; exact r264 p hp) (by rw [mI_na (by decide)]; exact r263) ⟨fun _ => ⟨j, j1, mI_e, j2⟩, fun e => absurd he e⟩
          unfold f_X12_laysStates_245
          rw [etv, if_neg (show ¬ nI j = m1 from fun z => (nI_nm1 (by omega)).mp z), gR_t (ly_t230 hb3.lay), ly_r230_61 hb3.lay, gR_t (ly_t230 hb3.lay), ly_r230_64 hb3.lay, aI_t (ly_t267 hb3.lay) g2 (by decide), htv, etv, e64, wI_t (ly_t264 hb3.lay) (by omega) (by decide), nI_1]
          exact y_st106 hx g k f (q + 1) Q n t _ (by omega) (by omega) hs ⟨hb3.fx fB (by decide) (by decide), hs3.fx (Fx.wI (A := [264]) (F := []) (Or.inl (by decide))) (by decide) (by decide) (by decide), i3, i4, k1, k2, by rw [mI_na (by decide)]; exact r231, _, b3.fx (Fx.wI (A := [264]) (F := []) (Or.inl (by decide))) (by decide) (by decide), okn⟩ (hL3.fx fB (by decide) (by decide)) (by rw [mI_na (by decide), r263]; exact h263) ((fr.tr fA3).tr (fB.mono (by decide) (by decide)))
        · -- a new one
          have etv : tvM (t a) = m1 := by unfold tvM; rw [if_pos hz]
          rw [etv, if_pos rfl, gI_t (ly_t230 hb3.lay), hs3.1]
          rcases Nat.lt_or_ge n 2000 with hlt | hge
          · have fC : Fx s1A s1F M3 (sI (sI (sL (sI M3 267 a (nI n)) 262 n (lN (cdN w h (sucS w h (tT τ x) (Q s) (q / 8) (q % 8))))) 230 58 (nI (n + 1))) 264 (64 * s + q) (nI n)) := (((Fx.wI (Or.inl (by decide))).L (Or.inl (by decide))).I (Or.inr (by decide))).I (Or.inl (by decide))
            have h1n : ¬ (n = 2000) := by omega
            have hl3 := hb3.lay
            have s58 := hs3.1
            have step : ∀ K : Mem → Option (Int32 × Mem), (gR M3 (some 230) 12 64 fun v9 => gI M3 (some 230) 12 58 fun v10 => wI M3 v9 2 (nI a) v10 fun M6 => gR M6 (some 230) 12 59 fun v11 => gI M6 (some 230) 12 58 fun v12 => wL M6 v11 v12 (lN (cdN w h (sucS w h (tT τ x) (Q s) (q / 8) (q % 8)))) fun M7 => gI M7 (some 230) 12 58 fun v13 => pI M7 (some 230) 12 58 (v13 + (1 : Int32)) fun M8 => K M8) = K (sI (sL (sI M3 267 a (nI n)) 262 n (lN (cdN w h (sucS w h (tT τ x) (Q s) (q / 8) (q % 8))))) 230 58 (nI (n + 1))) := by
              intro K
              simp (disch := first | omega | (simp (disch := omega) only [↓litm, lit, tN_n, nI_add, pk_mul, pk_sub, pk_div, nI_remN, nI_remN', nI_eq, nI_leI, nI_ltI, nI_nm1, m1_nI, m1_m1, m1_le, m1_lt, le_m1, lt_m1, oI_n, oI_s, bS_inN, bS_addN, bS_delN, not_true_eq_false, not_false_eq_true, and_true, true_and, if_true, if_false, mT_sI, mT_sL, mT_sR, mR_sI, mR_sL, mI_sL, mI_sR, mL_sI, mL_sR, mI_e, mI_na, mI_nk, mL_e, mL_na, mL_nk, inB_n, s58]; done) | (simp (disch := omega) only [↓litm, lit, tN_n, nI_add, pk_mul, pk_sub, pk_div, nI_remN, nI_remN', nI_eq, nI_leI, nI_ltI, nI_nm1, m1_nI, m1_m1, m1_le, m1_lt, le_m1, lt_m1, oI_n, oI_s, bS_inN, bS_addN, bS_delN, not_true_eq_false, not_false_eq_true, and_true, true_and, if_true, if_false, mT_sI, mT_sL, mT_sR, mR_sI, mR_sL, mI_sL, mI_sR, mL_sI, mL_sR, mI_e, mI_na, mI_nk, mL_e, mL_na, mL_nk, inB_n, s58]; omega)) only [↓T_230 hl3, ly_r230_59 hl3, ly_r230_64 hl3, ↓A_262 hl3, ↓A_267 hl3, ↓e_gI, ↓e_gL, ↓e_gR, ↓e_pI, ↓e_pL, ↓e_pR, ↓e_cR, ↓e_aI, ↓e_aL, ↓e_aR, ↓e_wI, ↓e_wL, ↓e_aN, ↓t_sI, ↓t_sL, ↓t_sR, ↓q_sI, ↓q_sL, ↓q_sR, ↓n_sI, ↓n_sL, ↓n_sR, ↓cA_s, tv_0, tv_1, tv_n0, tv_n1, ↓nz_y, ↓reduceIte, mT_sI, mT_sL, mT_sR, mR_sI, mR_sL, mI_sL, mI_sR, mL_sI, mL_sR, mI_e, mI_na, mI_nk, mL_e, mL_na, mL_nk, ↓litm, lit, tN_n, nI_add, pk_mul, pk_sub, pk_div, nI_remN, nI_remN', nI_eq, nI_leI, nI_ltI, nI_nm1, m1_nI, m1_m1, m1_le, m1_lt, le_m1, lt_m1, oI_n, oI_s, bS_inN, bS_addN, bS_delN, not_true_eq_false, not_false_eq_true, and_true, true_and, if_true, if_false, s58]
            have hQ' : ∀ i, i < n → up1 Q n (sucS w h (tT τ x) (Q s) (q / 8) (q % 8)) i = Q i := fun i hi => up1_n (by omega)
            obtain ⟨k1, k2⟩ := keep (M' := sI (sI (sL (sI M3 267 a (nI n)) 262 n (lN (cdN w h (sucS w h (tT τ x) (Q s) (q / 8) (q % 8))))) 230 58 (nI (n + 1))) 264 (64 * s + q) (nI n)) (Q' := up1 Q n (sucS w h (tT τ x) (Q s) (q / 8) (q % 8))) (n' := n + 1) (by omega) hQ' (fun p hp => by rw [mI_nk hp, mI_na (by decide), mI_sL, mI_na (by decide)]; exact r264 p hp) (by rw [mI_na (by decide), mI_na (by decide), mI_sL, mI_na (by decide)]; exact r263) ⟨fun _ => ⟨n, by omega, mI_e, by rw [up1_s, up1_n (by omega)]⟩, fun e => absurd (by rw [hQ' s hs]; exact he) e⟩
            have hStm : StmOk w h (up1 Q n (sucS w h (tT τ x) (Q s) (q / 8) (q % 8))) (n + 1) (up1 t a (n + 1)) := by
              refine ⟨by omega, fun i hi => ?_, fun i j hi hj hij => ?_, ?_⟩
              · by_cases e : i = n
                · subst e; rw [up1_s]; exact okn
                · rw [up1_n e]; exact i3.2.1 i (by omega)
              · by_cases e : i = n
                · by_cases e' : j = n
                  · omega
                  · rw [e, up1_s, up1_n e'] at hij
                    exact absurd hij.symm (hne j (by omega))
                · by_cases e' : j = n
                  · rw [e', up1_s, up1_n e] at hij
                    exact absurd hij (hne i (by omega))
                  · rw [up1_n e, up1_n e'] at hij
                    exact i3.2.2.1 i j (by omega) (by omega) hij
              · have hT : Tab 8192 t n (fun i => kM w h (up1 Q n (sucS w h (tT τ x) (Q s) (q / 8) (q % 8)) i)) := i3.2.2.2.congr (fun i hi => by show kM w h (Q i) = kM w h (up1 Q n _ i); rw [up1_n (by omega)])
                have hn' : kM w h (up1 Q n (sucS w h (tT τ x) (Q s) (q / 8) (q % 8)) n) = kM w h (sucS w h (tT τ x) (Q s) (q / 8) (q % 8)) := by rw [up1_s]
                have := hT.add (d := d) dd1 (by rw [hn', ← dd2]; exact hz) (fun j hjk => by rw [hn']; exact dd3 j hjk)
                simp only [hn'] at this
                rw [← dd2] at this
                exact this
            have hStsC : StsM w h (up1 Q n (sucS w h (tT τ x) (Q s) (q / 8) (q % 8))) (n + 1) (up1 t a (n + 1)) (sI (sI (sL (sI M3 267 a (nI n)) 262 n (lN (cdN w h (sucS w h (tT τ x) (Q s) (q / 8) (q % 8))))) 230 58 (nI (n + 1))) 264 (64 * s + q) (nI n)) := by
              refine ⟨by rw [mI_na (by decide), mI_e], fun i hi => ?_, fun b hb => ?_⟩
              · rw [mL_sI, mL_sI]
                by_cases e : i = n
                · subst e; rw [mL_e, up1_s]
                · rw [mL_nk e, mL_sI, up1_n e]; exact hs3.2.1 i (by omega)
              · rw [mI_na (by decide), mI_na (by decide), mI_sL]
                by_cases e : b = a
                · subst e; rw [mI_e, up1_s]; rfl
                · rw [mI_nk e, up1_n e]; exact hs3.2.2 b hb
            have hb8 := hb3.fx (((Fx.wI (A := [262, 267]) (F := [(230, 58)]) (M := M3) (a := 267) (k := a) (v := nI n) (Or.inl (by decide))).L (a := 262) (k := n) (v := lN (cdN w h (sucS w h (tT τ x) (Q s) (q / 8) (q % 8)))) (Or.inl (by decide))).I (a := 230) (k := 58) (v := nI (n + 1)) (Or.inr (by decide))) (by decide) (by decide)
            have h267 : mI (sI (sL (sI M3 267 a (nI n)) 262 n (lN (cdN w h (sucS w h (tT τ x) (Q s) (q / 8) (q % 8))))) 230 58 (nI (n + 1))) 267 a = nI n := by rw [mI_na (by decide), mI_sL, mI_e]
            rw [if_neg (show ¬ nI n = (2000 : Int32) from nIne (b := 2000) (by omega) (by decide) h1n), step]
            unfold f_X12_laysStates_245
            rw [gR_t (ly_t230 hb8.lay), ly_r230_61 hb8.lay, gR_t (ly_t230 hb8.lay), ly_r230_64 hb8.lay, aI_t (ly_t267 hb8.lay) g2 (by decide), h267, e64, wI_t (ly_t264 hb8.lay) (by omega) (by decide), nI_1]
            have hrc := y_st106 hx g k f (q + 1) (up1 Q n (sucS w h (tT τ x) (Q s) (q / 8) (q % 8))) (n + 1) (up1 t a (n + 1)) (sI (sI (sL (sI M3 267 a (nI n)) 262 n (lN (cdN w h (sucS w h (tT τ x) (Q s) (q / 8) (q % 8))))) 230 58 (nI (n + 1))) 264 (64 * s + q) (nI n)) (by omega) (by omega) (by omega) ⟨hb3.fx fC (by decide) (by decide), hStsC, hStm, fun i hi => by
                by_cases e : i = n
                · subst e; rw [up1_s]; exact hrn
                · rw [up1_n e]; exact i4 i (by omega), k1, k2, by rw [mI_na (by decide), mI_na (by decide), mI_sL, mI_na (by decide)]; exact r231, _, b3.fx (((Fx.wI (A := [262, 264, 267]) (F := [(230, 58)]) (M := M3) (a := 267) (k := a) (v := nI n) (Or.inl (by decide))).L (a := 262) (k := n) (v := lN (cdN w h (sucS w h (tT τ x) (Q s) (q / 8) (q % 8)))) (Or.inl (by decide))).I (a := 230) (k := 58) (v := nI (n + 1)) (Or.inr (by decide)) |>.I (a := 264) (k := 64 * s + q) (v := nI n) (Or.inl (by decide))) (by decide) (by decide), okn⟩ (by rw [hQ' s hs]; exact hL3.fx fC (by decide) (by decide)) (by rw [mI_na (by decide), mI_na (by decide), mI_sL, mI_na (by decide), r263, hQ' s hs]; exact h263) ((fr.tr fA3).tr (fC.mono (by decide) (by decide)))
            rw [hQ' s hs] at hrc
            rcases hrc with ⟨Q2, n2, t2, M5, y1, y2, y3, y4, y5⟩ | y
            · exact Or.inl ⟨Q2, n2, t2, M5, y1, y2, y3, by omega, fun i hi => by rw [y5 i (by omega), hQ' i hi]⟩
            · exact Or.inr y
          · obtain rfl : n = 2000 := by omega
            rw [if_pos (by decide), tv_0]
            exact Or.inr ⟨M3, rfl, fr.tr fA3, Q, _, fun i hi => ⟨i3.2.1 i hi, i4 i hi⟩, i3.2.2.1, okn, hrn, hne⟩
end MST2
