/-! ===== the reference lays all states ===== -/
section MST4
variable {w h L : Nat} {s : Std} {τ : Nat → Txt}
theorem y_st2 {M0 : Mem} {v : Int32} (goal : Mem → Option (Int32 × Mem)) (hg : ∀ M, Fx [267] [] M0 M → (∀ j, j < 8192 → mI M 267 j = m1) → f_X12_laysStates_2 1 (some 230) (nI 8192) M = goal M) : ∀ (k f i : Nat) (M : Mem), i + k = 8192 → k < f → Bs w h L (stN s) τ M → Fx [267] [] M0 M → (∀ j, j < i → mI M 267 j = m1) → ∃ M', f_X12_laysStates_2 f (some 230) (nI i) M = goal M' ∧ Fx [267] [] M0 M' ∧ ∀ j, j < 8192 → mI M' 267 j = m1
  | k, 0, i, M => fun _ z => absurd z (by omega)
  | 0, f + 1, i, M => by
    intro hi _ hb fr hc
    obtain rfl : i = 8192 := by omega
    refine ⟨M, ?_, fr, hc⟩
    rw [← hg M fr hc, u_X12_laysStates_2]
    show b_X12_laysStates_2 _ _ _ _ = f_X12_laysStates_2 (0 + 1) (some 230) (nI 8192) M
    rw [u_X12_laysStates_2]
    unfold b_X12_laysStates_2
    rw [if_pos (by decide), if_pos (by decide)]
  | k + 1, f + 1, i, M => by
    intro hi hn hb fr hc
    have hl := hb.lay
    have f1 : Fx [267] [] M (sI M 267 i m1) := Fx.wI (Or.inl (by decide))
    obtain ⟨M', z1, z2, z3⟩ := y_st2 (v := v) goal hg k f (i + 1) (sI M 267 i m1) (by omega) (by omega) (hb.fx f1 (by decide) (by decide)) (fr.tr f1) (fun j hj => by
      by_cases q : j = i
      · subst q; rw [mI_e]
      · rw [mI_nk q]; exact hc j (by omega))
    refine ⟨M', ?_, z2, z3⟩
    rw [u_X12_laysStates_2]
    unfold b_X12_laysStates_2
    rw [if_neg (show ¬ (8192 : Int32) ≤ nI i from nI_ge (b := 8192) (by omega) (by decide)), gR_t (ly_t230 hl), ly_r230_64 hl, show (-1 : Int32) = m1 from rfl, wI_t (ly_t267 hl) (by omega) (by decide), nI_1]
    exact z1
/-- what the reference alone needs -/
def PreM (w h L : Nat) (s : Std) (τ : Nat → Txt) (M : Mem) : Prop := Bs w h L (stN s) τ M ∧ okSt w h s ∧ StM 231 s M
theorem PreM.fx2 {M M' : Mem} {A : List Nat} {F : List (Nat × Nat)} (hp : PreM w h L s τ M) (fr : Fx A F M M') (ha : (okA A && okF F && decide (231 ∉ A) && F.all (fun q => decide (q.1 ≠ 231))) = true) : PreM w h L s τ M' := by
  simp only [Bool.and_eq_true, decide_eq_true_eq, List.all_eq_true] at ha
  obtain ⟨⟨⟨h1, h2⟩, h3⟩, h4⟩ := ha
  exact ⟨hp.1.fx fr h1 h2, hp.2.1, hp.2.2.fx fr ⟨h3, h4⟩⟩
theorem Pre.m {M : Mem} (hp : Pre w h L s τ M) : PreM w h L s τ M := ⟨hp.1, hp.2.1, hp.2.2.2⟩
theorem y_statesM {M : Mem} (hp : PreM w h L s τ M) : (∃ Q n t M', f_X12_laysStates (some 230) M = some (nI 1, M') ∧ Fx syA syF M M' ∧ MoI w h L (stN s) τ (stB s) (stP s) Q n t n 0 M' ∧ 0 < n ∧ Q 0 = stP s) ∨ (∃ M', f_X12_laysStates (some 230) M = some (nI 0, M') ∧ Fx syA syF M M' ∧ Many w h (tT τ (stB s)) (stP s)) := by
  have hx := hp.2.1.2.1
  have ok := hp.2.1.1
  obtain ⟨M1, a1, a2, a3⟩ := y_st2 (v := 0) (L := L) (s := s) (τ := τ) (w := w) (h := h) (M0 := M) (fun M => f_X12_laysStates_2 1 (some 230) (nI 8192) M) (fun _ _ _ => rfl) 8192 FU 0 M (by omega) (by decide) hp.1 Fx.rf (fun j hj => absurd hj (by omega))
  have hp1 : PreM w h L s τ M1 := hp.fx2 a2 (by decide)
  have hl1 := hp1.1.lay
  obtain ⟨M2, b1, b2, b3⟩ := y_now hp1.1 hp1.2.2
  have hp2 : PreM w h L s τ M2 := hp1.fx2 b2 (by decide)
  have hl2 := hp2.1.lay
  have f3 : Fx [262] [] M2 (sL M2 262 0 (lN (cdN w h (stP s)))) := Fx.wL (Or.inl (by decide))
  have hp3 : PreM w h L s τ (sL M2 262 0 (lN (cdN w h (stP s)))) := hp2.fx2 f3 (by decide)
  have hl3 := hp3.1.lay
  have h267 : ∀ j, j < 8192 → mI (sL M2 262 0 (lN (cdN w h (stP s)))) 267 j = m1 := fun j hj => by rw [mI_sL, b2.ib (by decide)]; exact a3 j hj
  -- the table is empty: where the first one goes
  have fz : Fx [] [(230, 58)] (sL M2 262 0 (lN (cdN w h (stP s)))) (sI (sL M2 262 0 (lN (cdN w h (stP s)))) 230 58 (nI 0)) := Fx.wI (Or.inr (by decide))
  have hcell : ∃ a, f_X12_cellOf (some 230) (lN (cdN w h (stP s))) (sL M2 262 0 (lN (cdN w h (stP s)))) = some (nI a, sL M2 262 0 (lN (cdN w h (stP s)))) ∧ a = kM w h (stP s) := by
    refine ⟨kM w h (stP s), ?_, rfl⟩
    have hk := kM_lt w h (stP s)
    have hz := zM_bd w h (stP s)
    have one : f_X12_cellOf_30 FU (some 230) (lN (cdN w h (stP s))) (nI (kM w h (stP s))) (sL M2 262 0 (lN (cdN w h (stP s)))) = some (nI (kM w h (stP s)), sL M2 262 0 (lN (cdN w h (stP s)))) := by
      rw [show FU = 999999999 + 1 from rfl, u_X12_cellOf_30]
      unfold b_X12_cellOf_30
      rw [gR_t (ly_t230 hl3), ly_r230_64 hl3, aI_t (ly_t267 hl3) hk (by decide), h267 _ hk, if_pos (show m1 = -1 from rfl)]
    unfold f_X12_cellOf
    have er := kM_r w h (stP s)
    unfold mxM at er
    have n8192 : ∀ {X : Option (Int32 × Mem)}, nzL (8192 : Int64) X = X := by intro X; unfold nzL; rw [if_neg (by decide)]
    rw [n8192, er]
    by_cases h0 : 0 ≤ zM w h (stP s)
    · have ek : i32 (zM w h (stP s)) = nI (kM w h (stP s)) := by unfold kM; rw [if_pos h0, n_i32]; congr 1; omega
      rw [if_pos (by rw [ek]; exact nI_ge0 (by omega)), ek]
      exact one
    · have ek : i32 (zM w h (stP s)) + (8192 : Int32) = nI (kM w h (stP s)) := by
        unfold kM
        rw [if_neg h0, n_i32, show (8192 : Int32) = i32 8192 by decide, i32_add]
        congr 1
        omega
      rw [if_neg (fun q => h0 (by rw [i32_0] at q; exact (i32_le vl0.sm ⟨by omega, by omega⟩).mp q)), ek]
      exact one
  obtain ⟨a, c1, rfl⟩ := hcell
  have hk := kM_lt w h (stP s)
  have f4 : Fx [267] [(230, 58)] (sL M2 262 0 (lN (cdN w h (stP s)))) (sI (sI (sL M2 262 0 (lN (cdN w h (stP s)))) 267 (kM w h (stP s)) (nI 0)) 230 58 (nI 1)) := (Fx.wI (Or.inl (by decide))).I (Or.inr (by decide))
  have hp4a : PreM w h L s τ (sI (sL M2 262 0 (lN (cdN w h (stP s)))) 267 (kM w h (stP s)) (nI 0)) := hp3.fx2 (Fx.wI (A := [267]) (F := []) (Or.inl (by decide))) (by decide)
  have hp4 : PreM w h L s τ (sI (sI (sL M2 262 0 (lN (cdN w h (stP s)))) 267 (kM w h (stP s)) (nI 0)) 230 58 (nI 1)) := hp3.fx2 f4 (by decide)
  have hM4 : MPos (stP s) (sI (sI (sL M2 262 0 (lN (cdN w h (stP s)))) 267 (kM w h (stP s)) (nI 0)) 230 58 (nI 1)) := (b3.fx f3 (by decide) (by decide)).fx f4 (by decide) (by decide)
  have frA : Fx syA syF M (sI (sI (sL M2 262 0 (lN (cdN w h (stP s)))) 267 (kM w h (stP s)) (nI 0)) 230 58 (nI 1)) := (((a2.mono (by decide) (by decide)).tr (b2.mono (by decide) (by decide))).tr (f3.mono (by decide) (by decide))).tr (f4.mono (by decide) (by decide))
  have hI : MoI w h L (stN s) τ (stB s) (stP s) (fun _ => stP s) 1 (up1 (fun _ => 0) (kM w h (stP s)) 1) 0 0 (sI (sI (sL M2 262 0 (lN (cdN w h (stP s)))) 267 (kM w h (stP s)) (nI 0)) 230 58 (nI 1)) := by
    refine ⟨hp4.1, ⟨mI_e, fun i hi => ?_, fun b hb => ?_⟩, ⟨by omega, fun i hi => ok, fun i j hi hj _ => by omega, fun b hb => ?_, fun b c hb hc hbc hz => ?_, fun i hi => ⟨0, by decide, ?_, fun j hj => absurd hj (by omega)⟩⟩, fun i hi C h1 _ => h1, fun i hi => absurd hi (by omega), fun q hq => absurd hq (by omega), hp4.2.2.2.2.1, stP s, hM4, ok⟩
    · obtain rfl : i = 0 := by omega
      rw [mL_sI, mL_sI, mL_e]
    · rw [mI_na (by decide)]
      by_cases e : b = kM w h (stP s)
      · subst e; rw [mI_e, up1_s]; rfl
      · rw [mI_nk e, up1_n e, h267 b hb]; rfl
    · by_cases e : b = kM w h (stP s)
      · subst e; rw [up1_s]; omega
      · rw [up1_n e]; omega
    · by_cases e : b = kM w h (stP s)
      · by_cases e' : c = kM w h (stP s)
        · rw [e, e']
        · rw [e, up1_s, up1_n e'] at hbc; omega
      · rw [up1_n e] at hz; exact absurd rfl hz
    · obtain rfl : i = 0 := by omega
      show up1 (fun _ => 0) (kM w h (stP s)) 1 ((kM w h (stP s) + 0) % 8192) = 0 + 1
      rw [Nat.add_zero, Nat.mod_eq_of_lt hk, up1_s]
  have hd := y_st59 hx 2000 FU 0 _ 1 _ _ (by omega) (by decide) (by omega) hI frA
  have top : f_X12_laysStates (some 230) M = f_X12_laysStates_59 FU (some 230) (nI 0) (sI (sI (sL M2 262 0 (lN (cdN w h (stP s)))) 267 (kM w h (stP s)) (nI 0)) 230 58 (nI 1)) := by
    have a1 : f_X12_laysStates (some 230) M = f_X12_laysStates_2 (0 + 1) (some 230) (nI 8192) M1 := a1
    rw [a1, u_X12_laysStates_2]
    unfold b_X12_laysStates_2
    have hc0 : mL (sL M2 262 0 (lN (cdN w h (stP s)))) 262 0 = lN (cdN w h (stP s)) := mL_e
    rw [if_pos (by decide), cR_t (ly_t230 hl1), b1, cA_s, gR_t (ly_t230 hl2), ly_r230_59 hl2, cR_t (ly_t230 hl2), y_codeOf hp2.1 b3 ok.1, cA_s, show (0 : Int32) = nI 0 from rfl, wL_t (ly_t262 hl2) (by decide) (by decide), gR_t (ly_t230 hl3), ly_r230_64 hl3, gR_t (ly_t230 hl3), ly_r230_59 hl3, aL_t (ly_t262 hl3) (by decide) (by decide), hc0, cR_t (ly_t230 hl3), c1, cA_s, wI_t (ly_t267 hl3) hk (by decide), pI_t (ly_t230 hp4a.1.lay)]
    rfl
  rcases hd with ⟨Q, n, t, M', z1, z2, z3, z4, z5⟩ | ⟨M', z1, z2, z3⟩
  · exact Or.inl ⟨Q, n, t, M', by rw [top]; exact z1, z2, z3, by omega, z5 0 (by omega)⟩
  · exact Or.inr ⟨M', by rw [top]; exact z1, z2, z3⟩
end MST4
