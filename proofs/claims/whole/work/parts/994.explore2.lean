/-! ===== the class goes through all states: the loops ===== -/
section EXPLORE2
variable {w h L nt : Nat} {τ : Nat → Txt} {x : Option Nat} {r : Pos}
abbrev fA : List Nat := [213, 214, 215, 216, 219]
theorem x_ex77 {s : Nat} (hx : okX nt x) {M0 : Mem} : ∀ (k f dn : Nat) (sp : Bool) (Q : Nat → Pos) (n : Nat) (t : Nat → Nat) (M : Mem), dn + k = 8 → k < f → s < n → ExI w h L nt τ x r sp Q n t s (fun _ b => b < dn) M → mI M 212 s = nI (bS (opS w h (tT τ x) (Q s)) 8) → PosAt 218 (Q s) M → LookAt (lkB w h (tT τ x) (Q s)) M → Fx fA eF M0 M → ∃ sp' Q' n' t' M', f_X8_expand_77 f (some 211) (nI s) (nI dn) M = some ((), M') ∧ ExI w h L nt τ x r sp' Q' n' t' s (fun _ b => b < 8) M' ∧ mI M' 212 s = nI (bS (opS w h (tT τ x) (Q' s)) 8) ∧ Fx fA eF M0 M' ∧ n ≤ n' ∧ (∀ i, i < n → Q' i = Q i)
  | k, 0, dn, sp, Q, n, t, M => fun _ z => absurd z (by omega)
  | 0, f + 1, dn, sp, Q, n, t, M => by
    intro hdn _ hs hI h212 hP hL fr
    obtain rfl : dn = 8 := by omega
    refine ⟨sp, Q, n, t, M, ?_, hI, h212, fr, Nat.le_refl _, fun _ _ => rfl⟩
    rw [u_X8_expand_77]
    unfold b_X8_expand_77
    rw [if_pos (by decide)]
  | k + 1, f + 1, dn, sp, Q, n, t, M => by
    intro hdn hf hs hI h212 hP hL fr
    have hb := hI.1
    have hl := hb.lay
    have hok := hI.2.2.1
    have h2000 := hok.1
    rw [u_X8_expand_77]
    unfold b_X8_expand_77
    rw [if_neg (show ¬ (8 : Int32) ≤ nI dn from nI_ge (b := 8) (by omega) (by decide)), gR_t (ly_t211 hl), ly_r211_0 hl, aI_t (ly_t212 hl) (by omega) (by decide), h212]
    cases hop : opS w h (tT τ x) (Q s) dn with
    | false =>
      rw [if_pos ((bS_in (by decide) (by omega)).mpr hop), nI_1]
      refine x_ex77 hx k f (dn + 1) sp Q n t M (by omega) (by omega) hs (hI.weak (fun a b hab hed => ?_)) h212 hP hL fr
      rcases Nat.lt_or_ge b dn with z | z
      · exact z
      · obtain rfl : b = dn := by omega
        rw [hed.2.2.2.2] at hop
        cases hop
    | true =>
      have oks := hok.2.1 s hs
      have ht2 := oks.1.2.2.2
      obtain ⟨hcn, bb, hcan⟩ := abl_can (opS_abl hop)
      have hBl : lkB w h (tT τ x) (Q s) dn = canS w h (tT τ x) (Q s) dn := by unfold lkB; rw [if_pos (by simpa using hcn)]
      -- behind.take(here)
      have htk := x_take hP (ly_t219 hl)
      have fr1 : Fx [219] [] M (sI (sI (sL M 219 0 (lN (enc 4 (Q s).1 12))) 219 1 (nI (enc 2 (Q s).2.1 8))) 219 2 (nI (Q s).2.2)) := ((Fx.wL (Or.inl (by decide))).I (Or.inl (by decide))).I (Or.inl (by decide))
      have hP1 : PosAt 219 (Q s) (sI (sI (sL M 219 0 (lN (enc 4 (Q s).1 12))) 219 1 (nI (enc 2 (Q s).2.1 8))) 219 2 (nI (Q s).2.2)) := PosAt.took (ly_t219 hl)
      generalize hM1 : sI (sI (sL M 219 0 (lN (enc 4 (Q s).1 12))) 219 1 (nI (enc 2 (Q s).2.1 8))) 219 2 (nI (Q s).2.2) = M1 at *
      have hb1 := hb.fx fr1 (by decide) (by decide)
      have hL1 := hL.fx fr1 (by decide) (by decide)
      have hpf := x_perform hb1 hx oks hP1 hL1 (show dn < 8 by omega) hBl hcan
      have fr2 : Fx [219] [] M (sL M1 219 0 (lN (enc 4 (actS w h (tT τ x) (Q s) dn) 12))) := fr1.L (Or.inl (by decide))
      have hb2 := hb.fx fr2 (by decide) (by decide)
      have fr3 : Fx [219] [] M (sI (sL M1 219 0 (lN (enc 4 (actS w h (tT τ x) (Q s) dn) 12))) 219 2 (nI (1 - (Q s).2.2))) := fr2.I (Or.inl (by decide))
      have hP18 : mI (sL M1 219 0 (lN (enc 4 (actS w h (tT τ x) (Q s) dn) 12))) 218 2 = nI (Q s).2.2 := by rw [mI_sL, fr1.ib (by decide)]; exact hP.2.2.2
      have hP3 : PosAt 219 (actS w h (tT τ x) (Q s) dn, (Q s).2.1, 1 - (Q s).2.2) (sI (sL M1 219 0 (lN (enc 4 (actS w h (tT τ x) (Q s) dn) 12))) 219 2 (nI (1 - (Q s).2.2))) := ⟨by have := hP1.1; exact this, by rw [mL_sI, mL_e], by rw [mI_nk (by decide), mI_sL]; exact hP1.2.2.1, mI_e⟩
      obtain ⟨i1, i2, i3, i4, i4', i5, i6, i7⟩ := hI
      have hI3 : ExI w h L nt τ x r sp Q n t s (fun a b => b < dn ∨ (b = dn ∧ a < 0)) (sI (sL M1 219 0 (lN (enc 4 (actS w h (tT τ x) (Q s) dn) 12))) 219 2 (nI (1 - (Q s).2.2))) := by
        refine ⟨i1.fx fr3 (by decide) (by decide), i2.fx fr3 (by decide) (by decide) (by decide) (by decide), i3, by rw [fr3.i (by decide) (by decide)]; exact i4, by rw [fr3.2.2.1]; exact i4', i5, i6, fun hsp => ⟨fun i hi => ⟨by rw [fr3.ib (by decide)]; exact ((i7 hsp).1 i hi).1, fun a b hed => ?_⟩, fun a b hab hed => ?_⟩⟩
        · obtain ⟨j, j1, j2, j3⟩ := ((i7 hsp).1 i hi).2 a b hed
          exact ⟨j, j1, by rw [fr3.ib (by decide)]; exact j2, j3⟩
        · obtain ⟨j, j1, j2, j3⟩ := (i7 hsp).2 a b (by omega) hed
          exact ⟨j, j1, by rw [fr3.ib (by decide)]; exact j2, j3⟩
      obtain ⟨sp', Q', n', t', M4, z1, z2, z3, z4, z5, z6, z7⟩ := x_ex144 hx (show dn < 8 by omega) (f_X8_expand_77 f) 8 FU 0 sp Q n t _ (by omega) (by decide) hs hop hI3 (by rw [fr3.ib (by decide)]; exact h212) (hP.fx fr3 (by decide)) hP3 Fx.rf
      have hQs : Q' s = Q s := z7 s hs
      have fr4 : Fx fA eF M M4 := (fr3.mono (by decide) (by decide)).tr (z5.mono (by decide) (by decide))
      obtain ⟨sp2, Q2, n2, t2, M5, y1, y2, y3, y4, y5, y6⟩ := x_ex77 hx k f (dn + 1) sp' Q' n' t' M4 (by omega) (by omega) (by omega) z2 z3 z4 (by rw [hQs]; exact hL.fx fr4 (by decide) (by decide)) (fr.tr fr4)
      refine ⟨sp2, Q2, n2, t2, M5, ?_, y2, y3, y4, by omega, fun i hi => by rw [y6 i (by omega), z7 i hi]⟩
      rw [if_neg (fun z => by rw [bS_in (by decide) (by omega), hop] at z; cases z), gR_t (ly_t211 hl), ly_r211_10 hl, gR_t (ly_t211 hl), ly_r211_9 hl, cR_t (ly_t219 hl), htk, cA_s, gR_t (ly_t211 hb1.lay), ly_r211_7 hb1.lay, gR_t (ly_t211 hb1.lay), ly_r211_10 hb1.lay, gR_t (ly_t211 hb1.lay), show mR M1 211 11 = some (rT x) by rw [fr1.2.2.1]; exact i4', cR_t (ly_t203 hb1.lay), hpf, cA_s, gR_t (ly_t211 hb2.lay), ly_r211_10 hb2.lay, gR_t (ly_t211 hb2.lay), ly_r211_9 hb2.lay, gI_t (ly_t218 hb2.lay), hP18, pI_t (ly_t219 hb2.lay), show (1 : Int32) = nI 1 from rfl, pk_sub (by omega), show (0 : Int32) = nI 0 from rfl, z1]
      exact y1
abbrev xeA : List Nat := [201, 202, 204, 205, 206, 207, 212, 213, 214, 215, 216, 218, 219]
abbrev xeF : List (Nat × Nat) := [(203, 3), (211, 2), (211, 3)]
theorem bS_op {T : Txt} {π : Pos} : nI (bS (opS w h T π) 8) = if popC (ablS w h T π) 8 < 3 then nI 0 else nI (bS (ablS w h T π) 8) := by
  unfold opS
  by_cases ho : popC (ablS w h T π) 8 < 3
  · rw [if_pos ho]; simp only [ho, decide_true, Bool.not_true, Bool.false_and]; rw [bS_0]
  · rw [if_neg ho]; simp only [ho, decide_false, Bool.not_false, Bool.true_and]
theorem x_expand {s : Nat} (hx : okX nt x) {Q : Nat → Pos} {n : Nat} {t : Nat → Nat} {M : Mem} (hs : s < n) (hI : ExI w h L nt τ x r false Q n t s (fun _ _ => False) M) : ∃ sp' Q' n' t' M', f_X8_expand (some 211) (nI s) M = some ((), M') ∧ ExI w h L nt τ x r sp' Q' n' t' (s + 1) (fun _ _ => False) M' ∧ Fx xeA xeF M M' ∧ n ≤ n' ∧ (∀ i, i < n → Q' i = Q i) := by
  have hb := hI.1
  have hl := hb.lay
  obtain ⟨i1, i2, i3, i4, i4', i5, i6, i7⟩ := id hI
  have h2000 := i3.1
  have oks := i3.2.1 s hs
  obtain ⟨v1, v2⟩ := i2.2.1 s hs
  have hpa : isPA 218 := by unfold isPA; omega
  -- here
  have hbt := x_setBT oks.1 (ly_t218 hl)
  have frA : Fx [218] [] M (sL (sI M 218 2 (nI (Q s).2.2)) 218 0 (lN (enc 4 (Q s).1 12))) := (Fx.wI (Or.inl (by decide))).L (Or.inl (by decide))
  have hbA := hb.fx frA (by decide) (by decide)
  have frB : Fx [218] [] M (sI (sL (sI M 218 2 (nI (Q s).2.2)) 218 0 (lN (enc 4 (Q s).1 12))) 218 1 (nI (enc 2 (Q s).2.1 8))) := frA.I (Or.inl (by decide))
  have hbB := hb.fx frB (by decide) (by decide)
  have hPB : PosAt 218 (Q s) (sI (sL (sI M 218 2 (nI (Q s).2.2)) 218 0 (lN (enc 4 (Q s).1 12))) 218 1 (nI (enc 2 (Q s).2.1 8))) := ⟨ly_t218 hbB.lay, by rw [mL_sI, mL_e], mI_e, by rw [mI_nk (by decide), mI_sL, mI_e]⟩
  have hv2 : mI (sL (sI M 218 2 (nI (Q s).2.2)) 218 0 (lN (enc 4 (Q s).1 12))) 215 s = nI (enc 2 (Q s).2.1 8) := by rw [mI_sL, mI_na (by decide)]; exact v2
  generalize hMB : sI (sL (sI M 218 2 (nI (Q s).2.2)) 218 0 (lN (enc 4 (Q s).1 12))) 218 1 (nI (enc 2 (Q s).2.1 8)) = MB at *
  obtain ⟨MC, l1, l2, l3⟩ := x_look (μ := fun m => decide (0 < (Q s).2.1 m)) hbB hx oks.1 hpa hPB
  have l3 : LookAt (lkB w h (tT τ x) (Q s)) MC := l3
  have hbC := hbB.fx l2 (by decide) (by decide)
  have hlC := hbC.lay
  have hfew := x_tooFew hbC l3.abl
  have frC : Fx xeA xeF M MC := (frB.mono (by decide) (by decide)).tr (l2.mono (by decide) (by decide))
  have frD : Fx xeA xeF M (sI MC 212 s (nI (bS (opS w h (tT τ x) (Q s)) 8))) := frC.I (Or.inl (by decide))
  have frD2 : Fx [212] [] MC (sI MC 212 s (nI (bS (opS w h (tT τ x) (Q s)) 8))) := Fx.wI (Or.inl (by decide))
  have frE : Fx [201, 202, 204, 205, 206, 207, 218] [(203, 3)] M MC := (frB.mono (by decide) (by decide)).tr (l2.mono (by decide) (by decide))
  have hID : ExI w h L nt τ x r false Q n t s (fun _ b => b < 0) (sI MC 212 s (nI (bS (opS w h (tT τ x) (Q s)) 8))) := by
    refine ⟨i1.fx frD (by decide) (by decide), (i2.fx frE (by decide) (by decide) (by decide) (by decide)).fx frD2 (by decide) (by decide) (by decide) (by decide), i3, by rw [mI_na (by decide), frE.i (by decide) (by decide)]; exact i4, by rw [mR_sI, frC.2.2.1]; exact i4', i5, i6, fun _ => ⟨fun i hi => ⟨?_, fun a b hed => ?_⟩, fun a b hab => absurd hab (by omega)⟩⟩
    · rw [mI_nk (by omega), frE.ib (by decide)]
      exact ((i7 rfl).1 i hi).1
    · obtain ⟨j, j1, j2, j3⟩ := ((i7 rfl).1 i hi).2 a b hed
      exact ⟨j, j1, by rw [mI_na (by decide), frE.ib (by decide)]; exact j2, j3⟩
  obtain ⟨sp', Q', n', t', ME, z1, z2, z3, z4, z5, z6⟩ := x_ex77 hx 8 FU 0 false Q n t _ (by omega) (by decide) hs hID mI_e ((hPB.fx l2 (pa_x hpa)).fx frD2 (by decide)) (l3.fx frD2 (by decide) (by decide)) Fx.rf
  have hQs : Q' s = Q s := z6 s hs
  refine ⟨sp', Q', n', t', ME, ?_, ?_, frD.tr (z4.mono (by decide) (by decide)), z5, z6⟩
  · unfold f_X8_expand
    rw [gR_t (ly_t211 hl), ly_r211_9 hl, gR_t (ly_t211 hl), ly_r211_4 hl, aL_t (ly_t214 hl) (by omega) (by decide), v1, cR_t (ly_t218 hl), hbt, cA_s, gR_t (ly_t211 hbA.lay), ly_r211_9 hbA.lay, gR_t (ly_t211 hbA.lay), ly_r211_5 hbA.lay, aI_t (ly_t215 hbA.lay) (by omega) (by decide), hv2, pI_t (ly_t218 hbA.lay), hMB, gR_t (ly_t211 hbB.lay), ly_r211_7 hbB.lay, gR_t (ly_t211 hbB.lay), ly_r211_9 hbB.lay, gR_t (ly_t211 hbB.lay), show mR MB 211 11 = some (rT x) by rw [frB.2.2.1]; exact i4', gR_t (ly_t211 hbB.lay), ly_r211_9 hbB.lay, cR_t (ly_t218 hbB.lay), x_stock hPB oks.1, cA_s, cR_t (ly_t203 hbB.lay), l1, cA_s, gR_t (ly_t211 hlC), ly_r211_0 hlC, gR_t (ly_t211 hlC), ly_r211_7 hlC, cR_t (ly_t203 hlC), hfew, cA_s]
    rw [bS_op] at z1
    by_cases ho : popC (ablS w h (tT τ x) (Q s)) 8 < 3
    · rw [if_pos ho, if_neg (by decide), show (0 : Int32) = nI 0 from rfl, wI_t (ly_t212 hlC) (by omega) (by decide)]
      rw [if_pos ho] at z1
      exact z1
    · rw [if_neg ho, if_pos (by decide), gR_t (ly_t211 hlC), ly_r211_7 hlC, gI_t (ly_t203 hlC), l3.abl, wI_t (ly_t212 hlC) (by omega) (by decide), show (0 : Int32) = nI 0 from rfl]
      rw [if_neg ho] at z1
      exact z1
  · obtain ⟨y1, y2, y3, y4, y4', y5, y6, y7⟩ := z2
    refine ⟨y1, y2, y3, y4, y4', y5, y6, fun hsp => ⟨fun i hi => ?_, fun a b hab => absurd hab (by simp)⟩⟩
    by_cases e : i = s
    · subst e
      exact ⟨z3, fun a b hed => (y7 hsp).2 a b hed.2.1 hed⟩
    · exact (y7 hsp).1 i (by omega)
theorem x_explore_l (hx : okX nt x) {M0 : Mem} : ∀ (k f s : Nat) (sp : Bool) (Q : Nat → Pos) (n : Nat) (t : Nat → Nat) (M : Mem), s + k = 2000 → k < f → s ≤ n → ExI w h L nt τ x r sp Q n t s (fun _ _ => False) M → Fx xeA xeF M0 M → ∃ sp' Q' n' t' M', f_X8_explore_46 f (some 211) (nI s) M = some ((), M') ∧ Fx xeA xeF M0 M' ∧ ExI w h L nt τ x r sp' Q' n' t' n' (fun _ _ => False) M' ∧ n ≤ n' ∧ (∀ i, i < n → Q' i = Q i)
  | k, 0, s, sp, Q, n, t, M => fun _ z => absurd z (by omega)
  | k, f + 1, s, sp, Q, n, t, M => by
    intro hk hf hsn hI fr
    have hb := hI.1
    have hl := hb.lay
    have h2000 := hI.2.2.1.1
    rw [u_X8_explore_46]
    unfold b_X8_explore_46
    by_cases hT : 2000 ≤ s
    · obtain rfl : s = n := by omega
      rw [if_pos (show (2000 : Int32) ≤ nI s from nI_le (a := 2000) hT (by omega))]
      exact ⟨sp, Q, s, t, M, rfl, fr, hI, Nat.le_refl _, fun _ _ => rfl⟩
    rw [if_neg (show ¬ (2000 : Int32) ≤ nI s from nI_ge (b := 2000) (by omega) (by decide)), gI_t (ly_t211 hl), hI.2.1.1]
    rcases Nat.lt_or_ge s n with q | q
    · rw [if_neg (nI_ge q (by omega)), gI_t (ly_t211 hl), hI.2.2.2.1]
      cases sp with
      | true =>
        rw [if_neg (by decide)]
        obtain ⟨i1, i2, i3, i4, i4', i5, i6, i7⟩ := hI
        exact ⟨true, Q, n, t, M, rfl, fr, ⟨i1, i2, i3, i4, i4', i5, i6, fun z => by cases z⟩, Nat.le_refl _, fun _ _ => rfl⟩
      | false =>
        rw [if_pos (by decide), cR_t (ly_t211 hl)]
        obtain ⟨sp', Q', n', t', M', z1, z2, z3, z4, z5⟩ := x_expand hx q hI
        rw [z1, cA_s, nI_1]
        have hk1 : 1 ≤ k := by omega
        obtain ⟨k', rfl⟩ : ∃ k', k = k' + 1 := ⟨k - 1, by omega⟩
        obtain ⟨sp2, Q2, n2, t2, M2, y1, y2, y3, y4, y5⟩ := x_explore_l hx k' f (s + 1) sp' Q' n' t' M' (by omega) (by omega) (by omega) z2 (fr.tr z3)
        exact ⟨sp2, Q2, n2, t2, M2, y1, y2, y3, by omega, fun i hi => by rw [y5 i (by omega), z5 i hi]⟩
    · obtain rfl : s = n := by omega
      rw [if_pos (Int32.le_refl _)]
      exact ⟨sp, Q, s, t, M, rfl, fr, hI, Nat.le_refl _, fun _ _ => rfl⟩
end EXPLORE2
