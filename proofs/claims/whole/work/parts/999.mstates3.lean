/-! ===== all states, in both ===== -/
/-- a row of positions that is closed -/
def Cls (w h : Nat) (T : Txt) (r : Pos) (Q : Nat → Pos) (n : Nat) : Prop := n ≤ 2000 ∧ (∀ i, i < n → okN w h (Q i) ∧ Rch w h T r (Q i)) ∧ (∀ i j, i < n → j < n → Q i = Q j → i = j) ∧ (0 < n ∧ Q 0 = r) ∧ ∀ i no dn, i < n → Edg w h T (Q i) no dn → ∃ j, j < n ∧ Q j = sucS w h T (Q i) no dn
theorem Cls.mem {w h n : Nat} {T : Txt} {r π : Pos} {Q : Nat → Pos} (hc : Cls w h T r Q n) (hr : Rch w h T r π) : ∃ i, i < n ∧ Q i = π :=
  hr (fun p => ∃ i, i < n ∧ Q i = p) ⟨0, hc.2.2.2.1.1, hc.2.2.2.1.2⟩ (fun p no dn ⟨i, h1, h2⟩ he => by
    subst h2
    exact hc.2.2.2.2 i no dn h1 he)
theorem Cls.le {w h n n' : Nat} {T : Txt} {r : Pos} {Q Q' : Nat → Pos} (hc : Cls w h T r Q n) (hc' : Cls w h T r Q' n') : n ≤ n' := by
  have hm : ∀ i, i < n → ∃ j, j < n' ∧ Q' j = Q i := fun i hi => hc'.mem (hc.2.1 i hi).2
  refine pigeon n' n (fun i => if hi : i < n then Classical.choose (hm i hi) else 0) (fun i hi => ?_) (fun i j hi hj hij => ?_)
  · show (if hi : i < n then Classical.choose (hm i hi) else 0) < n'
    rw [dif_pos hi]
    exact (Classical.choose_spec (hm i hi)).1
  · have hij : (if hi : i < n then Classical.choose (hm i hi) else 0) = (if hj : j < n then Classical.choose (hm j hj) else 0) := hij
    rw [dif_pos hi, dif_pos hj] at hij
    have e1 := (Classical.choose_spec (hm i hi)).2
    have e2 := (Classical.choose_spec (hm j hj)).2
    rw [hij, e2] at e1
    exact hc.2.2.1 i j hi hj e1.symm
theorem Cls.eq {w h n n' : Nat} {T : Txt} {r : Pos} {Q Q' : Nat → Pos} (hc : Cls w h T r Q n) (hc' : Cls w h T r Q' n') : n = n' := Nat.le_antisymm (hc.le hc') (hc'.le hc)
theorem Cls.few {w h n : Nat} {T : Txt} {r : Pos} {Q : Nat → Pos} (hc : Cls w h T r Q n) (hm : Many w h T r) : False := by
  obtain ⟨P, π, h1, h2, h3, h4, h5⟩ := hm
  have hR : ∀ i, i < 2001 → Rch w h T r (if i < 2000 then P i else π) := fun i _ => by
    split
    · rename_i q; exact (h1 i q).2
    · exact h4
  have hx : ∀ i, i < 2001 → ∃ j, j < n ∧ Q j = (if i < 2000 then P i else π) := fun i hi => hc.mem (hR i hi)
  have := pigeon n 2001 (fun i => if hi : i < 2001 then Classical.choose (hx i hi) else 0) (fun i hi => by
    show (if hi : i < 2001 then Classical.choose (hx i hi) else 0) < n
    rw [dif_pos hi]
    exact (Classical.choose_spec (hx i hi)).1) (fun i j hi hj hij => by
    have hij : (if hi : i < 2001 then Classical.choose (hx i hi) else 0) = (if hj : j < 2001 then Classical.choose (hx j hj) else 0) := hij
    rw [dif_pos hi, dif_pos hj] at hij
    have e1 := (Classical.choose_spec (hx i hi)).2
    have e2 := (Classical.choose_spec (hx j hj)).2
    rw [hij, e2] at e1
    by_cases q1 : i < 2000
    · by_cases q2 : j < 2000
      · rw [if_pos q1, if_pos q2] at e1
        exact h2 i j q1 q2 e1.symm
      · rw [if_pos q1, if_neg q2] at e1
        exact absurd e1.symm (h5 i q1)
    · by_cases q2 : j < 2000
      · rw [if_neg q1, if_pos q2] at e1
        exact absurd e1 (h5 j q2)
      · omega)
  have := hc.1
  omega
section MST3
variable {w h L nt : Nat} {τ : Nat → Txt} {x : Option Nat} {r : Pos}
/-- what the class knows behind its walk -/
theorem ExI.cls {Q : Nat → Pos} {n : Nat} {t : Nat → Nat} {M : Mem} (hI : ExI w h L nt τ x r false Q n t n (fun _ _ => False) M) (h0 : 0 < n) (hr : Q 0 = r) : Cls w h (tT τ x) r Q n := by
  obtain ⟨i1, i2, i3, i4, i4', i5, i6, i7⟩ := hI
  exact ⟨i3.1, fun i hi => ⟨i3.2.1 i hi, i5 i hi⟩, i3.2.2.1, ⟨h0, hr⟩, fun i no dn hi he => by
    obtain ⟨j, j1, -, j3⟩ := ((i7 rfl).1 i hi).2 no dn he
    exact ⟨j, j1, j3⟩⟩
theorem ExI.many {Q : Nat → Pos} {n s : Nat} {t : Nat → Nat} {P : Nat → Nat → Prop} {M : Mem} (hI : ExI w h L nt τ x r true Q n t s P M) : Many w h (tT τ x) r := by
  obtain ⟨i1, i2, i3, i4, i4', i5, i6, i7⟩ := hI
  obtain ⟨rfl, π, p1, p2, p3⟩ := i6 rfl
  exact ⟨Q, π, fun i hi => ⟨i3.2.1 i hi, i5 i hi⟩, i3.2.2.1, p1, p2, p3⟩
theorem MoI.cls {Q : Nat → Pos} {n : Nat} {t : Nat → Nat} {M : Mem} (hI : MoI w h L nt τ x r Q n t n 0 M) (h0 : 0 < n) (hr : Q 0 = r) : Cls w h (tT τ x) r Q n := by
  obtain ⟨i1, i2, i3, i4, i5, -⟩ := hI
  exact ⟨i3.1, fun i hi => ⟨i3.2.1 i hi, i4 i hi⟩, i3.2.2.1, ⟨h0, hr⟩, fun i no dn hi he => by
    have e1 := he.1
    have e2 := he.2.1
    have hq := (i5 i hi).2 (8 * no + dn) (by omega)
    unfold FolM at hq
    rw [show (8 * no + dn) / 8 = no by omega, show (8 * no + dn) % 8 = dn by omega] at hq
    obtain ⟨j, j1, -, j3⟩ := hq.1 he
    exact ⟨j, j1, j3⟩⟩
theorem y_st59 (hx : okX nt x) {M0 : Mem} : ∀ (k f s : Nat) (Q : Nat → Pos) (n : Nat) (t : Nat → Nat) (M : Mem), s + k = 2000 → k < f → s ≤ n → MoI w h L nt τ x r Q n t s 0 M → Fx syA syF M0 M → (∃ Q' n' t' M', f_X12_laysStates_59 f (some 230) (nI s) M = some (nI 1, M') ∧ Fx syA syF M0 M' ∧ MoI w h L nt τ x r Q' n' t' n' 0 M' ∧ n ≤ n' ∧ (∀ i, i < n → Q' i = Q i)) ∨ (∃ M', f_X12_laysStates_59 f (some 230) (nI s) M = some (nI 0, M') ∧ Fx syA syF M0 M' ∧ Many w h (tT τ x) r)
  | k, 0, s, Q, n, t, M => fun _ z => absurd z (by omega)
  | k, f + 1, s, Q, n, t, M => by
    intro hk hf hsn hI fr
    obtain ⟨i1, i2, i3, i4, i5, i6, i7, π0, i8, i9⟩ := id hI
    have hl := i1.lay
    have h2000 := i3.1
    rw [u_X12_laysStates_59]
    unfold b_X12_laysStates_59
    rw [gI_t (ly_t230 hl), i2.1]
    rcases Nat.lt_or_ge s n with q | q
    · have oks := i3.2.1 s q
      obtain ⟨M1, a1, a2, a3⟩ := y_laysState i1 i8 i9 oks
      have hb1 := i1.fx a2 (by decide) (by decide)
      obtain ⟨M2, b1, b2, b3⟩ := y_moves hb1 a3 oks hx (by rw [a2.ib (by decide)]; exact i7)
      have hb2 := hb1.fx b2 (by decide) (by decide)
      have fr2 : Fx [252, 253, 254, 255, 256, 257, 258] [(230, 45), (230, 46), (230, 47), (230, 48), (230, 49)] M M2 := (a2.mono (by decide) (by decide)).tr (b2.mono (by decide) (by decide))
      have f3 : Fx [263] [] M2 (sI M2 263 s (nI (bS (opS w h (tT τ x) (Q s)) 8))) := Fx.wI (Or.inl (by decide))
      have fr3 : Fx syA syF M (sI M2 263 s (nI (bS (opS w h (tT τ x) (Q s)) 8))) := (fr2.mono (by decide) (by decide)).tr (f3.mono (by decide) (by decide))
      have hI3 : MoI w h L nt τ x r Q n t s 0 (sI M2 263 s (nI (bS (opS w h (tT τ x) (Q s)) 8))) := by
        refine ⟨hb2.fx f3 (by decide) (by decide), (i2.fx fr2 (by decide) (by decide) (by decide)).fx f3 (by decide) (by decide) (by decide), i3, i4, fun i hi => ⟨by rw [mI_nk (by omega), fr2.ib (by decide)]; exact (i5 i hi).1, fun p hp => ?_⟩, fun p hp => absurd hp (by omega), by rw [mI_na (by decide), fr2.ib (by decide)]; exact i7, Q s, (a3.fx b2 (by decide) (by decide)).fx f3 (by decide) (by decide), oks⟩
        have hF := (i5 i hi).2 p hp
        unfold FolM at hF ⊢
        rw [mI_na (by decide), fr2.ib (by decide)]
        exact hF
      have hrun := y_st106 hx (f_X12_laysStates_59 f) 64 FU 0 Q n t _ (by omega) (by decide) q hI3 (b3.fx f3 (by decide) (by decide)) mI_e (fr.tr fr3)
      have pre : (gR M (some 230) 12 59 fun v2 => aL M v2 (nI s) fun v3 => cR M (some 230) (1, 12) (cA (f_X12_laysState (some 230) v3 M) fun _ M1 => cR M1 (some 230) (1, 12) (cA (f_X12_laysMoves (some 230) M1) fun _ M2 => cR M2 (some 230) (1, 12) (cA (f_X12_isOver (some 230) M2) fun v4 M3 => (if v4 = 0 then gI M3 (some 230) 12 49 fun v5 => gR M3 (some 230) 12 60 fun v6 => wI M3 v6 2 (nI s) v5 fun M4 => f_X12_laysStates_106 (f_X12_laysStates_59 f) FU (some 230) (nI s) v5 (0 : Int32) M4 else gR M3 (some 230) 12 60 fun v7 => wI M3 v7 2 (nI s) (0 : Int32) fun M5 => f_X12_laysStates_106 (f_X12_laysStates_59 f) FU (some 230) (nI s) (0 : Int32) (0 : Int32) M5))))) = f_X12_laysStates_106 (f_X12_laysStates_59 f) FU (some 230) (nI s) (nI (bS (opS w h (tT τ x) (Q s)) 8)) (nI 0) (sI M2 263 s (nI (bS (opS w h (tT τ x) (Q s)) 8))) := by
        rw [gR_t (ly_t230 hl), ly_r230_59 hl, aL_t (ly_t262 hl) (by omega) (by decide), i2.2.1 s q, cR_t (ly_t230 hl), a1, cA_s, cR_t (ly_t230 hb1.lay), b1, cA_s, cR_t (ly_t230 hb2.lay), y_isOver hb2 b3, cA_s, bS_op]
        by_cases ho : popC (ablS w h (tT τ x) (Q s)) 8 < 3
        · rw [if_pos ho, if_neg (by decide), gR_t (ly_t230 hb2.lay), ly_r230_60 hb2.lay, wI_t (ly_t263 hb2.lay) (by omega) (by decide), if_pos ho]
          rfl
        · rw [if_neg ho, if_pos (by decide), gI_t (ly_t230 hb2.lay), laid_abl b3, gR_t (ly_t230 hb2.lay), ly_r230_60 hb2.lay, wI_t (ly_t263 hb2.lay) (by omega) (by decide), if_neg ho]
          rfl
      rw [if_neg (nI_ge q (by omega)), pre]
      rcases hrun with ⟨Q', n', t', M', z1, z2, z3, z4, z5⟩ | ⟨M', z1, z2, z3⟩
      · rw [z1]
        obtain ⟨k', rfl⟩ : ∃ k', k = k' + 1 := ⟨k - 1, by omega⟩
        rcases y_st59 hx k' f (s + 1) Q' n' t' M' (by omega) (by omega) (by omega) z2 z3 with ⟨Q2, n2, t2, M2', y1, y2, y3, y4, y5⟩ | y
        · exact Or.inl ⟨Q2, n2, t2, M2', y1, y2, y3, by omega, fun i hi => by rw [y5 i (by omega), z5 i hi]⟩
        · exact Or.inr y
      · exact Or.inr ⟨M', z1, z2, z3⟩
    · obtain rfl : s = n := by omega
      rw [if_pos (Int32.le_refl _), tv_1]
      exact Or.inl ⟨Q, s, t, M, rfl, fr, hI, Nat.le_refl _, fun _ _ => rfl⟩
end MST3
