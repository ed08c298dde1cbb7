/-! ===== states, best, good, loses ===== -/
abbrev FR (w h : Nat) (T : Txt) (π : Pos) : Nat := rsS (opS w h T) (sucS w h T) 2000 π
abbrev FT (w h : Nat) (T : Txt) (π : Pos) : Nat := tiS (opS w h T) (sucS w h T) 2000 π
theorem FT_le {w h : Nat} {T : Txt} {π : Pos} : FT w h T π ≤ 2000 := tm_le 2000 π
theorem FR_le {w h : Nat} {T : Txt} {π : Pos} : FR w h T π ≤ 2 := rs_le 2000 π
def Rel (w h L : Nat) (s s' : Std) (τ : Nat → Txt) (tp : Nat → Nat) (ln : Nat) (fl fp : Int32) (M : Mem) : Prop := Rel0 w h L s s' τ tp ln fl fp M ∧ Cch w h (stN s) τ M
section CSOLVE
variable {w h L : Nat} {s s' : Std} {τ : Nat → Txt} {tp : Nat → Nat} {ln : Nat} {fl fp : Int32} {M : Mem}
theorem Pre.r11 {v : Option Nat} (hp : Pre w h L s τ M) : Pre w h L s τ (sR M 211 11 v) := ⟨hp.1.r11, hp.2.1, hp.2.2.1, hp.2.2.2⟩
theorem Rel0.r11 {v : Option Nat} (hr : Rel0 w h L s s' τ tp ln fl fp M) : Rel0 w h L s s' τ tp ln fl fp (sR M 211 11 v) := ⟨hr.1.r11, hr.2⟩
theorem Rel0.fx {A : List Nat} {F : List (Nat × Nat)} {M' : Mem} (hr : Rel0 w h L s s' τ tp ln fl fp M) (fr : Fx A F M M') (ho : okR A F = true) (ha : (okA A && okF F && decide (9 ∉ A) && decide (10 ∉ A) && decide (11 ∉ A) && decide (12 ∉ A) && decide (231 ∉ A) && F.all (fun q => decide (q.1 ≠ 9) && decide (q.1 ≠ 10) && decide (q.1 ≠ 11) && decide (q.1 ≠ 12) && decide (q.1 ≠ 231))) = true) : Rel0 w h L s s' τ tp ln fl fp M' := hr.rest fr ho (hr.1.fx2 fr ha) rfl
/-- the form in which the calls of this kind end -/
def EndC (w h L : Nat) (s s' : Std) (τ : Nat → Txt) (tp : Nat → Nat) (ln : Nat) (fl fp : Int32) (M : Mem) (fX fY : Mem → Option (Int32 × Mem)) : Prop := ∃ r M1 M2, fX M = some (r, M1) ∧ fY M1 = some (r, M2) ∧ Rel w h L s s' τ tp ln fl fp M2
theorem x_slv (hr : Rel w h L s s' τ tp ln fl fp M) : ∃ v M1, f_X11_solved (some 8) (some 10) M = some (nI v, M1) ∧ Rel w h L s s' τ tp ln fl fp M1 ∧ Sol w h τ (stB s) (stP s) v M1 := by
  obtain ⟨hr, hC⟩ := hr
  have hp := hr.1
  obtain ⟨v, M1, a1, a2, a3⟩ := x_solved hp.1 hp.2.1.2.1 hC (Or.inl rfl) hp.2.2.1.1 hp.2.1.1 hp.2.2.1.2.2.2.2.2.2
  exact ⟨v, M1, a1, ⟨hr.r11.fx a2 (by decide) (by decide), Or.inr ⟨stB s, stP s, v, hp.2.1.2.1, hp.2.1.1, a3⟩⟩, a3⟩
theorem Rel.fy {A : List Nat} {F : List (Nat × Nat)} {M' : Mem} (hr : Rel w h L s s' τ tp ln fl fp M) (fr : Fx A F M M') (ho : okR A F = true) (ha : (okA A && okF F && decide (9 ∉ A) && decide (10 ∉ A) && decide (11 ∉ A) && decide (12 ∉ A) && decide (231 ∉ A) && F.all (fun q => decide (q.1 ≠ 9) && decide (q.1 ≠ 10) && decide (q.1 ≠ 11) && decide (q.1 ≠ 12) && decide (q.1 ≠ 231))) = true) (hs : okW A F = true) : Rel w h L s s' τ tp ln fl fp M' := ⟨hr.1.fx fr ho ha, hr.2.fx fr hs⟩
/-- both have decided -/
theorem y_slv {v : Nat} (hr : Rel w h L s s' τ tp ln fl fp M) (hs : Sol w h τ (stB s) (stP s) v M) : (v = 1 ∧ ∃ Q n tg Q' n' tg' M2, f_X12_laysResults (some 230) M = some (nI 1, M2) ∧ Rel w h L s s' τ tp ln fl fp M2 ∧ Fx ryA syF M M2 ∧ SolX w h (tT τ (stB s)) (stP s) Q n tg M ∧ SolM w h (tT τ (stB s)) (stP s) Q' n' tg' M2 ∧ RsM n' (fun i => FR w h (tT τ (stB s)) (Q' i)) (fun i => FT w h (tT τ (stB s)) (Q' i)) M2) ∨ (v = 0 ∧ ∃ M2, f_X12_laysResults (some 230) M = some (nI 0, M2) ∧ Rel w h L s s' τ tp ln fl fp M2) := by
  rcases y_results hr.1.1.m hs.stb with ⟨Q', n', tg', M2, a1, a2, a3, a4⟩ | ⟨M2, a1, a2, a3⟩
  · rcases hs.2.2 with ⟨-, -, hm⟩ | ⟨rfl, -, Q, n, tg, hS⟩
    · exact (a3.1.few hm).elim
    · exact Or.inl ⟨rfl, Q, n, tg, Q', n', tg', M2, a1, hr.fy a2 (by decide) (by decide) (by decide), a2, hS, a3, a4⟩
  · rcases hs.2.2 with ⟨rfl, -, hm⟩ | ⟨rfl, -, Q, n, tg, hS⟩
    · exact Or.inr ⟨rfl, M2, a1, hr.fy a2 (by decide) (by decide) (by decide)⟩
    · exact (hS.1.few a3).elim
theorem c_states (hr : Rel w h L s s' τ tp ln fl fp M) : EndC w h L s s' τ tp ln fl fp M (f_X11_states (some 8)) (f_X12_states (some 230)) := by
  have hl := hr.1.1.1.lay
  obtain ⟨v, M1, a1, a2, a3⟩ := x_slv hr
  have hl1 := a2.1.1.1.lay
  have ex : ∀ r, (v = 0 → r = -2) → (v = 1 → mI M1 211 2 = r) → v < 2 → f_X11_states (some 8) M = some (r, M1) := by
    intro r h0 h1 h2
    unfold f_X11_states
    rw [gR_t (ly_t8 hl), ly_r8_2 hl, gR_t (ly_t9 hl), ly_r9_0 hl, cR_t (ly_t8 hl), a1, cA_s]
    rcases (show v = 0 ∨ v = 1 by omega) with rfl | rfl
    · rw [if_pos (by decide), h0 rfl]
    · rw [if_neg (by decide), gR_t (ly_t8 hl1), ly_r8_10 hl1, gI_t (ly_t211 hl1), h1 rfl]
  have ey : ∀ M2 q, f_X12_laysStates (some 230) M1 = some (nI q, M2) → q < 2 → Bs w h L (stN s) τ M2 → f_X12_states (some 230) M1 = some (if q = 0 then -2 else mI M2 230 58, M2) := by
    intro M2 q h1 h2 hb2
    unfold f_X12_states
    rw [cR_t (ly_t230 hl1), h1, cA_s]
    rcases (show q = 0 ∨ q = 1 by omega) with rfl | rfl
    · rw [if_pos (by decide), if_pos rfl]
    · rw [if_neg (by decide), gI_t (ly_t230 hb2.lay), if_neg (by decide)]
  rcases y_statesM a2.1.1.m with ⟨Q', n', t', M2, b1, b2, b3, b4, b5⟩ | ⟨M2, b1, b2, b3⟩
  · have hr2 := a2.fy b2 (by decide) (by decide) (by decide)
    have hm := b3.fol b4 b5
    rcases a3.2.2 with ⟨-, -, hm'⟩ | ⟨rfl, -, Q, n, tg, hS⟩
    · exact (hm.1.few hm').elim
    · have := hS.1.eq hm.1
      subst this
      refine ⟨nI n, M1, M2, ex _ (fun z => by cases z) (fun _ => hS.2.1) (by decide), ?_, hr2⟩
      rw [ey M2 1 b1 (by decide) hr2.1.1.1, if_neg (by decide), hm.2.1]
  · have hr2 := a2.fy b2 (by decide) (by decide) (by decide)
    rcases a3.2.2 with ⟨rfl, -, hm'⟩ | ⟨rfl, -, Q, n, tg, hS⟩
    · exact ⟨-2, M1, M2, ex _ (fun _ => rfl) (fun z => by cases z) (by decide), by rw [ey M2 0 b1 (by decide) hr2.1.1.1, if_pos rfl], hr2⟩
    · exact (hS.1.few b3).elim
theorem c_best {wt : Int32} (hr : Rel w h L s s' τ tp ln fl fp M) : EndC w h L s s' τ tp ln fl fp M (f_X11_best (some 8) wt) (f_X12_best (some 230) wt) := by
  have hl := hr.1.1.1.lay
  by_cases h1 : wt < 0
  · exact ⟨-3, M, M, by unfold f_X11_best; rw [if_pos h1], by unfold f_X12_best; rw [in_lo h1, cA_s, if_pos (by decide)], hr⟩
  by_cases h2 : (1 : Int32) < wt
  · exact ⟨-3, M, M, by unfold f_X11_best; rw [if_neg h1, if_neg (Int32.not_le.mpr h2)], by unfold f_X12_best; rw [in_hi h2, cA_s, if_pos (by decide)], hr⟩
  obtain ⟨v, M1, a1, a2, a3⟩ := x_slv hr
  have hl1 := a2.1.1.1.lay
  have hx : f_X11_best (some 8) wt M = (if nI v = 0 then some ((-2 : Int32), M1) else if wt = 0 then some (mI M1 221 0, M1) else some (mI M1 222 0, M1)) := by
    unfold f_X11_best
    rw [if_neg h1, if_pos (Int32.not_lt.mp h2), gR_t (ly_t8 hl), ly_r8_2 hl, gR_t (ly_t9 hl), ly_r9_0 hl, cR_t (ly_t8 hl), a1, cA_s, gR_t (ly_t8 hl1), ly_r8_11 hl1, gR_t (ly_t220 hl1), ly_r220_0 hl1, show (0 : Int32) = nI 0 from rfl, aI_t (ly_t221 hl1) (by decide) (by decide), gR_t (ly_t8 hl1), ly_r8_11 hl1, gR_t (ly_t220 hl1), ly_r220_1 hl1, aI_t (ly_t222 hl1) (by decide) (by decide)]
  rcases y_slv a2 a3 with ⟨rfl, Q, n, tg, Q', n', tg', M2, b1, b2, b3, b4, b5, b6⟩ | ⟨rfl, M2, b1, b2⟩
  · have hl2 := b2.1.1.1.lay
    have c0 := b4.1.2.2.2.1
    have d0 := b5.1.2.2.2.1
    obtain ⟨g1, g2⟩ := b4.2.2.2.2.2.1 0 c0.1
    obtain ⟨k1, -, k3⟩ := b6 0 d0.1
    rw [c0.2] at g1 g2
    have k1 : mI M2 265 0 = nI (FR w h (tT τ (stB s)) (stP s)) := by rw [k1]; show nI (FR w h _ (Q' 0)) = _; rw [d0.2]
    have hy : f_X12_best (some 230) wt M1 = (if wt = 0 then some (mI M2 265 0, M2) else if mI M2 265 0 = 0 then some ((-1 : Int32), M2) else some (mI M2 266 0, M2)) := by
      unfold f_X12_best
      rw [in_ok h1 h2, cA_s, if_neg (by decide), cR_t (ly_t230 hl1), b1, cA_s, if_neg (by decide), gR_t (ly_t230 hl2), ly_r230_62 hl2, show (0 : Int32) = nI 0 from rfl, aI_t (ly_t265 hl2) (by decide) (by decide), gR_t (ly_t230 hl2), ly_r230_62 hl2, aI_t (ly_t265 hl2) (by decide) (by decide), gR_t (ly_t230 hl2), ly_r230_63 hl2, aI_t (ly_t266 hl2) (by decide) (by decide)]
    rw [if_neg (by decide)] at hx
    by_cases hw : wt = 0
    · exact ⟨nI (FR w h (tT τ (stB s)) (stP s)), M1, M2, by rw [hx, if_pos hw, g1], by rw [hy, if_pos hw, k1], b2⟩
    · by_cases hz : FR w h (tT τ (stB s)) (stP s) = 0
      · exact ⟨m1, M1, M2, by rw [hx, if_neg hw, g2, if_pos hz], by rw [hy, if_neg hw, k1, hz, if_pos (by decide)]; rfl, b2⟩
      · have k4 := (k3 (by show FR w h _ (Q' 0) ≠ 0; rw [d0.2]; exact hz)).1
        have k4 : mI M2 266 0 = nI (FT w h (tT τ (stB s)) (stP s)) := by rw [k4]; show nI (FT w h _ (Q' 0)) = _; rw [d0.2]
        refine ⟨nI (FT w h (tT τ (stB s)) (stP s)), M1, M2, by rw [hx, if_neg hw, g2, if_neg hz], ?_, b2⟩
        rw [hy, if_neg hw, k1, if_neg (ne_0 (by have := FR_le (w := w) (h := h) (T := tT τ (stB s)) (π := stP s); omega) hz), k4]
  · rw [if_pos (by decide)] at hx
    refine ⟨-2, M1, M2, hx, ?_, b2⟩
    unfold f_X12_best
    rw [in_ok h1 h2, cA_s, if_neg (by decide), cR_t (ly_t230 hl1), b1, cA_s, if_pos (by decide)]
/-- the n-th, or how many -/
def pgS (p : Nat → Bool) (v : Int32) (l : List Nat) (fd : Nat) : Int32 := match nthP p l fd v with
  | some q => nI (told3 q)
  | none => if v = -1 then nI (fd + l.countP p) else -1
theorem nthP_congr {p p' : Nat → Bool} {v : Int32} : ∀ (l : List Nat) (fd : Nat), (∀ q, q ∈ l → p q = p' q) → nthP p l fd v = nthP p' l fd v
  | [], _, _ => rfl
  | q :: l, fd, h => by
    have h0 := h q List.mem_cons_self
    have ih := fun fd => nthP_congr (p := p) (p' := p') (v := v) l fd (fun q hq => h q (List.mem_cons_of_mem _ hq))
    cases hp : p q with
    | false => rw [nthP_n hp, nthP_n (by rw [← h0]; exact hp), ih]
    | true => rw [nthP_y hp, nthP_y (by rw [← h0]; exact hp), ih]
theorem pgS_congr {p p' : Nat → Bool} {v : Int32} {l : List Nat} {fd : Nat} (hh : ∀ q, q ∈ l → p q = p' q) : pgS p v l fd = pgS p' v l fd := by
  unfold pgS
  rw [nthP_congr l fd hh, List.countP_congr (fun q hq => by rw [hh q hq])]
theorem pgS_n {p : Nat → Bool} {v : Int32} {q fd : Nat} {l : List Nat} (hp : p q = false) : pgS p v (q :: l) fd = pgS p v l fd := by
  unfold pgS
  rw [nthP_n hp, List.countP_cons_of_neg (by rw [hp]; decide)]
theorem pgS_y {p : Nat → Bool} {v : Int32} {q fd : Nat} {l : List Nat} (hp : p q = true) (hv : ¬ nI fd = v) : pgS p v (q :: l) fd = pgS p v l (fd + 1) := by
  unfold pgS
  rw [nthP_y hp, if_neg hv, List.countP_cons_of_pos hp, show fd + (l.countP p + 1) = fd + 1 + l.countP p by omega]
theorem pgS_s {p : Nat → Bool} {q fd : Nat} {l : List Nat} (hp : p q = true) : pgS p (nI fd) (q :: l) fd = nI (told3 q) := by
  unfold pgS
  rw [nthP_y hp, if_pos rfl]
theorem pgS_TQ {p : Nat → Bool} {v : Int32} : pgS (fun q => tri q && p q) v (List.range' 0 512) 0 = pgS p v TQ 0 := by
  unfold pgS TQ
  rw [nthP_filter, List.countP_filter, List.countP_congr (p := fun q => tri q && p q) (q := fun q => p q && tri q) (fun q _ => by rw [Bool.and_comm])]
theorem x_pickGood_l {nt n : Nat} {W Ls : Nat → Nat → Chi} {op : Chi} {v : Int32} (hb : Bs w h L nt τ M) (hL : LdX n W Ls M) (hi : 0 < n) (hn : n ≤ 2000) (ho : mI M 212 0 = nI (bS op 8)) : ∀ (k f j fd : Nat), j + k = 56 → k < f → f_X0_pickGood_4 f (some 220) v (nI fd) (nI j) M = some (pgS (fun q => inq op q && wnS Ls 0 q) v (TQ.drop j) fd, M)
  | k, 0, j, fd, _, hf => absurd hf (by omega)
  | 0, f + 1, j, fd, hj, _ => by
    obtain rfl : j = 56 := by omega
    rw [u_X0_pickGood_4, List.drop_of_length_le (by rw [TQ_len]; omega)]
    unfold b_X0_pickGood_4
    rw [if_pos (by decide)]
    show _ = some (if v = -1 then nI (fd + 0) else -1, M)
    by_cases e : v = -1
    · rw [if_pos e, if_pos e]; rfl
    · rw [if_neg e, if_neg e]
  | k + 1, f + 1, j, fd, hj, hf => by
    have hl := hb.lay
    have hq := TQ_mem (show j < 56 by omega)
    have hq' := TQ_tri _ hq
    have ih := fun fd => x_pickGood_l (v := v) hb hL hi hn ho k f (j + 1) fd (by omega) (by omega)
    rw [u_X0_pickGood_4, TQ_drop (by omega)]
    unfold b_X0_pickGood_4
    rw [if_neg (show ¬ (56 : Int32) ≤ nI j from nI_ge (b := 56) (by omega) (by decide)), gR_t (ly_t220 hl), ly_r220_3 hl, gR_t (ly_t45 hl), ly_r45_0 hl, aI_t (ly_t46 hl) (by omega) (by decide), bits_at hb (by omega), gR_t (ly_t220 hl), ly_r220_2 hl, gR_t (ly_t211 hl), ly_r211_0 hl, show (0 : Int32) = nI 0 from rfl, aI_t (ly_t212 hl) (by decide) (by decide), ho, nI_1 j]
    have hw : (nI (bS (lnS Ls 0 (TQ.getD j 0)) 8) = nI (bS (tch (TQ.getD j 0)) 8)) ↔ wnS Ls 0 (TQ.getD j 0) = true := by
      unfold wnS
      rw [bS_eqN (by decide), all8_t]
      exact ⟨fun z m hm => by rw [z m hm]; simp, fun z m hm => by simpa using z m hm⟩
    cases hc : inq op (TQ.getD j 0) with
    | false =>
      rw [if_neg (fun z => by rw [(tch_sub hq'.1).mp z] at hc; cases hc), ih, pgS_n (by rw [hc]; rfl)]
    | true =>
      rw [if_pos ((tch_sub hq'.1).mpr hc), cR_t (ly_t220 hl), x_losing hb hL hi hn, cA_s]
      cases hwn : wnS Ls 0 (TQ.getD j 0) with
      | false => rw [if_neg (fun z => by rw [hw.mp z] at hwn; cases hwn), ih, pgS_n (by rw [hc, hwn]; rfl)]
      | true =>
        rw [if_pos (hw.mpr hwn)]
        by_cases e : nI fd = v
        · subst e
          rw [if_pos rfl, x_asTold hq, cA_s, pgS_s (by rw [hc, hwn]; rfl)]
        · rw [if_neg e, nI_1, ih, pgS_y (by rw [hc, hwn]; rfl) e]
theorem y_good_l {nt n : Nat} {op : Nat → Chi} {tg rr tm : Nat → Nat} {v : Int32} (hb : Bs w h L nt τ M) (hF : FoM n op tg M) (hR : RsM n rr tm M) (hn : n ≤ 2000) (hi : 0 < n) : ∀ (k f q fd : Nat), q + k = 512 → k < f → f_X12_good_21 f (some 230) v (nI fd) (nI q) M = some (pgS (fun q => tri q && (inq (op 0) q && wiQ rr tm tg 0 100000 q)) v (List.range' q k) fd, M)
  | k, 0, q, fd, _, hf => absurd hf (by omega)
  | 0, f + 1, q, fd, hq, _ => by
    obtain rfl : q = 512 := by omega
    rw [u_X12_good_21]
    unfold b_X12_good_21
    rw [if_pos (by decide)]
    show _ = some (if v = -1 then nI (fd + 0) else -1, M)
    by_cases e : v = -1
    · rw [if_pos e, if_pos e]; rfl
    · rw [if_neg e, if_neg e]
  | k + 1, f + 1, q, fd, hq, hf => by
    have hl := hb.lay
    have n64 : ∀ {X : Option (Int32 × Mem)}, nzI (64 : Int32) X = X := nz_y (y := 64) (by decide)
    have n8 : ∀ {X : Option (Int32 × Mem)}, nzI (8 : Int32) X = X := nz_y (y := 8) (by decide)
    have d1 : nI q / (64 : Int32) = nI (qx q) := pk_div (d := 64) (by omega) (by decide) (by decide)
    have d2 : nI q / (8 : Int32) = nI (q / 8) := pk_div (d := 8) (by omega) (by decide) (by decide)
    have d3 : nI (q / 8) - nI (q / 8) / (8 : Int32) * (8 : Int32) = nI (qy q) := pk_rem (d := 8) (by omega) (by decide) (by decide)
    have d4 : nI q - nI (q / 8) * (8 : Int32) = nI (qz q) := nI_remN (d := 8) (by omega) (by decide) (by decide)
    have ih := fun fd => y_good_l (v := v) hb hF hR hn hi k f (q + 1) fd (by omega) (by omega)
    have hg : f_X12_isGood (some 230) (0 : Int32) (nI q) M = some (nI (tri q && (inq (op 0) q && wiQ rr tm tg 0 100000 q)).toNat, M) := by
      unfold f_X12_isGood
      rw [gR_t (ly_t230 hl), ly_r230_60 hl, show (0 : Int32) = nI 0 from rfl, aI_t (ly_t263 hl) (by decide) (by decide), hF.1 0 hi, y_isOfferOf (by omega), cA_s, ← Bool.and_assoc]
      cases hc : (tri q && inq (op 0) q) with
      | false => rw [if_pos (by decide), show tv (nI 0) = tv (0 : Int32) from rfl, tv_0]; rfl
      | true =>
        rw [Bool.and_eq_true] at hc
        have ho := op3_q (op := op) (i := 0) (by omega) hc.1 hc.2
        rw [if_neg (by decide), n64, n8, n8, n8, cR_t (ly_t230 hl), d2, d1, d3, d4, y_winsBy hb hF hR hn hi ho, cA_s, Bool.true_and]
        unfold wiQ
        have hwiw : wiN rr tm tg 0 (qx q) (qy q) (qz q) ≤ 100000 := by
          obtain ⟨⟨v1, v2⟩, ⟨v3, v4⟩, v5, v6⟩ := ho.v
          have o1 := ho.1
          have o2 := ho.2.1
          have o3 := ho.2.2.1
          have := lbN_le (hR.le hF (by omega) v1) (hR.le hF (by omega) v2)
          have := lbN_le (hR.le hF (by omega) v3) (hR.le hF (by omega) v4)
          have := lbN_le (hR.le hF (by omega) v5) (hR.le hF (by omega) v6)
          unfold wiN
          omega
        by_cases z : wiN rr tm tg 0 (qx q) (qy q) (qz q) < 100000
        · rw [if_neg (show ¬ (100000 : Int32) ≤ nI _ from nI_ge (b := 100000) z (by decide)), decide_eq_true z, tv_1]; rfl
        · rw [if_pos (show (100000 : Int32) ≤ nI _ from nI_le (a := 100000) (by omega) (by omega)), decide_eq_false z, show tv (nI 0) = tv (0 : Int32) from rfl, tv_0]; rfl
    rw [u_X12_good_21, List.range'_succ]
    unfold b_X12_good_21
    rw [if_neg (show ¬ (512 : Int32) ≤ nI q from nI_ge (b := 512) (by omega) (by decide)), cR_t (ly_t230 hl), hg, cA_s, nI_1]
    cases hc : (tri q && (inq (op 0) q && wiQ rr tm tg 0 100000 q)) with
    | false => rw [if_pos (by decide), ih, pgS_n hc]
    | true =>
      rw [if_neg (by decide)]
      by_cases e : nI fd = v
      · subst e
        rw [if_pos rfl, n64, n8, n8, n8, d2, d1, d3, d4, show (100 : Int32) = nI 100 from rfl, show (10 : Int32) = nI 10 from rfl, pk_mul, pk_mul, nI_add, nI_add, pgS_s hc]
        rfl
      · rw [if_neg e, nI_1, ih, pgS_y hc e]
theorem c_good {i : Int32} (hr : Rel w h L s s' τ tp ln fl fp M) : EndC w h L s s' τ tp ln fl fp M (f_X11_good (some 8) i) (f_X12_good (some 230) i) := by
  have hl := hr.1.1.1.lay
  by_cases h1 : (-1 : Int32) ≤ i
  · obtain ⟨v, M1, a1, a2, a3⟩ := x_slv hr
    have hl1 := a2.1.1.1.lay
    rcases y_slv a2 a3 with ⟨rfl, Q, n, tg, Q', n', tg', M2, b1, b2, b3, b4, b5, b6⟩ | ⟨rfl, M2, b1, b2⟩
    · obtain ⟨c0, c1⟩ := b4.1.2.2.2.1
      obtain ⟨d0, d1⟩ := b5.1.2.2.2.1
      have e1 := x_pickGood_l (v := i) a2.1.1.1 b4.2.2.2.2.2.2.1 c0 b4.1.1 (b4.2.2.2.1.1 0 c0) 56 FU 0 0 (by omega) (by decide)
      have e2 := y_good_l (v := i) b2.1.1.1 b5.2.2.2 b6 b5.1.1 d0 512 FU 0 0 (by omega) (by decide)
      rw [List.drop_zero] at e1
      rw [pgS_TQ] at e2
      refine ⟨pgS (fun q => inq (opS w h (tT τ (stB s)) (Q 0)) q && wnS (fun i => ldS (opS w h (tT τ (stB s))) (sucS w h (tT τ (stB s))) (rsS (opS w h (tT τ (stB s))) (sucS w h (tT τ (stB s))) 2000) 2 (Q i)) 0 q) i TQ 0, M1, M2, ?_, ?_, b2⟩
      · unfold f_X11_good
        rw [if_pos h1, gR_t (ly_t8 hl), ly_r8_2 hl, gR_t (ly_t9 hl), ly_r9_0 hl, cR_t (ly_t8 hl), a1, cA_s, if_neg (by decide), gR_t (ly_t8 hl1), ly_r8_11 hl1, cR_t (ly_t220 hl1), show f_X0_pickGood (some 220) i M1 = _ from e1, cA_s]
      · unfold f_X12_good
        rw [if_pos h1, cR_t (ly_t230 hl1), b1, cA_s, if_neg (by decide), show f_X12_good_21 FU (some 230) i (0 : Int32) (0 : Int32) M2 = _ from e2]
        congr 2
        refine pgS_congr (fun q hq => ?_)
        show (inq (opS w h (tT τ (stB s)) (Q' 0)) q && _) = (inq (opS w h (tT τ (stB s)) (Q 0)) q && _)
        have hqq := (d1.trans c1.symm)
        rw [hqq]
        cases hc : inq (opS w h (tT τ (stB s)) (Q 0)) q with
        | false => rw [Bool.false_and, Bool.false_and]
        | true =>
          have hk := (wi_wn (rr := fun i => FR w h (tT τ (stB s)) (Q' i)) (tm := fun i => FT w h (tT τ (stB s)) (Q' i)) (v := fun π => FR w h (tT τ (stB s)) π) (B := 100000) (i := 0) b5.2.2.1 d0 (by decide) (fun _ _ => rfl) (fun j _ _ => by have := FT_le (w := w) (h := h) (T := tT τ (stB s)) (π := Q' j); show FT w h _ (Q' j) < 100000; omega) hq (by show inq (opS w h (tT τ (stB s)) (Q' 0)) q = true; rw [hqq]; exact hc)).1
          rw [Bool.true_and, Bool.true_and, ← hk, hqq]
          exact wnS_congr (fun _ _ _ _ => rfl)
    · refine ⟨-2, M1, M2, ?_, ?_, b2⟩
      · unfold f_X11_good
        rw [if_pos h1, gR_t (ly_t8 hl), ly_r8_2 hl, gR_t (ly_t9 hl), ly_r9_0 hl, cR_t (ly_t8 hl), a1, cA_s, if_pos (by decide)]
      · unfold f_X12_good
        rw [if_pos h1, cR_t (ly_t230 hl1), b1, cA_s, if_pos (by decide)]
  · exact ⟨-1, M, M, by unfold f_X11_good; rw [if_neg h1], by unfold f_X12_good; rw [if_neg h1], hr⟩
end CSOLVE
