/-! ===== balanced ===== -/
/-- a position with another count -/
def hpC (π : Pos) (m c : Nat) : Pos := (π.1, up1 π.2.1 m c, π.2.2)
theorem hpC_ok {w h m c : Nat} {π : Pos} (ok : okN w h π) (hm : m < 8) (hc : c < 4) : okN w h (hpC π m c) := by
  refine ⟨⟨ok.1.1, ok.1.2.1, fun q => ?_, ok.1.2.2.2⟩, ok.2.1, fun q hq => ?_⟩
  · show up1 π.2.1 m c q < 4
    by_cases e : q = m
    · subst e; rw [up1_s]; omega
    · rw [up1_n e]; exact ok.1.2.2.1 q
  · show up1 π.2.1 m c q = 0
    rw [up1_n (by omega)]; exact ok.2.2 q hq
/-- a position that is another one but for a count -/
def lkC (π π' : Pos) (m : Nat) : Prop := π'.1 = π.1 ∧ π'.2.2 = π.2.2 ∧ ∀ j, j ≠ m → π'.2.1 j = π.2.1 j
theorem lkC.up {π π' : Pos} {m : Nat} (h : lkC π π' m) (c : Nat) : up1 π'.2.1 m c = up1 π.2.1 m c := by
  funext j
  by_cases e : j = m
  · subst e; rw [up1_s, up1_s]
  · rw [up1_n e, up1_n e]; exact h.2.2 j e
theorem lkC.rf {π : Pos} {m : Nat} : lkC π π m := ⟨rfl, rfl, fun _ _ => rfl⟩
theorem lkC.hp {π : Pos} {m c : Nat} : lkC π (hpC π m c) m := ⟨rfl, rfl, fun j hj => up1_n hj⟩
def BalP (w h : Nat) (T : Txt) (π : Pos) : Prop := (∃ Q n, Cls w h T π Q n) ∧ FR w h T π = 0
/-- what is found from a count on -/
def BalR (w h : Nat) (T : Txt) (π : Pos) (m c : Nat) (r : Int32) : Prop := (∃ d, c ≤ d ∧ d < 4 ∧ r = nI d ∧ BalP w h T (hpC π m d) ∧ Stb w h T (hpC π m d) ∧ ∀ d', c ≤ d' → d' < d → ¬ BalP w h T (hpC π m d') ∧ Stb w h T (hpC π m d')) ∨ (r = -1 ∧ ∀ d', c ≤ d' → d' < 4 → ¬ BalP w h T (hpC π m d') ∧ Stb w h T (hpC π m d'))
section CBAL
variable {w h L : Nat} {s s' : Std} {τ : Nat → Txt} {tp : Nat → Nat} {ln : Nat} {fl fp : Int32} {m : Nat}
theorem x_bal (hm : m < 8) : ∀ (k f c : Nat) (π' : Pos) (M : Mem), c + k = 4 → k < f → Rel w h L s s' τ tp ln fl fp M → PosAt 47 π' M → lkC (stP s) π' m → okP π' → ∃ r M', f_X11_balanced_25 f (some 8) (nI m) (nI c) M = some (r, M') ∧ Rel w h L s s' τ tp ln fl fp M' ∧ BalR w h (tT τ (stB s)) (stP s) m c r
  | k, 0, c, π', M => fun _ z => absurd z (by omega)
  | 0, f + 1, c, π', M => by
    intro hc _ hr _ _ _
    obtain rfl : c = 4 := by omega
    refine ⟨-1, M, ?_, hr, Or.inr ⟨rfl, fun d' h1 h2 => absurd h2 (by omega)⟩⟩
    rw [u_X11_balanced_25]
    unfold b_X11_balanced_25
    rw [if_pos (by decide)]
  | k + 1, f + 1, c, π', M => by
    intro hc hf hr hP hlk ok
    have hl := hr.1.1.1.lay
    have hset := x_setCount hP ok hm (show c < 4 by omega)
    have f1 : Fx [47] [] M (sI M 47 1 (nI (enc 2 (up1 π'.2.1 m c) 8))) := Fx.wI (Or.inl (by decide))
    have hr1 := hr.fy f1 (by decide) (by decide) (by decide)
    have hP1 : PosAt 47 (hpC (stP s) m c) (sI M 47 1 (nI (enc 2 (up1 π'.2.1 m c) 8))) := by
      refine ⟨hP.1, ?_, ?_, ?_⟩
      · rw [mL_sI, hP.2.1, hlk.1]; rfl
      · rw [mI_e, hlk.up]; rfl
      · rw [mI_nk (by decide), hP.2.2.2, hlk.2.1]; rfl
    have okc := hpC_ok hr.1.1.2.1.1 hm (show c < 4 by omega)
    have hp1 := hr1.1.1
    obtain ⟨v, M2, a1, a2, a3⟩ := x_solved hp1.1 hp1.2.1.2.1 hr1.2 (Or.inr rfl) hP1 okc hp1.2.2.1.2.2.2.2.2.2
    have hr2 : Rel w h L s s' τ tp ln fl fp M2 := ⟨hr1.1.r11.fx a2 (by decide) (by decide), Or.inr ⟨stB s, hpC (stP s) m c, v, hp1.2.1.2.1, okc, a3⟩⟩
    have hl1 := hp1.1.lay
    have hl2 := hr2.1.1.1.lay
    have hP2 : PosAt 47 (hpC (stP s) m c) M2 := by
      have : PosAt 47 (hpC (stP s) m c) (sR (sI M 47 1 (nI (enc 2 (up1 π'.2.1 m c) 8))) 211 11 (some (rT (stB s)))) := hP1
      exact this.fx a2 (by decide)
    obtain ⟨r, M', z1, z2, z3⟩ := x_bal hm k f (c + 1) (hpC (stP s) m c) M2 (by omega) (by omega) hr2 hP2 lkC.hp okc.1
    have stb := a3.stb
    have start : f_X11_balanced_25 (f + 1) (some 8) (nI m) (nI c) M = (if nI v = 0 then f_X11_balanced_25 f (some 8) (nI m) (nI (c + 1)) M2 else if mI M2 221 0 = 0 then some (nI c, M2) else f_X11_balanced_25 f (some 8) (nI m) (nI (c + 1)) M2) := by
      rw [u_X11_balanced_25]
      unfold b_X11_balanced_25
      rw [if_neg (show ¬ (3 : Int32) < nI c from nI_nlt (a := 3) (by omega) (by decide)), gR_t (ly_t8 hl), ly_r8_12 hl, cR_t (ly_t47 hl), hset, cA_s, gR_t (ly_t8 hl1), ly_r8_12 hl1, cR_t (ly_t8 hl1), a1, cA_s, gR_t (ly_t8 hl2), ly_r8_11 hl2, gR_t (ly_t220 hl2), ly_r220_0 hl2, show aI M2 (some 221) 2 (0 : Int32) = aI M2 (some 221) 2 (nI 0) from rfl, aI_t (ly_t221 hl2) (by decide) (by decide), nI_1]
    -- not here: what is found behind
    have nope : ¬ BalP w h (tT τ (stB s)) (hpC (stP s) m c) → BalR w h (tT τ (stB s)) (stP s) m c r := by
      intro hno
      rcases z3 with ⟨d, d1, d2, d3, d4, d5, d6⟩ | ⟨d1, d2⟩
      · refine Or.inl ⟨d, by omega, d2, d3, d4, d5, fun d' e1 e2 => ?_⟩
        by_cases e : d' = c
        · subst e; exact ⟨hno, stb⟩
        · exact d6 d' (by omega) e2
      · refine Or.inr ⟨d1, fun d' e1 e2 => ?_⟩
        by_cases e : d' = c
        · subst e; exact ⟨hno, stb⟩
        · exact d2 d' (by omega) e2
    rcases a3.2.2 with ⟨rfl, -, hmy⟩ | ⟨rfl, -, Q, n, tg, hS⟩
    · refine ⟨r, M', ?_, z2, nope (fun z => ?_)⟩
      · rw [start, if_pos (by decide)]; exact z1
      · obtain ⟨⟨Q, n, hq⟩, -⟩ := z
        exact hq.few hmy
    · have h0 := hS.1.2.2.2.1
      have hv := (hS.2.2.2.2.2.1 0 h0.1).1
      rw [h0.2] at hv
      rw [if_neg (by decide), hv] at start
      by_cases hz : FR w h (tT τ (stB s)) (hpC (stP s) m c) = 0
      · refine ⟨nI c, M2, ?_, hr2, Or.inl ⟨c, Nat.le_refl _, by omega, rfl, ⟨⟨Q, n, hS.1⟩, hz⟩, stb, fun d' e1 e2 => absurd e2 (by omega)⟩⟩
        rw [start, if_pos (show nI (FR w h (tT τ (stB s)) (hpC (stP s) m c)) = 0 by rw [hz]; rfl)]
      · refine ⟨r, M', ?_, z2, nope (fun z => hz z.2)⟩
        rw [start, if_neg (ne_0 (by have := FR_le (w := w) (h := h) (T := tT τ (stB s)) (π := hpC (stP s) m c); omega) hz)]
        exact z1
theorem StM.putC {π π' : Pos} {m c : Nat} {M : Mem} (hm : m < 8) (hS : StM 231 (withP s π') M) (hlk : lkC π π' m) (hπ : π = stP s) : StM 231 (withP s (hpC π m c)) (sI M 231 (10 + m) (nI c)) := by
  obtain ⟨a0, a1, a2, a3, a4, a5, a6, a7, a8⟩ := hS
  have e0 : (stP (withP s π')).2.2 = (stP (withP s (hpC π m c))).2.2 := hlk.2.1
  have e1 : (stP (withP s π')).1 = (stP (withP s (hpC π m c))).1 := hlk.1
  refine ⟨?_, ?_, ?_, ?_, ?_, ?_, fun q hq => ?_, fun q hq => ?_, fun q hq => ?_⟩
  · rw [mI_nk (by omega), ← e0]; exact a0
  · rw [mI_nk (by omega)]; exact a1
  · rw [mI_nk (by omega)]; exact a2
  · rw [mI_nk (by omega)]; exact a3
  · rw [mI_nk (by omega)]; exact a4
  · rw [mI_nk (by omega)]; exact a5
  · show _ = nI (up1 π.2.1 m c q)
    by_cases e : q = m
    · subst e; rw [mI_e, up1_s]
    · rw [mI_nk (by omega), up1_n e, ← hlk.2.2 q e]; exact a6 q hq
  · rw [mI_nk (by omega), ← e1]; exact a7 q hq
  · rw [mI_nk (by omega)]; exact a8 q hq
abbrev ybA : List Nat := 231 :: ryA
theorem y_bal {r : Int32} (hm : m < 8) (oks : okSt w h s) {M0 : Mem} : ∀ (k f c : Nat) (π' : Pos) (M : Mem), c + k = 4 → k + 1 < f → Bs w h L (stN s) τ M → StM 231 (withP s π') M → lkC (stP s) π' m → BalR w h (tT τ (stB s)) (stP s) m c r → Fx ybA syF M0 M → ∃ M', f_X12_balanced_24 f (some 230) (nI m) (nI ((stP s).2.1 m)) (-1) (nI c) M = some (r, M') ∧ Fx ybA syF M0 M' ∧ StM 231 s M'
  | k, 0, c, π', M => fun _ z => absurd z (by omega)
  | k, f + 1, c, π', M => by
    intro hc hf hb hS hlk hB fr
    have hl := hb.lay
    have eself : withP s (hpC (stP s) m ((stP s).2.1 m)) = s := by
      have : hpC (stP s) m ((stP s).2.1 m) = stP s := by
        unfold hpC
        have : up1 (stP s).2.1 m ((stP s).2.1 m) = (stP s).2.1 := by
          funext j
          by_cases e : j = m
          · subst e; rw [up1_s]
          · rw [up1_n e]
        rw [this]
      rw [this]
      rfl
    have e10 : (10 : Int32) + nI m = nI (10 + m) := by rw [show (10 : Int32) = nI 10 from rfl, nI_add]
    -- the end
    have fin : ∀ (v : Int32) (N : Mem) (π2 : Pos), Bs w h L (stN s) τ N → StM 231 (withP s π2) N → lkC (stP s) π2 m → Fx ybA syF M0 N → ∃ M', (gR N (some 230) 12 3 fun v1 => wI N v1 2 ((10 : Int32) + nI m) (nI ((stP s).2.1 m)) fun M1 => some (v, M1)) = some (v, M') ∧ Fx ybA syF M0 M' ∧ StM 231 s M' := by
      intro v N π2 hbN hSN hlN frN
      have := hSN.putC (c := (stP s).2.1 m) hm hlN rfl
      rw [eself] at this
      refine ⟨_, ?_, frN.I (Or.inl (by decide)), this⟩
      rw [gR_t (ly_t230 hbN.lay), ly_r230_3 hbN.lay, e10, wI_t (ly_t231 hbN.lay) (by omega) (by decide)]
    rw [u_X12_balanced_24]
    unfold b_X12_balanced_24
    match k, hc, hf with
    | 0, hc, _ =>
      obtain rfl : c = 4 := by omega
      have hr1 : r = -1 := by
        rcases hB with ⟨d, d1, d2, -⟩ | ⟨d1, -⟩
        · omega
        · exact d1
      rw [if_pos (by decide), hr1]
      exact fin _ M π' hb hS hlk fr
    | k + 1, hc, hf =>
    have okc := hpC_ok oks.1 hm (show c < 4 by omega)
    have f1 : Fx ybA syF M (sI M 231 (10 + m) (nI c)) := Fx.wI (Or.inl (by decide))
    have hb1 := hb.fx f1 (by decide) (by decide)
    have hl1 := hb1.lay
    have hS1 := hS.putC (c := c) hm hlk rfl
    have hp1 : PreM w h L (withP s (hpC (stP s) m c)) τ (sI M 231 (10 + m) (nI c)) := ⟨hb1, ⟨okc, oks.2⟩, hS1⟩
    have hstb : Stb w h (tT τ (stB s)) (hpC (stP s) m c) := by
      rcases hB with ⟨d, d1, d2, d3, d4, d5, d6⟩ | ⟨d1, d2⟩
      · by_cases e : d = c
        · subst e; exact d5
        · exact (d6 c (Nat.le_refl _) (by omega)).2
      · exact (d2 c (Nat.le_refl _) (by omega)).2
    -- one more
    have next : ∀ N, Fx ybA syF M N → StM 231 (withP s (hpC (stP s) m c)) N → ¬ BalP w h (tT τ (stB s)) (hpC (stP s) m c) → ∃ M', f_X12_balanced_24 f (some 230) (nI m) (nI ((stP s).2.1 m)) (-1) (nI (c + 1)) N = some (r, M') ∧ Fx ybA syF M0 M' ∧ StM 231 s M' := by
      intro N frN hSN hno
      refine y_bal hm oks k f (c + 1) (hpC (stP s) m c) N (by omega) (by omega) (hb.fx frN (by decide) (by decide)) hSN lkC.hp ?_ (fr.tr frN)
      rcases hB with ⟨d, d1, d2, d3, d4, d5, d6⟩ | ⟨d1, d2⟩
      · have : d ≠ c := fun e => hno (e ▸ d4)
        exact Or.inl ⟨d, by omega, d2, d3, d4, d5, fun d' e1 e2 => d6 d' (by omega) e2⟩
      · exact Or.inr ⟨d1, fun d' e1 e2 => d2 d' (by omega) e2⟩
    rw [if_neg (show ¬ (4 : Int32) ≤ nI c from nI_ge (b := 4) (by omega) (by decide)), if_pos rfl, gR_t (ly_t230 hl), ly_r230_3 hl, e10, wI_t (ly_t231 hl) (by omega) (by decide), cR_t (ly_t230 hl1), nI_1]
    rcases y_results hp1 hstb with ⟨Q, n, tg, M2, b1, b2, b3, b4⟩ | ⟨M2, b1, b2, b3⟩
    · have f2 : Fx ybA syF M M2 := f1.tr (b2.mono (by decide) (by decide))
      have hb2 := hb.fx f2 (by decide) (by decide)
      have hl2 := hb2.lay
      have hS2 := hS1.fx b2 (by decide)
      have h0 := b3.1.2.2.2.1
      have hv : mI M2 265 0 = nI (FR w h (tT τ (stB s)) (hpC (stP s) m c)) := by
        rw [(b4 0 h0.1).1]
        show nI (rsS _ _ 2000 (Q 0)) = _
        rw [h0.2]
        rfl
      rw [b1, cA_s, if_neg (by decide), gR_t (ly_t230 hl2), ly_r230_62 hl2, show aI M2 (some 265) 2 (0 : Int32) = aI M2 (some 265) 2 (nI 0) from rfl, aI_t (ly_t265 hl2) (by decide) (by decide), hv]
      by_cases hz : FR w h (tT τ (stB s)) (hpC (stP s) m c) = 0
      · have hbal : BalP w h (tT τ (stB s)) (hpC (stP s) m c) := ⟨⟨Q, n, b3.1⟩, hz⟩
        have hrc : r = nI c := by
          rcases hB with ⟨d, d1, d2, d3, d4, d5, d6⟩ | ⟨d1, d2⟩
          · by_cases e : d = c
            · subst e; exact d3
            · exact absurd hbal (d6 c (Nat.le_refl _) (by omega)).1
          · exact absurd hbal (d2 c (Nat.le_refl _) (by omega)).1
        rw [if_pos (show nI (FR w h (tT τ (stB s)) (hpC (stP s) m c)) = 0 by rw [hz]; rfl), hrc]
        obtain ⟨f', rfl⟩ : ∃ f', f = f' + 1 := ⟨f - 1, by omega⟩
        rw [u_X12_balanced_24]
        unfold b_X12_balanced_24
        by_cases y : c + 1 = 4
        · rw [if_pos (show (4 : Int32) ≤ nI (c + 1) by rw [y]; decide)]
          exact fin _ M2 _ hb2 hS2 lkC.hp (fr.tr f2)
        · rw [if_neg (show ¬ (4 : Int32) ≤ nI (c + 1) from nI_ge (b := 4) (by omega) (by decide)), if_neg (show ¬ nI c = (-1 : Int32) from fun t => (nI_nm1 (by omega)).mp t)]
          exact fin _ M2 _ hb2 hS2 lkC.hp (fr.tr f2)
      · rw [if_neg (ne_0 (by have := FR_le (w := w) (h := h) (T := tT τ (stB s)) (π := hpC (stP s) m c); omega) hz)]
        exact next M2 f2 hS2 (fun t => hz t.2)
    · have f2 : Fx ybA syF M M2 := f1.tr (b2.mono (by decide) (by decide))
      rw [b1, cA_s, if_pos (by decide)]
      exact next M2 f2 (hS1.fx b2 (by decide)) (fun t => by obtain ⟨⟨Q, n, hq⟩, -⟩ := t; exact hq.few b3)
theorem c_balanced {a : Int32} {M : Mem} (hr : Rel w h L s s' τ tp ln fl fp M) : EndC w h L s s' τ tp ln fl fp M (f_X11_balanced (some 8) a) (f_X12_balanced (some 230) a) := by
  have hl := hr.1.1.1.lay
  by_cases hm : isMv a
  · obtain ⟨m, hm, rfl⟩ := hm
    obtain ⟨M1, a1, a2, a3⟩ := x_try hr.1.1
    have hr1 := hr.fy a2 (by decide) (by decide) (by decide)
    obtain ⟨r, M2, b1, b2, b3⟩ := x_bal hm 4 FU 0 (stP s) M1 (by omega) (by decide) hr1 a3 lkC.rf hr.1.1.2.1.1.1
    have hp2 := b2.1.1
    have hl2 := hp2.1.lay
    obtain ⟨M3, c1, c2, c3⟩ := y_bal (M0 := M2) hm hp2.2.1 4 FU 0 (stP s) M2 (by omega) (by decide) hp2.1 hp2.2.2.2 lkC.rf b3 Fx.rf
    have hp3 : Pre w h L s τ M3 := ⟨hp2.1.fx c2 (by decide) (by decide), hp2.2.1, hp2.2.2.1.fx c2 (by decide) (by decide) (by decide) (by decide), c3⟩
    refine ⟨r, M2, M3, ?_, ?_, b2.1.rest c2 (by decide) hp3 rfl, b2.2.fx c2 (by decide)⟩
    · unfold f_X11_balanced
      rw [x_isMove hm, cA_s, if_neg (by decide), gR_t (ly_t8 hl), ly_r8_12 hl, gR_t (ly_t8 hl), ly_r8_2 hl, gR_t (ly_t9 hl), ly_r9_0 hl, cR_t (ly_t47 hl), a1, cA_s]
      exact b1
    · unfold f_X12_balanced
      have h10 := hp2.2.2.2.2.2.2.2.2.2.1 m hm
      rw [y_isMove hm, cA_s, if_neg (by decide), gR_t (ly_t230 hl2), ly_r230_3 hl2, show (10 : Int32) + nI m = nI (10 + m) by rw [show (10 : Int32) = nI 10 from rfl, nI_add], aI_t (ly_t231 hl2) (by omega) (by decide), h10]
      exact c1
  · exact ⟨-1, M, M, by unfold f_X11_balanced; rw [x_isMove_n hm, cA_s, if_pos (by decide)], by unfold f_X12_balanced; rw [y_isMove_n hm, cA_s, if_pos (by decide)], hr⟩
end CBAL
