/-! ===== the doing of a move ===== -/
def perfS (w h : Nat) (π : Pos) (c : Cl) (f g : Nat) : Nat → Nat :=
  if cAc c = 10 then up1 π.1 f (1 + cDr c + 4 * π.2.2)
  else up1 (up1 (if cAc c = 9 then up1 π.1 ((besS w h ((besS w h f (cDr c)).getD 0) (cDr c)).getD 0) (π.1 g)
    else if cAc c = 8 ∧ ¬ (π.1 ((besS w h f (cDr c)).getD 0) - 1) / 4 = π.2.2 then up1 π.1 ((besS w h f (cDr c)).getD 0) 0 else π.1) f 0) g (π.1 f)
def actS (w h : Nat) (T : Txt) (π : Pos) (dn : Nat) : Nat → Nat := match canS w h T π dn with
  | none => π.1
  | some b => match T[b.2.2.2]? with
    | none => π.1
    | some c => perfS w h π c b.2.1 b.2.2.1
def sucS (w h : Nat) (T : Txt) (π : Pos) (no dn : Nat) : Pos := (actS w h T π dn, heapB π.2.1 no dn, 1 - π.2.2)
theorem sL_sL {M : Mem} {a k : Nat} {u v : Int64} : sL (sL M a k u) a k v = sL M a k v := by
  unfold sL
  refine Prod.ext rfl (Prod.ext rfl (Prod.ext rfl (Prod.ext ?_ rfl)))
  funext b
  by_cases e : b = a
  · subst e
    show up2 (up2 M.2.2.2.1 b k u) b k v b = up2 M.2.2.2.1 b k v b
    rw [up2_s, up2_s, up2_s]
    funext j
    by_cases e2 : j = k
    · subst e2; rw [up1_s, up1_s]
    · rw [up1_n e2, up1_n e2, up1_n e2]
  · show up2 (up2 M.2.2.2.1 a k u) a k v b = up2 M.2.2.2.1 a k v b
    rw [up2_n e, up2_n e, up2_n e]
def okC (c : Nat → Nat) : Prop := (∀ p, c p < 9) ∧ ∀ p, 12 ≤ p → c p = 0
theorem okC.up {c : Nat → Nat} {p x : Nat} (h : okC c) (hp : p < 12) (hx : x < 9) : okC (up1 c p x) := by
  refine ⟨fun q => ?_, fun q hq => ?_⟩
  · by_cases e : q = p
    · subst e; rw [up1_s]; exact hx
    · rw [up1_n e]; exact h.1 q
  · rw [up1_n (by omega)]; exact h.2 q hq
theorem okP.c {π : Pos} (h : okP π) : okC π.1 := ⟨h.1, h.2.1⟩
theorem okC.p {c : Nat → Nat} {π : Pos} (h : okC c) (h' : okP π) : okP (c, π.2) := ⟨h.1, h.2, h'.2.2.1, h'.2.2.2⟩
theorem x_set {M : Mem} {a p v : Nat} {π : Pos} (h : PosAt a π M) (ok : okP π) (hp : p < 12) (hx : v < 9) : f_X4_setCell (some a) (nI p) (nI v) M = some ((), sL M a 0 (lN (enc 4 (up1 π.1 p v) 12))) := by
  obtain ⟨M', e1, e2⟩ := x_setCell h ok hp hx
  rw [e1, e2]
theorem PosAt.set {M : Mem} {a : Nat} {π : Pos} {c : Nat → Nat} (h : PosAt a π M) : PosAt a (c, π.2) (sL M a 0 (lN (enc 4 c 12))) := ⟨h.1, mL_e, h.2.2.1, h.2.2.2⟩
/-- of what can be done, all that is needed to do it -/
theorem goal_near {w h f g : Nat} {π : Pos} {c : Cl} (hd : okD w h) (hf : f < w * h) (hg : goalS w h π c f = some g) (h10 : cAc c ≠ 10) : ∃ n, besS w h f (cDr c) = some n ∧ n < w * h ∧ g < w * h ∧ (cAc c = 7 → g = n ∧ π.1 n = 0) ∧ (cAc c ≠ 7 → π.1 n ≠ 0 ∧ ∃ q, besS w h n (cDr c) = some q ∧ q < w * h ∧ π.1 q = 0 ∧ (cAc c = 8 → g = q) ∧ (cAc c ≠ 8 → g = n)) := by
  unfold goalS at hg
  rw [if_neg h10] at hg
  cases hn : besS w h f (cDr c) with
  | none => rw [hn] at hg; cases hg
  | some n =>
    rw [hn] at hg
    have h1 := besS_lt hd hf hn
    dsimp only at hg
    by_cases h7 : cAc c = 7
    · rw [if_pos h7] at hg
      by_cases hz : π.1 n = 0
      · rw [if_pos hz] at hg
        cases hg
        exact ⟨g, rfl, h1, h1, fun _ => ⟨rfl, hz⟩, fun q => absurd h7 q⟩
      · rw [if_neg hz] at hg; cases hg
    · rw [if_neg h7] at hg
      by_cases hz : π.1 n = 0
      · rw [if_pos hz] at hg; cases hg
      · rw [if_neg hz] at hg
        cases hq : besS w h n (cDr c) with
        | none => rw [hq] at hg; cases hg
        | some q =>
          rw [hq] at hg
          have h2 := besS_lt hd h1 hq
          dsimp only at hg
          by_cases hz2 : π.1 q = 0
          · rw [if_pos hz2] at hg
            by_cases h8 : cAc c = 8
            · rw [if_pos h8] at hg
              cases hg
              exact ⟨n, rfl, h1, h2, fun e => absurd e h7, fun _ => ⟨hz, g, hq, h2, hz2, fun _ => rfl, fun e => absurd h8 e⟩⟩
            · rw [if_neg h8] at hg
              cases hg
              exact ⟨g, rfl, h1, h1, fun e => absurd e h7, fun _ => ⟨hz, q, hq, h2, hz2, fun e => absurd e h8, fun _ => rfl⟩⟩
          · rw [if_neg hz2] at hg; cases hg
theorem to_goal {w h m f g : Nat} {π : Pos} {c : Cl} (ht : toS w h π m f c = some g) : π.1 f = 1 + cKd c + 4 * π.2.2 ∧ goalS w h π c f = some g := by
  unfold toS at ht
  by_cases hk : π.1 f = 1 + cKd c + 4 * π.2.2
  · rw [if_pos hk] at ht
    cases hg : goalS w h π c f with
    | none => rw [hg] at ht; cases ht
    | some g' =>
      rw [hg] at ht
      dsimp only at ht
      refine ⟨hk, ?_⟩
      split at ht
      · cases ht; rfl
      · split at ht
        · cases ht
        · cases ht; rfl
  · rw [if_neg hk] at ht; cases ht
theorem okT.ac {T : Txt} {k : Nat} {c : Cl} (h : okT T) (hc : T[k]? = some c) (h0 : cTy c = 0) : 7 ≤ cAc c ∧ cAc c ≤ 10 ∧ cKd c < 4 ∧ cDr c < 4 := by
  rcases h.2.1 k c hc with q | q | q
  · exact ⟨q.2.2.1, q.2.2.2.1, q.2.2.2.2.1, q.2.2.2.2.2.1⟩
  · have := q.1; omega
  · have := q.1; omega
theorem perf_ok {w h f g : Nat} {π : Pos} {c : Cl} (hd : okD w h) (hf : f < w * h) (ok : okN w h π) (hac : 7 ≤ cAc c ∧ cAc c ≤ 10 ∧ cKd c < 4 ∧ cDr c < 4) (hg : goalS w h π c f = some g) : okC (perfS w h π c f g) ∧ ∀ p, w * h ≤ p → perfS w h π c f g p = 0 := by
  have hle := hd.le
  have ht := ok.1.2.2.2
  have hC := ok.1.c
  have key : ∀ {c' : Nat → Nat} {p v : Nat}, p < w * h → v < 9 → (okC c' ∧ ∀ p, w * h ≤ p → c' p = 0) → (okC (up1 c' p v) ∧ ∀ q, w * h ≤ q → up1 c' p v q = 0) := by
    intro c' p v hp hv h0
    exact ⟨h0.1.up (by omega) hv, fun q hq => by rw [up1_n (by omega)]; exact h0.2 q hq⟩
  unfold perfS
  by_cases h10 : cAc c = 10
  · rw [if_pos h10]
    exact key hf (by omega) ⟨hC, ok.2.1⟩
  · rw [if_neg h10]
    obtain ⟨n, h1, h2, h3, h4, h5⟩ := goal_near hd hf hg h10
    rw [h1]
    refine key h3 (ok.1.1 f) (key hf (by decide) ?_)
    by_cases h9 : cAc c = 9
    · obtain ⟨h6, q, h7, h8, -⟩ := h5 (by omega)
      rw [if_pos h9, Option.getD_some, h7]
      exact key h8 (ok.1.1 g) ⟨hC, ok.2.1⟩
    · rw [if_neg h9]
      split
      · exact key h2 (by decide) ⟨hC, ok.2.1⟩
      · exact ⟨hC, ok.2.1⟩
section PERF
variable {w h L nt : Nat} {τ : Nat → Txt} {π : Pos} {M : Mem}
theorem x_p133 {a ca f g v n : Nat} {c : Cl} {c' : Nat → Nat} (hP : PosAt a (c', π.2) M) (ok : okP π) (hC : okC c') (tca : mT M ca = (1, 1)) (h3 : mI M ca 3 = nI (cAc c)) (hac : cAc c < 20) (hf : f < 12) (hg : g < 12) (hv : v < 9) (hn : n < 12) (hz : c' n ≠ 0 ∨ cAc c ≠ 8) : f_X2_perform_133 (some a) (some ca) (nI f) (nI g) (nI v) (nI n) M = some ((), sL M a 0 (lN (enc 4 (up1 (up1 (if cAc c = 8 ∧ ¬ (c' n - 1) / 4 = π.2.2 then up1 c' n 0 else c') f 0) g v) 12))) := by
  have ht := ok.2.2.2
  have two : ∀ (M : Mem) (d : Nat → Nat), PosAt a (d, π.2) M → okC d → cR M (some a) (1, 4) (cA (f_X4_setCell (some a) (nI f) (0 : Int32) M) fun _ M10 => cR M10 (some a) (1, 4) (cA (f_X4_setCell (some a) (nI g) (nI v) M10) fun _ M11 => some ((), M11))) = some ((), sL M a 0 (lN (enc 4 (up1 (up1 d f 0) g v) 12))) := by
    intro M d hd hC
    have hP1 : PosAt a (up1 d f 0, π.2) (sL M a 0 (lN (enc 4 (up1 d f 0) 12))) := hd.set
    rw [cR_t hd.1, show (0 : Int32) = nI 0 from rfl, x_set hd (hC.p ok) hf (by decide), cA_s, cR_t hP1.1, x_set hP1 ((hC.up hf (by decide)).p ok) hg hv, cA_s, sL_sL]
  unfold f_X2_perform_133
  rw [gI_t tca, h3]
  by_cases e8 : cAc c = 8
  · have hz' : c' n ≠ 0 := by rcases hz with q | q; exact q; exact absurd e8 q
    have k9 : c' n < 9 := hC.1 n
    rw [if_pos (by rw [e8]; rfl), if_neg (show ¬ nI n = -1 from fun q => (nI_nm1 (by omega)).mp q), cR_t hP.1, x_cell hP (hC.p ok) (by omega), cA_s, x_sideOf (by have : c' n < 9 := k9; show c' n < 2 ^ 31; omega), cA_s, gI_t hP.1, hP.2.2.2]
    by_cases es : (c' n - 1) / 4 = π.2.2
    · rw [if_pos ((sideI_eq k9 ht).mpr ⟨hz', es⟩), two M c' hP hC, if_neg (fun q => q.2 es)]
    · have hP1 : PosAt a (up1 c' n 0, π.2) (sL M a 0 (lN (enc 4 (up1 c' n 0) 12))) := hP.set
      rw [if_neg (fun q => es ((sideI_eq k9 ht).mp q).2), cR_t hP.1, show f_X4_setCell (some a) (nI n) (0 : Int32) M = _ from x_set (v := 0) hP (hC.p ok) hn (by decide), cA_s, two _ _ hP1 (hC.up hn (by decide)), sL_sL, if_pos ⟨e8, es⟩]
  · rw [if_neg (show ¬ nI (cAc c) = (8 : Int32) from nIne (b := 8) (by omega) (by decide) e8), two M c' hP hC, if_neg (fun q => e8 q.1)]
/-- the class does a move -/
theorem x_perform {B : Nat → Bst} {x : Option Nat} {a dn : Nat} {b : Int × Nat × Nat × Nat} (hb : Bs w h L nt τ M) (hx : okX nt x) (ok : okN w h π) (hP : PosAt a π M) (hL : LookAt B M) (hdn : dn < 8) (hB : B dn = canS w h (tT τ x) π dn) (hc : canS w h (tT τ x) π dn = some b) : f_X2_perform (some 203) (some a) (some (rT x)) (nI dn) M = some ((), sL M a 0 (lN (enc 4 (actS w h (tT τ x) π dn) 12))) := by
  have hl := hb.lay
  have hle := hb.1.le
  have hra := hx.ra hb.2.2.2.2.1
  obtain ⟨t1, t2, t3, t4, t5, t6⟩ := ly_ra hl hra
  have okt := hb.okT hx
  obtain ⟨q1, q2, q3, c, q4, q5, q6, q7⟩ := bst_ok hb.1 okt ok.1 hdn _ (Nat.le_refl _) b hc
  obtain ⟨hcell, hgo⟩ := to_goal q7
  have hac := okt.ac q4 q5
  obtain ⟨-, -, -, hk20, -, l4, l5, l6⟩ := hL.2 dn hdn b (by rw [hB, hc])
  have hr0 : mR M (rT x) 0 = some (rT x + 1) := (hl.2.2.2.2.1 _ hra).1
  have hrk : mR M (rT x + 1) b.2.2.2 = some (rT x + 5 + b.2.2.2) := (hl.2.2.2.2.1 _ hra).2.2.2.2 _ hk20
  have tca := t6 _ hk20
  obtain ⟨-, r2, -⟩ := (hb.rules hx).2.1 _ c q4
  obtain ⟨f2, f3, f4, f5, -⟩ := r2 q5
  have k9 := ok.1.1 b.2.1
  have ht := ok.1.2.2.2
  have hact : actS w h (tT τ x) π dn = perfS w h π c b.2.1 b.2.2.1 := by unfold actS; rw [hc]; dsimp only; rw [q4]
  rw [hact]
  unfold f_X2_perform
  rw [gR_t t1, hr0, gR_t (ly_t203 hl), ly_r203_2 hl, aI_t (ly_t206 hl) hdn (by decide), l6, aR_t t2 hk20 (by decide), hrk, gR_t (ly_t203 hl), ly_r203_0 hl, aI_t (ly_t204 hl) hdn (by decide), l4, gR_t (ly_t203 hl), ly_r203_1 hl, aI_t (ly_t205 hl) hdn (by decide), l5, cR_t hP.1, x_cell hP ok.1 (by omega), cA_s, gI_t tca, f3]
  unfold perfS
  by_cases h10 : cAc c = 10
  · rw [if_pos h10, if_pos (by rw [h10]; rfl), gI_t tca, f5, x_sideOf (by omega), cA_s, (sideI_eq k9 ht).mpr ⟨by omega, by omega⟩, cR_t hP.1, show (1 : Int32) = nI 1 from rfl, show (4 : Int32) = nI 4 from rfl, nI_add, pk_mul, nI_add, x_set hP ok.1 (by omega) (by omega), cA_s]
  · obtain ⟨n, h1, h2, h3, h4, h5⟩ := goal_near hb.1 q2 hgo h10
    rw [if_neg h10, if_neg (show ¬ nI (cAc c) = (10 : Int32) from nIne (b := 10) (by omega) (by decide) h10), gI_t tca, f5, cR_t (ly_t203 hl), x_beside hb q2 hac.2.2.2, cA_s, h1, oI_s, if_neg (show ¬ nI n = -1 from fun q => (nI_nm1 (by omega)).mp q), gI_t tca, f5, cR_t (ly_t203 hl), x_beside hb h2 hac.2.2.2, cA_s, Option.getD_some]
    unfold f_X2_perform_103
    have hP' : PosAt a (π.1, π.2) M := hP
    by_cases h9 : cAc c = 9
    · obtain ⟨h6, q, h7, h8, -⟩ := h5 (by omega)
      have e1 := x_set (v := π.1 b.2.2.1) hP ok.1 (show q < 12 by omega) (ok.1.1 _)
      have hP1 : PosAt a (up1 π.1 q (π.1 b.2.2.1), π.2) (sL M a 0 (lN (enc 4 (up1 π.1 q (π.1 b.2.2.1)) 12))) := hP.set
      rw [h7, oI_s, gI_t tca, f3, if_pos (by rw [h9]; rfl), if_neg (show ¬ nI q = -1 from fun z => (nI_nm1 (by omega)).mp z), cR_t hP.1, x_cell hP ok.1 (by omega), cA_s, cR_t hP.1, e1, cA_s, x_p133 hP1 ok.1 (ok.1.c.up (by omega) (ok.1.1 _)) (by exact tca) (by exact f3) (by omega) (by omega) (by omega) k9 (by omega) (Or.inr (by omega)), sL_sL, if_pos h9, Option.getD_some, if_neg (fun z => by omega)]
    · rw [gI_t tca, f3, if_neg (show ¬ nI (cAc c) = (9 : Int32) from nIne (b := 9) (by omega) (by decide) h9), x_p133 hP' ok.1 ok.1.c tca f3 (by omega) (by omega) (by omega) k9 (by omega) (by
        by_cases h8 : cAc c = 8
        · exact Or.inl (h5 (by omega)).1
        · exact Or.inr h8), if_neg h9]
end PERF
