/-! ===== what the class keeps of a walk ===== -/
theorem sR_self {M : Mem} {a k : Nat} {v : Option Nat} (h : mR M a k = v) : sR M a k v = M := by
  have e : up2 M.2.2.2.2 a k v = M.2.2.2.2 := by
    funext b j
    unfold up2 up1
    by_cases h1 : b = a
    · subst h1
      rw [if_pos rfl]
      by_cases h2 : j = k
      · subst h2; rw [if_pos rfl]; exact h.symm
      · rw [if_neg h2]
    · rw [if_neg h1]
  show (M.1, M.2.1, M.2.2.1, M.2.2.2.1, up2 M.2.2.2.2 a k v) = M
  rw [e]
theorem rT_inj {x y : Option Nat} (e : rT x = rT y) : x = y := by
  cases x with
  | none =>
    cases y with
    | none => rfl
    | some t => exfalso; change 18 = 50 + 25 * t at e; omega
  | some u =>
    cases y with
    | none => exfalso; change 50 + 25 * u = 18 at e; omega
    | some t => change 50 + 25 * u = 50 + 25 * t at e; rw [show u = t by omega]
theorem rT_8 {x : Option Nat} : 8 ≤ rT x := by
  cases x with
  | none => show 8 ≤ 18; omega
  | some t => show 8 ≤ 50 + 25 * t; omega
/-- a decided row of states -/
def SolX (w h : Nat) (T : Txt) (r : Pos) (Q : Nat → Pos) (n : Nat) (tg : Nat → Nat) (M : Mem) : Prop :=
  Cls w h T r Q n ∧ mI M 211 2 = nI n ∧ Grf (opS w h T) (sucS w h T) Q n (fun i => opS w h T (Q i)) tg ∧ OpX n (fun i => opS w h T (Q i)) tg M ∧ LkX n (fun i => opS w h T (Q i)) tg (64 * n) M ∧ FinX (opS w h T) (sucS w h T) Q n M
def Sol (w h : Nat) (τ : Nat → Txt) (x : Option Nat) (r : Pos) (v : Nat) (M : Mem) : Prop :=
  mR M 211 11 = some (rT x) ∧ PosAt 217 r M ∧ ((v = 0 ∧ mI M 211 3 = nI 1 ∧ Many w h (tT τ x) r) ∨ (v = 1 ∧ mI M 211 3 = nI 0 ∧ ∃ Q n tg, SolX w h (tT τ x) r Q n tg M))
def Cch (w h nt : Nat) (τ : Nat → Txt) (M : Mem) : Prop := mR M 211 11 = none ∨ ∃ x r v, okX nt x ∧ okN w h r ∧ Sol w h τ x r v M
abbrev kpL : List Nat := [212, 213, 217, 221, 222, 223, 224, 225, 226]
def okW (A : List Nat) (F : List (Nat × Nat)) : Bool := A.all (fun b => !(211 :: kpL).contains b) && F.all (fun q => !kpL.contains q.1 && q != (211, 2) && q != (211, 3))
theorem okW_a {A : List Nat} {F : List (Nat × Nat)} (h : okW A F = true) {b : Nat} (hb : b ∈ kpL) : b ∉ A ∧ ∀ q ∈ F, q.1 ≠ b := by
  unfold okW at h
  simp only [Bool.and_eq_true, List.all_eq_true, Bool.not_eq_true', List.contains_eq_mem, decide_eq_false_iff_not] at h
  refine ⟨fun q => h.1 b q (List.mem_cons_of_mem _ hb), fun q hq e => ?_⟩
  have := (h.2 q hq).1.1
  rw [e] at this
  exact this hb
theorem okW_f {A : List Nat} {F : List (Nat × Nat)} (h : okW A F = true) : 211 ∉ A ∧ (211, 2) ∉ F ∧ (211, 3) ∉ F := by
  unfold okW at h
  simp only [Bool.and_eq_true, List.all_eq_true, Bool.not_eq_true', List.contains_eq_mem, decide_eq_false_iff_not, bne_iff_ne] at h
  exact ⟨fun q => h.1 211 q List.mem_cons_self, fun q => (h.2 _ q).1.2 rfl, fun q => (h.2 _ q).2 rfl⟩
theorem FinX.fx {O : Pos → Chi} {S : Pos → Nat → Nat → Pos} {Q : Nat → Pos} {n : Nat} {M M' : Mem} {A : List Nat} {F : List (Nat × Nat)} (hf : FinX O S Q n M) (fr : Fx A F M M') (ho : okW A F = true) : FinX O S Q n M' := by
  unfold FinX LdX at *
  rw [fr.ib (okW_a ho (b := 221) (by decide)), fr.ib (okW_a ho (b := 222) (by decide)), fr.ib (okW_a ho (b := 223) (by decide)), fr.ib (okW_a ho (b := 224) (by decide))]
  exact hf
section SOLVED
variable {w h L nt : Nat} {τ : Nat → Txt} {x : Option Nat} {r : Pos} {M M' : Mem}
theorem SolX.fx {T : Txt} {Q : Nat → Pos} {n : Nat} {tg : Nat → Nat} {A : List Nat} {F : List (Nat × Nat)} (hs : SolX w h T r Q n tg M) (fr : Fx A F M M') (ho : okW A F = true) : SolX w h T r Q n tg M' := by
  obtain ⟨a1, a2, a3, a4, a5, a6⟩ := hs
  have f := okW_f ho
  exact ⟨a1, by rw [fr.i f.1 f.2.1]; exact a2, a3, a4.fx fr (okW_a ho (by decide)) (okW_a ho (by decide)), a5.fx fr (okW_a ho (by decide)) (okW_a ho (by decide)), a6.fx fr ho⟩
theorem Sol.fx {v : Nat} {A : List Nat} {F : List (Nat × Nat)} (hs : Sol w h τ x r v M) (fr : Fx A F M M') (ho : okW A F = true) : Sol w h τ x r v M' := by
  obtain ⟨a1, a2, a3⟩ := hs
  have f := okW_f ho
  refine ⟨by rw [fr.2.2.1]; exact a1, a2.fx fr (okW_a ho (by decide)), ?_⟩
  rcases a3 with ⟨b1, b2, b3⟩ | ⟨b1, b2, Q, n, tg, b3⟩
  · exact Or.inl ⟨b1, by rw [fr.i f.1 f.2.2]; exact b2, b3⟩
  · exact Or.inr ⟨b1, by rw [fr.i f.1 f.2.2]; exact b2, Q, n, tg, b3.fx fr ho⟩
theorem Cch.fx {A : List Nat} {F : List (Nat × Nat)} (hc : Cch w h nt τ M) (fr : Fx A F M M') (ho : okW A F = true) : Cch w h nt τ M' := by
  rcases hc with q | ⟨x, r, v, q1, q2, q3⟩
  · exact Or.inl (by rw [fr.2.2.1]; exact q)
  · exact Or.inr ⟨x, r, v, q1, q2, q3.fx fr ho⟩
theorem x_isFrom {a : Nat} {π : Pos} (hb : Bs w h L nt τ M) (hC : Cch w h nt τ M) (hP : PosAt a π M) (ok : okN w h π) : (f_X8_isFrom (some 211) (some a) (some (rT x)) M = some (nI 1, M) ∧ ∃ v, Sol w h τ x π v M) ∨ f_X8_isFrom (some 211) (some a) (some (rT x)) M = some (nI 0, M) := by
  have hl := hb.lay
  have h8 := rT_8 (x := x)
  unfold f_X8_isFrom ac
  rw [gR_t (ly_t211 hl)]
  rcases hC with q | ⟨y, r, v, q1, q2, q3⟩
  · right
    rw [q, if_pos ⟨(fun _ z => by cases z), (fun _ z => by cases z; exact h8)⟩, if_neg (fun z => by cases z), tv_0]
    rfl
  · obtain ⟨e1, e2, e3⟩ := id q3
    have hc8 : (∀ a, some (rT y) = some a → 8 ≤ a) ∧ (∀ a, some (rT x) = some a → 8 ≤ a) := ⟨fun _ z => by cases z; exact rT_8, fun _ z => by cases z; exact h8⟩
    rw [e1, if_pos hc8]
    by_cases hxy : rT y = rT x
    · obtain rfl := rT_inj hxy
      have b1 := btN_lt q2.1
      have b2 := btN_lt ok.1
      have c1 := q2.1.hlt
      have c2 := ok.1.hlt
      rw [if_pos rfl, gR_t (ly_t211 hl), ly_r211_8 hl, cR_t e2.1, x_boardAndTurn e2 q2.1, cA_s, cR_t hP.1, x_boardAndTurn hP ok.1, cA_s]
      by_cases d1 : btN r = btN π
      · rw [if_pos ((lg_cmp_eq _ _).mpr (by rw [d1])), gR_t (ly_t211 hl), ly_r211_8 hl, gI_t e2.1, e2.2.2.1, gI_t hP.1, hP.2.2.1]
        by_cases d2 : enc 2 r.2.1 8 = enc 2 π.2.1 8
        · obtain rfl := q2.ext ok d1 d2
          left
          exact ⟨by rw [if_pos rfl, tv_1]; rfl, v, q3⟩
        · right
          rw [if_neg (nIne (by omega) (by omega) d2), tv_0]
          rfl
      · right
        rw [if_neg (fun z => d1 ((lN_eqq (by omega) (by omega)).mp ((lg_cmp_eq _ _).mp z))), tv_0]
        rfl
    · right
      rw [if_neg (fun z => hxy (Option.some.inj z)), tv_0]
      rfl
abbrev svA : List Nat := [201, 202, 204, 205, 206, 207, 212, 213, 214, 215, 216, 217, 218, 219, 221, 222, 223, 224, 225, 226, 227, 228, 229]
abbrev svF : List (Nat × Nat) := [(203, 3), (211, 2), (211, 3), (220, 11), (220, 12)]
theorem ExI.opx {Q : Nat → Pos} {n : Nat} {t : Nat → Nat} (hI : ExI w h L nt τ x r false Q n t n (fun _ _ => False) M) : OpX n (fun i => opS w h (tT τ x) (Q i)) (fun e => tN (mI M 213 e)) M ∧ Grf (opS w h (tT τ x)) (sucS w h (tT τ x)) Q n (fun i => opS w h (tT τ x) (Q i)) (fun e => tN (mI M 213 e)) := by
  obtain ⟨i1, i2, i3, i4, i4', i5, i6, i7⟩ := hI
  have hn := i3.1
  have key : ∀ e, e < 64 * n → vEx (fun i => opS w h (tT τ x) (Q i)) e = true → ∃ j, j < n ∧ mI M 213 e = nI j ∧ tN (mI M 213 e) = j ∧ Q j = sucS w h (tT τ x) (Q (e / 64)) (e / 8 % 8) (e % 8) := by
    intro e he hv
    have hed : Edg w h (tT τ x) (Q (e / 64)) (e / 8 % 8) (e % 8) := by
      unfold vEx at hv
      simp only [Bool.and_eq_true, Bool.not_eq_true', beq_eq_false_iff_ne, ne_eq] at hv
      exact ⟨by omega, by omega, hv.1.1, hv.1.2, hv.2⟩
    obtain ⟨j, j1, j2, j3⟩ := ((i7 rfl).1 (e / 64) (by omega)).2 _ _ hed
    rw [show e / 64 * 64 + e / 8 % 8 * 8 + e % 8 = e by omega] at j2
    exact ⟨j, j1, j2, by rw [j2]; exact tN_n (by omega), j3⟩
  refine ⟨⟨fun i hi => ((i7 rfl).1 i hi).1, fun e he hv => ?_⟩, fun i hi => rfl, fun e he hv => ?_, fun i hi ha => op_tri ha⟩
  · obtain ⟨j, j1, j2, j3, j4⟩ := key e he hv
    show tN (mI M 213 e) < n ∧ mI M 213 e = nI (tN (mI M 213 e))
    rw [j3]
    exact ⟨j1, j2⟩
  · obtain ⟨j, j1, j2, j3, j4⟩ := key e he hv
    show tN (mI M 213 e) < n ∧ Q (tN (mI M 213 e)) = _
    rw [j3]
    exact ⟨j1, j4⟩
theorem x_solved {a : Nat} {π : Pos} (hb : Bs w h L nt τ M) (hx : okX nt x) (hC : Cch w h nt τ M) (ha : a = 10 ∨ a = 47) (hP : PosAt a π M) (ok : okN w h π) (h5 : mI M 9 5 = oI x) : ∃ v M', f_X11_solved (some 8) (some a) M = some (nI v, M') ∧ Fx svA svF (sR M 211 11 (some (rT x))) M' ∧ Sol w h τ x π v M' := by
  have hl := hb.lay
  unfold f_X11_solved
  rw [gR_t (ly_t8 hl), ly_r8_2 hl, gI_t (ly_t9 hl), h5, cR_t (ly_t8 hl), x_rules hb hx, cA_s, gR_t (ly_t8 hl), ly_r8_10 hl, cR_t (ly_t211 hl)]
  rcases x_isFrom (x := x) hb hC hP ok with ⟨e1, v, hs⟩ | e1
  · refine ⟨v, M, ?_, by rw [sR_self hs.1]; exact Fx.rf, hs⟩
    rw [e1, cA_s, if_neg (by decide), gR_t (ly_t8 hl), ly_r8_10 hl, gI_t (ly_t211 hl)]
    rcases hs.2.2 with ⟨rfl, b2, -⟩ | ⟨rfl, b2, -⟩
    · rw [b2, if_neg (by decide), tv_0]; rfl
    · rw [b2, if_pos (by decide), tv_1]; rfl
  · obtain ⟨sp, Q, n, t, M3, c1, c2, c3, c4, c5, c6⟩ := x_explore hb hx ha hP ok
    have hb3 := c3.1
    have hl3 := hb3.lay
    obtain ⟨i1, i2, i3, i4, i4', i5, i6, i7⟩ := id c3
    rw [e1, cA_s, if_pos (by decide), gR_t (ly_t8 hl), ly_r8_10 hl, cR_t (ly_t211 hl), c1, cA_s, gR_t (ly_t8 hl3), ly_r8_10 hl3, gI_t (ly_t211 hl3), i4]
    cases sp with
    | true =>
      refine ⟨0, M3, ?_, c2.mono (by decide) (by decide), i4', c6, Or.inl ⟨rfl, i4, c3.many⟩⟩
      rw [if_neg (by decide), gR_t (ly_t8 hl3), ly_r8_10 hl3, gI_t (ly_t211 hl3), i4, if_neg (by decide), tv_0]
      rfl
    | false =>
      obtain ⟨hO, hG⟩ := c3.opx
      obtain ⟨M4, d1, d2, d3⟩ := x_prepare hb3 i3.1 i2.1 hO
      have hb4 := hb3.fx d2 (by decide) (by decide)
      have hl4 := hb4.lay
      have hO4 := hO.fx d2 (by decide) (by decide)
      obtain ⟨M5, g1, g2, g3⟩ := x_decideAll i3.1 hG hb4 hO4 d3
      have hb5 := hb4.fx g2 (by decide) (by decide)
      have hl5 := hb5.lay
      have f35 : Fx (prA ++ daA) (prF ++ daF) M3 M5 := (d2.mono (by decide) (by decide)).tr (g2.mono (by decide) (by decide))
      have h35 : mI M5 211 3 = nI 0 := by rw [f35.i (by decide) (by decide)]; exact i4
      refine ⟨1, M5, ?_, (c2.mono (by decide) (by decide)).tr (f35.mono (by decide) (by decide)), by rw [f35.2.2.1]; exact i4', c6.fx f35 (by decide), Or.inr ⟨rfl, h35, Q, n, _, c3.cls c4 c5, by rw [f35.i (by decide) (by decide)]; exact i2.1, hG, hO.fx f35 (by decide) (by decide), d3.1.fx g2 (by decide) (by decide), g3⟩⟩
      rw [if_pos (by decide), gR_t (ly_t8 hl3), ly_r8_11 hl3, cR_t (ly_t220 hl3), d1, cA_s, gR_t (ly_t8 hl4), ly_r8_11 hl4, cR_t (ly_t220 hl4), g1, cA_s, gR_t (ly_t8 hl5), ly_r8_10 hl5, gI_t (ly_t211 hl5), h35, if_pos (by decide), tv_1]
      rfl
/-- the reference, decided -/
abbrev ryA : List Nat := [252, 253, 254, 255, 256, 257, 258, 262, 263, 264, 265, 266, 267, 268]
def SolM (w h : Nat) (T : Txt) (r : Pos) (Q : Nat → Pos) (n : Nat) (tg : Nat → Nat) (M : Mem) : Prop :=
  Cls w h T r Q n ∧ mI M 230 58 = nI n ∧ Grf (opS w h T) (sucS w h T) Q n (fun i => opS w h T (Q i)) tg ∧ FoM n (fun i => opS w h T (Q i)) tg M
theorem MoI.fol {Q : Nat → Pos} {n : Nat} {t : Nat → Nat} (hI : MoI w h L nt τ x r Q n t n 0 M) (h0 : 0 < n) (hr : Q 0 = r) : SolM w h (tT τ x) r Q n (fun e => tN (mI M 264 e)) M := by
  obtain ⟨i1, i2, i3, i4, i5, -⟩ := id hI
  have hn := i3.1
  have hfl : ∀ e, e < 64 * n → FolM w h (tT τ x) Q n (e / 64) (e % 64) M := fun e he => (i5 (e / 64) (by omega)).2 (e % 64) (by omega)
  have hev : ∀ e, Edg w h (tT τ x) (Q (e / 64)) (e / 8 % 8) (e % 8) ↔ vEx (fun i => opS w h (tT τ x) (Q i)) e = true := fun e => by
    unfold vEx Edg
    simp only [Bool.and_eq_true, Bool.not_eq_true', beq_eq_false_iff_ne, ne_eq]
    constructor
    · rintro ⟨-, -, a, b, c⟩; exact ⟨⟨a, b⟩, c⟩
    · rintro ⟨⟨a, b⟩, c⟩; exact ⟨by omega, by omega, a, b, c⟩
  have key : ∀ e, e < 64 * n → vEx (fun i => opS w h (tT τ x) (Q i)) e = true → ∃ j, j < n ∧ mI M 264 e = nI j ∧ tN (mI M 264 e) = j ∧ Q j = sucS w h (tT τ x) (Q (e / 64)) (e / 8 % 8) (e % 8) := by
    intro e he hv
    have hq := hfl e he
    unfold FolM at hq
    rw [show e % 64 / 8 = e / 8 % 8 by omega, show e % 64 % 8 = e % 8 by omega, show 64 * (e / 64) + e % 64 = e by omega] at hq
    obtain ⟨j, j1, j2, j3⟩ := hq.1 ((hev e).mpr hv)
    exact ⟨j, j1, j2, by rw [j2]; exact tN_n (by omega), j3⟩
  refine ⟨hI.cls h0 hr, i2.1, ⟨fun i hi => rfl, fun e he hv => ?_, fun i hi ha => op_tri ha⟩, fun i hi => (i5 i hi).1, fun e he => ⟨fun hv => ?_, fun hv => ?_⟩⟩
  · obtain ⟨j, j1, j2, j3, j4⟩ := key e he hv
    show tN (mI M 264 e) < n ∧ Q (tN (mI M 264 e)) = _
    rw [j3]
    exact ⟨j1, j4⟩
  · obtain ⟨j, j1, j2, j3, j4⟩ := key e he hv
    show tN (mI M 264 e) < n ∧ mI M 264 e = nI (tN (mI M 264 e))
    rw [j3]
    exact ⟨j1, j2⟩
  · have hq := hfl e he
    unfold FolM at hq
    rw [show e % 64 / 8 = e / 8 % 8 by omega, show e % 64 % 8 = e % 8 by omega, show 64 * (e / 64) + e % 64 = e by omega] at hq
    exact hq.2 (fun z => by rw [(hev e).mp z] at hv; cases hv)
/-- what the reference needs to come to its end -/
def Stb (w h : Nat) (T : Txt) (r : Pos) : Prop := ∀ Q n, Cls w h T r Q n → ∀ π, Rch w h T r π → rsS (opS w h T) (sucS w h T) 2001 π = rsS (opS w h T) (sucS w h T) 2000 π
theorem Sol.stb {v : Nat} (hs : Sol w h τ x r v M) : Stb w h (tT τ x) r := by
  intro Q n hc π hr
  rcases hs.2.2 with ⟨-, -, hm⟩ | ⟨-, -, Q', n', tg, hS⟩
  · exact (hc.few hm).elim
  · obtain ⟨i, hi, rfl⟩ := hS.1.mem hr
    exact hS.2.2.2.2.2.2.2 i hi
theorem y_results {s : Std} (hp : PreM w h L s τ M) (hst : Stb w h (tT τ (stB s)) (stP s)) : (∃ Q n tg M', f_X12_laysResults (some 230) M = some (nI 1, M') ∧ Fx ryA syF M M' ∧ SolM w h (tT τ (stB s)) (stP s) Q n tg M' ∧ RsM n (fun i => rsS (opS w h (tT τ (stB s))) (sucS w h (tT τ (stB s))) 2000 (Q i)) (fun i => tiS (opS w h (tT τ (stB s))) (sucS w h (tT τ (stB s))) 2000 (Q i)) M') ∨ (∃ M', f_X12_laysResults (some 230) M = some (nI 0, M') ∧ Fx ryA syF M M' ∧ Many w h (tT τ (stB s)) (stP s)) := by
  have hl := hp.1.lay
  unfold f_X12_laysResults
  rw [cR_t (ly_t230 hl)]
  rcases y_statesM hp with ⟨Q, n, t, M1, a1, a2, a3, a4, a5⟩ | ⟨M1, a1, a2, a3⟩
  · left
    have hm := a3.fol a4 a5
    obtain ⟨m1', m2', m3', m4'⟩ := id hm
    have hb1 := a3.1
    obtain ⟨M2, b1, b2, b3⟩ := y_lr11 (M0 := M1) m1'.1 m3' (fun i hi => hst Q n m1' _ (m1'.2.1 i hi).2) n FU 0 M1 (by omega) (by have := m1'.1; unfold FU; omega) hb1 m4' m2' (fun i hi => absurd hi (by omega)) Fx.rf
    refine ⟨Q, n, _, M2, ?_, (a2.mono (by decide) (by decide)).tr (b2.mono (by decide) (by decide)), ⟨m1', by rw [b2.ib (by decide)]; exact m2', m3', m4'.fx b2 (by decide) (by decide)⟩, b3⟩
    rw [a1, cA_s, if_neg (by decide)]
    exact b1
  · right
    refine ⟨M1, ?_, a2.mono (by decide) (by decide), a3⟩
    rw [a1, cA_s, if_pos (by decide), tv_0]
    rfl
end SOLVED
