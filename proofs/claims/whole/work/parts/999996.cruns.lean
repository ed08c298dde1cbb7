/-! ===== can a game run for ever: the reference; runs ===== -/
def dI : Nat → Int32
  | 0 => -1
  | k + 1 => nI k
theorem dI_s {k : Nat} : nI k + (-1 : Int32) = dI k := by
  cases k with
  | zero => rfl
  | succ k =>
    show nI (k + 1) + (-1 : Int32) = nI k
    rw [Int32.add_neg_eq_sub]
    exact nI_pred k
section CRUNS
variable {w h L nt : Nat} {τ : Nat → Txt} {n : Nat} {op : Nat → Chi} {tg : Nat → Nat} {O : Pos → Chi} {S : Pos → Nat → Nat → Pos} {Q : Nat → Pos}
/-- those that are gone -/
def GnM (O : Pos → Chi) (S : Pos → Nat → Nat → Pos) (Q : Nat → Pos) (n : Nat) (gl : List Nat) (M : Mem) : Prop := (∀ i, i < n → mI M 269 i = nI (decide (i ∈ gl)).toNat) ∧ gl.Nodup ∧ (∀ i, i ∈ gl → i < n) ∧ ∀ i, i ∈ gl → Gn O S (Q i)
def gof (op : Nat → Chi) (tg : Nat → Nat) (gl : List Nat) (i : Nat) (l : List Nat) : Bool := l.any (fun p => vEx op (64 * i + p) && !decide (tg (64 * i + p) ∈ gl))
theorem y_gof_l {i : Nat} {gl : List Nat} {M : Mem} (hb : Bs w h L nt τ M) (hn : n ≤ 2000) (hF : FoM n op tg M) (hg : GnM O S Q n gl M) (hi : i < n) : ∀ (k f p : Nat), p + k = 64 → k < f → f_X12_goesOnFrom_2 f (some 230) (nI i) (nI p) M = some (nI (gof op tg gl i (List.range' p k)).toNat, M)
  | k, 0, p => fun _ z => absurd z (by omega)
  | 0, f + 1, p => by
    intro hp _
    obtain rfl : p = 64 := by omega
    rw [u_X12_goesOnFrom_2]
    unfold b_X12_goesOnFrom_2
    rw [if_pos (by decide), tv_0]
    rfl
  | k + 1, f + 1, p => by
    intro hp hf
    have hl := hb.lay
    have ih := y_gof_l hb hn hF hg hi k f (p + 1) (by omega) (by omega)
    have e64 : (64 : Int32) * nI i + nI p = nI (64 * i + p) := by rw [show (64 : Int32) = nI 64 from rfl, pk_mul, nI_add]
    obtain ⟨q1, q2⟩ := hF.2 (64 * i + p) (by omega)
    rw [u_X12_goesOnFrom_2, List.range'_succ]
    unfold b_X12_goesOnFrom_2 gof
    rw [List.any_cons, if_neg (show ¬ (64 : Int32) ≤ nI p from nI_ge (b := 64) (by omega) (by decide)), gR_t (ly_t230 hl), ly_r230_61 hl, e64, aI_t (ly_t264 hl) (by omega) (by decide), nI_1]
    cases hv : vEx op (64 * i + p) with
    | false =>
      rw [q2 hv, if_pos (show m1 = (-1 : Int32) from rfl), Bool.false_and, Bool.false_or]
      exact ih
    | true =>
      obtain ⟨t1, t2⟩ := q1 hv
      rw [t2, if_neg (show ¬ nI (tg (64 * i + p)) = (-1 : Int32) from fun z => (nI_nm1 (by omega)).mp z), gR_t (ly_t230 hl), ly_r230_69 hl, aI_t (ly_t269 hl) (by omega) (by decide), hg.1 _ t1, Bool.true_and]
      cases hd : decide (tg (64 * i + p) ∈ gl) with
      | true => rw [if_neg (by decide), Bool.not_true, Bool.false_or]; exact ih
      | false => rw [if_pos (by decide), tv_1, Bool.not_false, Bool.true_or]; rfl
theorem gof_f {i : Nat} {gl : List Nat} (hi : i < n) : gof op tg gl i (List.range' 0 64) = false ↔ ∀ e, e < 64 * n → e / 64 = i → vEx op e = true → tg e ∈ gl := by
  unfold gof
  rw [List.any_eq_false]
  constructor
  · intro z e he hei hv
    have := z (e % 64) (List.mem_range'_1.mpr (by omega))
    rw [← hei, show 64 * (e / 64) + e % 64 = e by omega, hv] at this
    simpa using this
  · intro z p hp
    have h64 := List.mem_range'_1.mp hp
    cases hv : vEx op (64 * i + p) with
    | false => simp
    | true =>
      rw [decide_eq_true (z (64 * i + p) (by omega) (by omega) hv)]
      simp
theorem y_r53 (hn : n ≤ 2000) (hG : Grf O S Q n op tg) {M0 : Mem} (g : Option Nat → Int32 → Int32 → Mem → Option (Int32 × Mem)) : ∀ (k f : Nat) (gl : List Nat) (mo : Bool) (M : Mem), k < f → k ≤ n → Bs w h L nt τ M → FoM n op tg M → GnM O S Q n gl M → Fx [269] [] M0 M → ∃ gl' mo' M', f_X12_runs_53 g f (some 230) (nI (n - gl.length)) (nI (Bool.toNat mo)) (dI k) M = g (some 230) (nI (n - gl'.length)) (nI (Bool.toNat mo')) M' ∧ Fx [269] [] M0 M' ∧ GnM O S Q n gl' M' ∧ (mo' = true → mo = true ∨ gl.length < gl'.length) ∧ (mo' = false → gl' = gl ∧ mo = false ∧ ∀ i, i < k → i ∉ gl → gof op tg gl i (List.range' 0 64) = true) ∧ gl.length ≤ gl'.length
  | k, 0, gl, mo, M => fun z => absurd z (by omega)
  | 0, f + 1, gl, mo, M => by
    intro _ _ hb hF hg fr
    refine ⟨gl, mo, M, ?_, fr, hg, Or.inl, fun z => ⟨rfl, z, fun i hi => absurd hi (by omega)⟩, Nat.le_refl _⟩
    rw [u_X12_runs_53]
    unfold b_X12_runs_53
    rw [if_pos (show dI 0 < 0 by decide)]
  | k + 1, f + 1, gl, mo, M => by
    intro hf hk hb hF hg fr
    have hl := hb.lay
    have hlen := nd_len hg.2.1 hg.2.2.1
    have same : (k ∈ gl ∨ gof op tg gl k (List.range' 0 64) = true) → ∃ gl' mo' M', f_X12_runs_53 g f (some 230) (nI (n - gl.length)) (nI (Bool.toNat mo)) (dI k) M = g (some 230) (nI (n - gl'.length)) (nI (Bool.toNat mo')) M' ∧ Fx [269] [] M0 M' ∧ GnM O S Q n gl' M' ∧ (mo' = true → mo = true ∨ gl.length < gl'.length) ∧ (mo' = false → gl' = gl ∧ mo = false ∧ ∀ i, i < k + 1 → i ∉ gl → gof op tg gl i (List.range' 0 64) = true) ∧ gl.length ≤ gl'.length := by
      intro hkg
      obtain ⟨gl', mo', M', z1, z2, z3, z4, z5, z6⟩ := y_r53 hn hG g k f gl mo M (by omega) (by omega) hb hF hg fr
      refine ⟨gl', mo', M', z1, z2, z3, z4, fun y => ?_, z6⟩
      obtain ⟨a, b, c⟩ := z5 y
      refine ⟨a, b, fun i hi hni => ?_⟩
      by_cases e : i = k
      · subst e
        rcases hkg with q | q
        · exact absurd q hni
        · exact q
      · exact c i (by omega) hni
    rw [u_X12_runs_53]
    unfold b_X12_runs_53
    show ∃ gl' mo' M', (if nI k < 0 then _ else _) = _ ∧ _
    rw [if_neg (nI_pos (by omega)), gR_t (ly_t230 hl), ly_r230_69 hl, show dI (k + 1) = nI k from rfl, aI_t (ly_t269 hl) (by omega) (by decide), hg.1 k (by omega), dI_s (k := k)]
    by_cases hkg : k ∈ gl
    · rw [decide_eq_true hkg, if_neg (show ¬ nI true.toNat = 0 by decide)]
      exact same (Or.inl hkg)
    · have hgo : f_X12_goesOnFrom (some 230) (nI k) M = some (nI (gof op tg gl k (List.range' 0 64)).toNat, M) := y_gof_l hb hn hF hg (show k < n by omega) 64 FU 0 (by omega) (by decide)
      rw [decide_eq_false hkg, if_pos (show nI false.toNat = 0 by decide), cR_t (ly_t230 hl), hgo, cA_s]
      cases hgf : gof op tg gl k (List.range' 0 64) with
      | true => rw [if_neg (show ¬ nI true.toNat = 0 by decide)]; exact same (Or.inr hgf)
      | false =>
        have hlt := nd_lt hg.2.1 hg.2.2.1 (show k < n by omega) hkg
        have f1 : Fx [269] [] M (sI M 269 k (nI 1)) := Fx.wI (Or.inl (by decide))
        have hg1 : GnM O S Q n (gl ++ [k]) (sI M 269 k (nI 1)) := by
          refine ⟨fun i hi => ?_, ?_, fun i hi => ?_, fun i hi => ?_⟩
          · by_cases e : i = k
            · subst e; rw [mI_e, decide_eq_true (by simp)]; rfl
            · rw [mI_nk e, hg.1 i hi]
              congr 2
              rw [Bool.eq_iff_iff]
              simp [e]
          · rw [List.nodup_append]
            exact ⟨hg.2.1, by simp, fun a ha b hb' => by
              rw [List.mem_singleton] at hb'
              subst hb'
              exact fun z => hkg (z ▸ ha)⟩
          · rcases List.mem_append.mp hi with q | q
            · exact hg.2.2.1 i q
            · rw [List.mem_singleton] at q; omega
          · rcases List.mem_append.mp hi with q | q
            · exact hg.2.2.2 i q
            · rw [List.mem_singleton] at q
              subst q
              have hin : i < n := by omega
              refine Gn.mk (fun no dn h1 h2 he => ?_)
              obtain ⟨g0, g1, g2⟩ := hG.ex hin h1 h2 he
              rw [← g2]
              exact hg.2.2.2 _ ((gof_f hin).mp hgf (64 * i + 8 * no + dn) (by omega) (by omega) g0)
        obtain ⟨gl', mo', M', z1, z2, z3, z4, z5, z6⟩ := y_r53 hn hG g k f (gl ++ [k]) true _ (by omega) (by omega) (hb.fx f1 (by decide) (by decide)) (hF.fx f1 (by decide) (by decide)) hg1 (fr.tr f1)
        rw [List.length_append] at z1 z4 z6
        simp only [List.length_singleton] at z1 z4 z6
        refine ⟨gl', mo', M', ?_, z2, z3, fun _ => Or.inr (by omega), fun y => absurd (z5 y).2.1 (by decide), by omega⟩
        rw [if_pos (show nI false.toNat = 0 by decide), gR_t (ly_t230 hl), ly_r230_69 hl, show vp_nar .boolean (1 : Int32) = nI 1 from rfl, wI_t (ly_t269 hl) (by omega) (by decide), show nI (n - gl.length) + (-1 : Int32) = nI (n - (gl.length + 1)) by
          rw [dI_s, show n - gl.length = (n - (gl.length + 1)) + 1 by omega]; rfl]
        exact z1
theorem y_r40 (hn : n ≤ 2000) (hG : Grf O S Q n op tg) {M0 : Mem} : ∀ (k f : Nat) (gl : List Nat) (M : Mem), n - gl.length ≤ k → k + 1 < f → 0 < n → Bs w h L nt τ M → FoM n op tg M → mI M 230 58 = nI n → GnM O S Q n gl M → Fx [269] [] M0 M → ∃ v M', f_X12_runs_40 f (some 230) (nI (n - gl.length)) (nI 1) M = some (nI v, M') ∧ Fx [269] [] M0 M' ∧ crc O S Q n v
  | k, 0, gl, M => fun _ z => absurd z (by omega)
  | k, f + 1, gl, M => by
    intro hk hf h0 hb hF hs hg fr
    have hl := hb.lay
    have hlen := nd_len hg.2.1 hg.2.2.1
    obtain ⟨gl', mo', M1, z1, z2, z3, z4, z5, z6⟩ := y_r53 (w := w) (h := h) (L := L) (nt := nt) (τ := τ) hn hG (M0 := M) (f_X12_runs_40 f) n FU gl false M (by unfold FU; omega) (Nat.le_refl _) hb hF hg Fx.rf
    have hlen' := nd_len z3.2.1 z3.2.2.1
    have hb1 := hb.fx z2 (by decide) (by decide)
    have top : f_X12_runs_40 (f + 1) (some 230) (nI (n - gl.length)) (nI 1) M = f_X12_runs_40 f (some 230) (nI (n - gl'.length)) (nI (Bool.toNat mo')) M1 := by
      rw [u_X12_runs_40]
      unfold b_X12_runs_40
      rw [if_neg (by decide), gI_t (ly_t230 hl), hs, ← z1, show nI n - (1 : Int32) = dI n by
        obtain ⟨m, rfl⟩ : ∃ m, n = m + 1 := ⟨n - 1, by omega⟩
        exact nI_pred m]
      rfl
    cases mo' with
    | true =>
      have hgt : gl.length < gl'.length := by
        rcases z4 rfl with q | q
        · cases q
        · exact q
      match k, hk, hf with
      | 0, hk, _ => exact absurd hk (by omega)
      | k + 1, hk, hf =>
      obtain ⟨v, M2, y1, y2, y3⟩ := y_r40 hn hG k f gl' M1 (by omega) (by omega) h0 hb1 (hF.fx z2 (by decide) (by decide)) (by rw [z2.ib (by decide)]; exact hs) z3 (fr.tr z2)
      exact ⟨v, M2, Eq.trans top y1, y2, y3⟩
    | false =>
      obtain ⟨rfl, -, hcl⟩ := z5 rfl
      have hcut : Cut O S Q n op tg (fun i => i ∈ gl') := by
        refine ⟨fun i hi z => ?_, fun i hi hq => hg.2.2.2 i hq⟩
        apply Classical.byContradiction
        intro y
        have := hcl i hi y
        rw [(gof_f hi).mpr z] at this
        cases this
      have hall := hcut.all hG
      have hle := all_len hg.2.1 hg.2.2.1 (n := n)
      obtain ⟨f', rfl⟩ : ∃ f', f = f' + 1 := ⟨f - 1, by omega⟩
      by_cases z : n ≤ gl'.length
      · refine ⟨0, M1, ?_, fr.tr z2, by decide, fun _ => hall.mp (hle.mp z), fun _ => rfl⟩
        rw [top, u_X12_runs_40]
        unfold b_X12_runs_40
        rw [if_pos (by decide), show n - gl'.length = 0 by omega, if_pos (by decide)]
        rfl
      · refine ⟨1, M1, ?_, fr.tr z2, by decide, (fun y => by cases y), fun y => absurd (hle.mpr (hall.mpr y)) z⟩
        rw [top, u_X12_runs_40]
        unfold b_X12_runs_40
        rw [if_pos (by decide), if_neg (nI_nle (by omega) (by omega))]
        rfl
theorem y_r12 (hn : n ≤ 2000) (hG : Grf O S Q n op tg) {M0 : Mem} : ∀ (k f s : Nat) (M : Mem), s + k = n → k < f → 0 < n → Bs w h L nt τ M → FoM n op tg M → mI M 230 58 = nI n → (∀ i, i < s → mI M 269 i = nI 0) → Fx [269] [] M0 M → ∃ v M', f_X12_runs_12 f (some 230) (nI s) M = some (nI v, M') ∧ Fx [269] [] M0 M' ∧ crc O S Q n v
  | k, 0, s, M => fun _ z => absurd z (by omega)
  | 0, f + 1, s, M => by
    intro hs _ h0 hb hF h58 hz fr
    obtain rfl : s = n := by omega
    have hl := hb.lay
    obtain ⟨v, M', z1, z2, z3⟩ := y_r40 hn hG s FU [] M (by simp) (by unfold FU; omega) h0 hb hF h58 ⟨fun i hi => by rw [hz i hi]; rfl, List.nodup_nil, (fun i hi => by cases hi), (fun i hi => by cases hi)⟩ fr
    refine ⟨v, M', ?_, z2, z3⟩
    rw [u_X12_runs_12]
    unfold b_X12_runs_12
    rw [gI_t (ly_t230 hl), h58, if_pos (Int32.le_refl _), gI_t (ly_t230 hl), h58]
    exact z1
  | k + 1, f + 1, s, M => by
    intro hs hf h0 hb hF h58 hz fr
    have hl := hb.lay
    have f1 : Fx [269] [] M (sI M 269 s (nI 0)) := Fx.wI (Or.inl (by decide))
    rw [u_X12_runs_12]
    unfold b_X12_runs_12
    rw [gI_t (ly_t230 hl), h58, if_neg (nI_ge (by omega) (by omega)), gR_t (ly_t230 hl), ly_r230_69 hl, show vp_nar .boolean (0 : Int32) = nI 0 from rfl, wI_t (ly_t269 hl) (by omega) (by decide), nI_1]
    refine y_r12 hn hG k f (s + 1) _ (by omega) (by omega) h0 (hb.fx f1 (by decide) (by decide)) (hF.fx f1 (by decide) (by decide)) (by rw [f1.ib (by decide)]; exact h58) (fun i hi => ?_) (fr.tr f1)
    by_cases e : i = s
    · subst e; exact mI_e
    · rw [mI_nk e]; exact hz i (by omega)
end CRUNS
section CRUNS2
variable {w h L : Nat} {s s' : Std} {τ : Nat → Txt} {tp : Nat → Nat} {ln : Nat} {fl fp : Int32} {M : Mem}
theorem c_runs (hr : Rel w h L s s' τ tp ln fl fp M) : EndC w h L s s' τ tp ln fl fp M (f_X11_runs (some 8)) (f_X12_runs (some 230)) := by
  have hl := hr.1.1.1.lay
  obtain ⟨v, M1, a1, a2, a3⟩ := x_slv hr
  have hl1 := a2.1.1.1.lay
  rcases a3.2.2 with ⟨rfl, -, hm'⟩ | ⟨rfl, -, Q, n, tg, hS⟩
  · rcases y_statesM a2.1.1.m with ⟨Q', n', t', M2, b1, b2, b3, b4, b5⟩ | ⟨M2, b1, b2, b3⟩
    · exact ((b3.fol b4 b5).1.few hm').elim
    · refine ⟨-2, M1, M2, ?_, ?_, a2.fy b2 (by decide) (by decide) (by decide)⟩
      · unfold f_X11_runs
        rw [gR_t (ly_t8 hl), ly_r8_2 hl, gR_t (ly_t9 hl), ly_r9_0 hl, cR_t (ly_t8 hl), a1, cA_s, if_pos (by decide)]
      · unfold f_X12_runs
        rw [cR_t (ly_t230 hl1), b1, cA_s, if_pos (by decide)]
  · obtain ⟨vx, M2, c1, c2, c3⟩ := x_hasCircle a2.1.1.1 hS.1.1 hS.2.2.1 hS.2.1 hS.2.2.2.1 hS.2.2.2.2.1
    have hr2 := a2.fy c2 (by decide) (by decide) (by decide)
    have hl2 := hr2.1.1.1.lay
    have ex : f_X11_runs (some 8) M = some (nI vx, M2) := by
      unfold f_X11_runs
      rw [gR_t (ly_t8 hl), ly_r8_2 hl, gR_t (ly_t9 hl), ly_r9_0 hl, cR_t (ly_t8 hl), a1, cA_s, if_neg (by decide), gR_t (ly_t8 hl1), ly_r8_11 hl1, cR_t (ly_t220 hl1), c1, cA_s]
      rcases (show vx = 0 ∨ vx = 1 by have := c3.1; omega) with rfl | rfl
      · rw [if_pos (by decide)]; rfl
      · rw [if_neg (by decide)]; rfl
    rcases y_statesM hr2.1.1.m with ⟨Q', n', t', M3, b1, b2, b3, b4, b5⟩ | ⟨M3, b1, b2, b3⟩
    · have hm := b3.fol b4 b5
      obtain ⟨vy, M4, d1, d2, d3⟩ := y_r12 (M0 := M3) hm.1.1 hm.2.2.1 n' FU 0 M3 (by omega) (by have := hm.1.1; unfold FU; omega) hm.1.2.2.2.1.1 b3.1 hm.2.2.2 hm.2.1 (fun i hi => absurd hi (by omega)) Fx.rf
      have hiff : (∀ i, i < n → Gn (opS w h (tT τ (stB s))) (sucS w h (tT τ (stB s))) (Q i)) ↔ ∀ i, i < n' → Gn (opS w h (tT τ (stB s))) (sucS w h (tT τ (stB s))) (Q' i) := by
        constructor
        · intro z i hi
          obtain ⟨j, j1, j2⟩ := hS.1.mem (hm.1.2.1 i hi).2
          rw [← j2]; exact z j j1
        · intro z i hi
          obtain ⟨j, j1, j2⟩ := hm.1.mem (hS.1.2.1 i hi).2
          rw [← j2]; exact z j j1
      have hvv : vx = vy := by
        have e1 := c3.2
        have e2 := d3.2
        have := c3.1
        have := d3.1
        rw [← hiff] at e2
        by_cases z : vx = 0
        · rw [z, e2.mpr (e1.mp z)]
        · have : ¬ vy = 0 := fun y => z (e1.mpr (e2.mp y))
          omega
      refine ⟨nI vx, M2, M4, ex, ?_, (hr2.fy b2 (by decide) (by decide) (by decide)).fy d2 (by decide) (by decide) (by decide)⟩
      unfold f_X12_runs
      rw [cR_t (ly_t230 hl2), b1, cA_s, if_neg (by decide), hvv]
      exact d1
    · exact (hS.1.few b3).elim
end CRUNS2
