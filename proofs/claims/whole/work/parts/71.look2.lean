/-! ===== the class looks at all moves ===== -/
theorem LookAt.ext {B B' : Nat → Bst} {M : Mem} (h : LookAt B M) (e : ∀ m, m < 8 → B' m = B m) : LookAt B' M := by
  refine ⟨?_, fun m hm b hb => h.2 m hm b (by rw [← e m hm]; exact hb)⟩
  rw [h.1]
  congr 1
  exact bS_ext (fun m hm => by rw [e m hm])
theorem pick_foreign {w h m p : Nat} {π : Pos} (hf : ¬ (π.1 p ≠ 0 ∧ (π.1 p - 1) / 4 = π.2.2)) : ∀ (R : Txt) (i : Nat), (∀ c ∈ R, cTy c = 0 → cKd c < 4) → pickD w h π m p R i = none
  | [], _, _ => rfl
  | c :: R, i, hk => by
    have ih := pick_foreign hf R (i + 1) (fun d hd => hk d (List.mem_cons_of_mem _ hd)) (w := w) (h := h) (m := m)
    by_cases hc : cTy c = 0 ∧ cMv c = m
    · rw [pickD_z]
      · exact ih
      · unfold toS
        have := hk c List.mem_cons_self hc.1
        rw [if_neg (by omega)]
    · rw [pickD_n hc]; exact ih
theorem okT.kd {T : Txt} (h : okT T) : ∀ c ∈ T, cTy c = 0 → cKd c < 4 := by
  intro c hc h0
  obtain ⟨i, hi⟩ := List.mem_iff_getElem?.mp hc
  rcases h.2.1 i c hi with q | q | q
  · exact q.2.2.2.2.1
  · have := q.1; omega
  · have := q.1; omega
theorem up1_id {α : Type} {f : Nat → α} {k : Nat} : up1 f k (f k) = f := by
  funext j
  by_cases e : j = k
  · subst e; exact up1_s
  · exact up1_n e
section LK2
variable {w h L nt : Nat} {τ : Nat → Txt} {π : Pos}
def bAt (w h : Nat) (T : Txt) (π : Pos) (μ : Chi) (p i : Nat) : Nat → Bst := fun m => if μ m = true then (if m < i then bstS w h T π m (p + 1) else bstS w h T π m p) else none
theorem x_consider {M : Mem} {B : Nat → Bst} {x : Option Nat} {a m p : Nat} (hb : Bs w h L nt τ M) (hx : okX nt x) (ok : okP π) (ha : isPA a) (hP : PosAt a π M) (hN : NmAt π M) (hL : LookAt B M) (hm : m < 8) (hp : p < w * h) (hc : π.1 p ≠ 0 ∧ (π.1 p - 1) / 4 = π.2.2) : ∃ M', f_X2_consider (some 203) (some a) (some (rT x)) (nI m) (nI p) M = some ((), M') ∧ Fx xA xF M M' ∧ NmAt π M' ∧ LookAt (lkR B (tT τ x) π m p (pickD w h π m p (tT τ x) 0)) M' := by
  have hl := hb.lay
  have hw := hb.1.le
  have hra := hx.ra hb.2.2.2.2.1
  obtain ⟨t1, t2, t3, t4, t5, t6⟩ := ly_ra hl hra
  have hf : mR M (rT x + 2) m = adr (rT x) (fMd m (tT τ x) 0) := (hb.rules hx).2.2.1 m hm
  have hr1 : mR M (rT x) 1 = some (rT x + 2) := (hl.2.2.2.2.1 _ hra).2.1
  have k9 := ok.1 p
  have tp := hP.1
  unfold f_X2_consider
  rw [cR_t tp, x_cell hP ok (by omega), cA_s, nz_4, gR_t t1, hr1, aR_t t3 hm (by decide), hf, show (1 : Int32) = nI 1 from rfl, show (4 : Int32) = nI 4 from rfl, pk_sub (by omega), pk_rem (by omega) (by decide) (by decide)]
  have hlen := (hb.okT hx).1
  exact x_cons_loop hx ok ha hm hp (Nat.mod_lt _ (by decide)) (by omega) _ 0 FU M B List.drop_zero (by unfold FU; omega) hb hP hN hL
theorem bAt_step {T : Txt} {μ : Chi} {p i : Nat} (hμ : μ i = true) : lkR (bAt w h T π μ p i) T π i p (pickD w h π i p T 0) = bAt w h T π μ p (i + 1) := by
  have hi : bAt w h T π μ p i i = bstS w h T π i p := by unfold bAt; rw [if_pos hμ, if_neg (by omega)]
  have key : bAt w h T π μ p (i + 1) = up1 (bAt w h T π μ p i) i (bstS w h T π i (p + 1)) := by
    funext m
    by_cases e : m = i
    · subst e; rw [up1_s]; unfold bAt; rw [if_pos hμ, if_pos (by omega)]
    · rw [up1_n e]
      unfold bAt
      by_cases hm : m < i
      · rw [if_pos hm, if_pos (show m < i + 1 by omega)]
      · rw [if_neg hm, if_neg (show ¬ m < i + 1 by omega)]
  rw [key]
  cases hp : pickD w h π i p T 0 with
  | none =>
    rw [bstS_n hp, ← hi, up1_id]
    rfl
  | some q =>
    obtain ⟨k, g⟩ := q
    rw [bstS_y hp, ← hi]
    rfl
theorem bAt_skip {T : Txt} {μ : Chi} {p i : Nat} (hs : μ i = false ∨ bstS w h T π i (p + 1) = bstS w h T π i p) : bAt w h T π μ p (i + 1) = bAt w h T π μ p i := by
  funext m
  unfold bAt
  by_cases e : m = i
  · subst e
    rcases hs with hs | hs
    · rw [hs]; rfl
    · rw [if_pos (show m < m + 1 by omega), if_neg (show ¬ m < m by omega), hs]
  · by_cases hm : m < i
    · rw [if_pos hm, if_pos (show m < i + 1 by omega)]
    · rw [if_neg hm, if_neg (show ¬ m < i + 1 by omega)]
theorem x_look47 {x : Option Nat} {a p : Nat} {μ : Chi} (hx : okX nt x) (ok : okP π) (ha : isPA a) (hp : p < w * h) (hc : π.1 p ≠ 0 ∧ (π.1 p - 1) / 4 = π.2.2) (q : Option Nat → Option Nat → Option Nat → Int32 → Int32 → Mem → Option (Unit × Mem)) : ∀ (k n i : Nat) (M : Mem), i + k = 8 → k < n → Bs w h L nt τ M → PosAt a π M → NmAt π M → LookAt (bAt w h (tT τ x) π μ p i) M → ∃ M', f_X2_look_47 q n (some 203) (some a) (some (rT x)) (nI (bS μ 8)) (nI p) (nI i) M = q (some 203) (some a) (some (rT x)) (nI (bS μ 8)) (nI (p + 1)) M' ∧ Fx xA xF M M' ∧ NmAt π M' ∧ LookAt (bAt w h (tT τ x) π μ p 8) M'
  | k, 0, i, M => fun _ q => absurd q (by omega)
  | 0, n + 1, i, M => by
    intro hi _ hb hP hN hL
    obtain rfl : i = 8 := by omega
    refine ⟨M, ?_, Fx.rf, hN, hL⟩
    rw [u_X2_look_47]
    unfold b_X2_look_47
    rw [if_pos (by decide), nI_1]
  | k + 1, n + 1, i, M => by
    intro hi hn hb hP hN hL
    have hl := hb.lay
    have hra := hx.ra hb.2.2.2.2.1
    obtain ⟨t1, t2, t3, t4, t5, t6⟩ := ly_ra hl hra
    have hf : mR M (rT x + 2) i = adr (rT x) (fMd i (tT τ x) 0) := (hb.rules hx).2.2.1 i (by omega)
    have hr1 : mR M (rT x) 1 = some (rT x + 2) := (hl.2.2.2.2.1 _ hra).2.1
    have h8 : ¬ (8 ≤ i) := by omega
    rw [u_X2_look_47]
    unfold b_X2_look_47
    rw [if_neg (show ¬ (8 : Int32) ≤ nI i from nI_ge (b := 8) (by omega) (by decide))]
    by_cases hμ : μ i = true
    · rw [if_neg (fun z => by rw [bS_in (by decide) (by omega), hμ] at z; cases z), gR_t t1, hr1, aR_t t3 (by omega) (by decide), hf, nI_1]
      cases hfm : fMd i (tT τ x) 0 with
      | none =>
        rw [show adr (rT x) none = none from rfl, if_pos rfl]
        rw [← bAt_skip (Or.inr (bstS_n (pickD_none _ _ hfm)))] at hL
        exact x_look47 hx ok ha hp hc q k n (i + 1) M (by omega) (by omega) hb hP hN hL
      | some j =>
        rw [show adr (rT x) (some j) = some (rT x + 5 + j) from rfl, if_neg (by simp), cR_t (ly_t203 hl)]
        obtain ⟨M1, e1, e2, e3, e4⟩ := x_consider (m := i) hb hx ok ha hP hN hL (by omega) hp hc
        rw [e1, cA_s]
        rw [bAt_step hμ] at e4
        obtain ⟨M2, u1, u2, u3, u4⟩ := x_look47 hx ok ha hp hc q k n (i + 1) M1 (by omega) (by omega) (hb.fx e2 (by decide) (by decide)) (hP.fx e2 (pa_x ha)) e3 e4
        exact ⟨M2, u1, e2.tr u2, u3, u4⟩
    · have hμ : μ i = false := by cases h : μ i; rfl; exact absurd h hμ
      rw [if_pos ((bS_in (by decide) (by omega)).mpr hμ), nI_1]
      rw [← bAt_skip (Or.inl hμ)] at hL
      exact x_look47 hx ok ha hp hc q k n (i + 1) M (by omega) (by omega) hb hP hN hL
theorem x_look16 {x : Option Nat} {a : Nat} {μ : Chi} (hx : okX nt x) (ok : okP π) (ha : isPA a) : ∀ (k n p : Nat) (M : Mem), p + k = w * h → k < n → Bs w h L nt τ M → PosAt a π M → NmAt π M → LookAt (bAt w h (tT τ x) π μ p 0) M → ∃ M', f_X2_look_16 n (some 203) (some a) (some (rT x)) (nI (bS μ 8)) (nI p) M = some ((), M') ∧ Fx xA xF M M' ∧ LookAt (bAt w h (tT τ x) π μ (w * h) 0) M' ∧ NmAt π M'
  | k, 0, p, M => fun _ q => absurd q (by omega)
  | 0, n + 1, p, M => by
    intro hp _ hb hP hN hL
    obtain rfl : p = w * h := by omega
    refine ⟨M, ?_, Fx.rf, hL, hN⟩
    rw [u_X2_look_16]
    unfold b_X2_look_16
    rw [gI_t (ly_t203 hb.lay), hb.dim.2.2.1, if_pos (Int32.le_refl _)]
  | k + 1, n + 1, p, M => by
    intro hp hn hb hP hN hL
    have hl := hb.lay
    have hw := hb.1.le
    have k9 := ok.1 p
    have ht := ok.2.2.2
    rw [u_X2_look_16]
    unfold b_X2_look_16
    rw [gI_t (ly_t203 hl), hb.dim.2.2.1, if_neg (nI_ge (by omega) (by omega)), cR_t hP.1, x_cell hP ok (by omega), cA_s, x_sideOf (by omega), cA_s, gI_t hP.1, hP.2.2.2]
    by_cases hc : π.1 p ≠ 0 ∧ (π.1 p - 1) / 4 = π.2.2
    · rw [if_pos ((sideI_eq k9 ht).mpr hc)]
      obtain ⟨M1, e1, e2, e3, e4⟩ := x_look47 hx ok ha (show p < w * h by omega) hc (f_X2_look_16 n) 8 FU 0 M (by omega) (by decide) hb hP hN hL
      rw [nI_0] at e1
      rw [e1]
      have hL1 : LookAt (bAt w h (tT τ x) π μ (p + 1) 0) M1 := e4.ext (fun m hm => by unfold bAt; rw [if_neg (Nat.not_lt_zero m), if_pos hm])
      obtain ⟨M2, u1, u2, u3⟩ := x_look16 hx ok ha k n (p + 1) M1 (by omega) (by omega) (hb.fx e2 (by decide) (by decide)) (hP.fx e2 (pa_x ha)) e3 hL1
      exact ⟨M2, u1, e2.tr u2, u3⟩
    · rw [if_neg (fun z => hc ((sideI_eq k9 ht).mp z)), nI_1]
      have hL1 : LookAt (bAt w h (tT τ x) π μ (p + 1) 0) M := hL.ext (fun m hm => by
        unfold bAt
        rw [if_neg (Nat.not_lt_zero m), if_neg (Nat.not_lt_zero m), bstS_n (pick_foreign hc _ _ (hb.okT hx).kd)])
      exact x_look16 hx ok ha k n (p + 1) M (by omega) (by omega) hb hP hN hL1
/-- what is known behind a look -/
theorem x_lookN {M : Mem} {x : Option Nat} {a : Nat} {μ : Chi} (hb : Bs w h L nt τ M) (hx : okX nt x) (ok : okP π) (ha : isPA a) (hP : PosAt a π M) : ∃ M', f_X2_look (some 203) (some a) (some (rT x)) (nI (bS μ 8)) M = some ((), M') ∧ Fx xA xF M M' ∧ LookAt (fun m => if μ m = true then canS w h (tT τ x) π m else none) M' ∧ NmAt π M' := by
  have hl := hb.lay
  have f0 : Fx xA xF M (sI M 203 3 0) := Fx.wI (Or.inr (by decide))
  have hb0 := hb.fx f0 (by decide) (by decide)
  obtain ⟨M1, e1, e2', e3⟩ := x_slook hb0 (hP.fx f0 (pa_x ha)) ok ha
  have e2 : Fx xA xF (sI M 203 3 0) M1 := e2'.mono (by decide) (by decide)
  have hb1 := hb0.fx e2 (by decide) (by decide)
  have f1 := f0.tr e2
  unfold f_X2_look
  rw [pI_t (ly_t203 hl), gR_t (ly_t203 hb0.lay), ly_r203_7 hb0.lay, cR_t (ly_t200 hb0.lay), e1, cA_s, ← nI_0]
  have hL : LookAt (bAt w h (tT τ x) π μ 0 0) M1 := by
    have hz : ∀ m, bAt w h (tT τ x) π μ 0 0 m = none := fun m => by
      unfold bAt
      by_cases q : μ m = true
      · rw [if_pos q, if_neg (by omega)]; rfl
      · rw [if_neg q]
    refine ⟨?_, fun m hm b hb => by rw [hz] at hb; cases hb⟩
    rw [show (fun m => (bAt w h (tT τ x) π μ 0 0 m).isSome) = fun _ => false by funext m; rw [hz]; rfl, bS_0]
    rw [e2'.i (by decide) (by decide), mI_e]
    rfl
  obtain ⟨M2, u1, u2, u3, u4⟩ := x_look16 hx ok ha (w * h) FU 0 M1 (by omega) (by have := hb.1.le; unfold FU; omega) hb1 (hP.fx f1 (pa_x ha)) e3 hL
  refine ⟨M2, u1, f1.tr u2, u3.ext (fun m hm => ?_), u4⟩
  unfold bAt canS
  rw [if_neg (Nat.not_lt_zero m)]
theorem x_look {M : Mem} {x : Option Nat} {a : Nat} {μ : Chi} (hb : Bs w h L nt τ M) (hx : okX nt x) (ok : okP π) (ha : isPA a) (hP : PosAt a π M) : ∃ M', f_X2_look (some 203) (some a) (some (rT x)) (nI (bS μ 8)) M = some ((), M') ∧ Fx xA xF M M' ∧ LookAt (fun m => if μ m = true then canS w h (tT τ x) π m else none) M' := by
  obtain ⟨M', e1, e2, e3, -⟩ := x_lookN (μ := μ) hb hx ok ha hP
  exact ⟨M', e1, e2, e3⟩
end LK2
