/-! ===== the reference follows the pure reading: the induction ===== -/
section YSIM3
variable {pl L : Nat} {tp : Nat → Nat} {ln : Nat}
def SimL (pl L : Nat) (tp : Nat → Nat) (ln d : Nat) : Prop := ∀ (l o a : Nat) (f : Nat × Nat) (F W O : List (Nat × Nat)) (M : Mem), l ≤ 5 → ndP 0 l o ≤ d → o ≤ 8 → a ≤ ln → (l ≤ 2 → f.1 ≠ 3 ∧ F.length ≤ o) → (3 ≤ l → f.1 ≠ 7) → F.length ≤ o + 1 → W.length ≤ 2 * o + wb l → (∀ w, w ∈ W → w.2 ≤ F.length + 1) → stW (rkL l) (F.length + 1) W → O.length ≤ a → CfM pl L tp ln (st0 l) a o (f :: F) W O M → YR pl L tp ln 1 a (kK l) (GL pl L tp ln l o f F W O) M (pP tp ln d 0 l o a)
def SimA (pl L : Nat) (tp : Nat → Nat) (ln d : Nat) : Prop := ∀ (j o a : Nat) (f : Nat × Nat) (F W O : List (Nat × Nat)) (M : Mem), ndP 1 0 (o + j) ≤ d → o + j ≤ 8 → a ≤ ln → f.1 ≠ 3 → F.length ≤ o → W.length ≤ 2 * (o + j) + 2 → (∀ w, w ∈ W → w.2 ≤ F.length + 1) → O.length + j ≤ a → CfM pl L tp ln 0 a (o + j) (List.replicate j (3, 0) ++ f :: F) W O M → YR pl L tp ln 1 a 2 (fun a' c M' => CfM pl L tp ln 3 a' o (f :: F) W (O ++ cod (c ++ List.replicate j 10019)) M') M (pP tp ln d 1 0 (o + j) a)
def SimO (pl L : Nat) (tp : Nat → Nat) (ln d : Nat) : Prop := ∀ (j o a : Nat) (f : Nat × Nat) (F W O : List (Nat × Nat)) (M : Mem), ndP 2 0 (o + j) ≤ d → o + j ≤ 8 → a ≤ ln → f.1 ≠ 7 → F.length ≤ o + 1 → W.length ≤ 2 * (o + j) + 4 → (∀ w, w ∈ W → w.2 ≤ F.length + 1) → O.length + j ≤ a → CfM pl L tp ln 1 a (o + j) (List.replicate j (7, 0) ++ f :: F) W O M → YR pl L tp ln 1 a 1 (fun a' c M' => CfM pl L tp ln 2 a' o (f :: F) W (O ++ cod (c ++ List.replicate j 10037)) M') M (pP tp ln d 2 0 (o + j) a)
theorem YR.imp {q : Int} {a K K' : Nat} {G G' : Nat → List Nat → Mem → Prop} {M : Mem} {res : Rs} (h : YR pl L tp ln q a K G M res) (hK : K ≤ K') (hs : ∀ a' c M', res = .inr (a', c) → G a' c M' → G' a' c M') : YR pl L tp ln q a K' G' M res := by
  cases res with
  | inl e => obtain ⟨s, M', x1, x2, x3, x4⟩ := h; exact ⟨s, M', by omega, x2, x3, x4⟩
  | inr r => obtain ⟨s, M', x1, x2, x3, x4⟩ := h; exact ⟨s, M', x1, x2, x3, hs r.1 r.2 M' rfl x4⟩
theorem sim_L {d : Nat} (h300 : ln ≤ 300) (iL : SimL pl L tp ln d) (iA : SimA pl L tp ln d) (iO : SimO pl L tp ln d) : SimL pl L tp ln (d + 1) := by
  intro l o a f F W O M hl5 hnd ho ha hA hB hF hW hD hst hO h
  unfold pP
  rw [if_pos rfl]
  by_cases l2 : l = 2
  · subst l2
    rw [if_pos rfl]
    have h1 := iA 0 o a f F W O M (by unfold ndP at hnd ⊢; simp at hnd ⊢; omega) ho ha (hA (by decide)).1 (hA (by decide)).2 hW hD hO h
    refine h1.imp (by decide) (fun a' c M' _ hG => ⟨[], c, by simp, by simp, by simp [ops], ?_⟩)
    have hG : CfM pl L tp ln (stE 2) a' o (f :: F) W (O ++ cod (c ++ [])) M' := hG
    simpa using hG
  rw [if_neg l2]
  by_cases l5 : l < 5
  · rw [if_pos l5]
    have hnd' : ndP 0 (l + 1) o ≤ d := by
      unfold ndP at hnd ⊢
      simp only [if_true] at hnd ⊢
      rcases (show l = 0 ∨ l = 1 ∨ l = 3 ∨ l = 4 by omega) with rfl | rfl | rfl | rfl <;> simp at hnd ⊢ <;> omega
    have hrk : rkL l ≤ rkL (l + 1) := by
      unfold rkL
      rcases (show l = 0 ∨ l = 1 ∨ l = 3 ∨ l = 4 by omega) with rfl | rfl | rfl | rfl <;> decide
    have hwb : wb l + 1 = wb (l + 1) := by
      unfold wb
      rcases (show l = 0 ∨ l = 1 ∨ l = 3 ∨ l = 4 by omega) with rfl | rfl | rfl | rfl <;> decide
    have hxb : xb (l + 1) ≤ xb l := by
      unfold xb
      rcases (show l = 0 ∨ l = 1 ∨ l = 3 ∨ l = 4 by omega) with rfl | rfl | rfl | rfl <;> decide
    have e0 : st0 (l + 1) = st0 l := by
      unfold st0
      rcases (show l = 0 ∨ l = 1 ∨ l = 3 ∨ l = 4 by omega) with rfl | rfl | rfl | rfl <;> decide
    have eE : stE (l + 1) = stE l := by
      unfold stE
      rcases (show l = 0 ∨ l = 1 ∨ l = 3 ∨ l = 4 by omega) with rfl | rfl | rfl | rfl <;> decide
    have eK : kK (l + 1) = kK l := by
      unfold kK
      rcases (show l = 0 ∨ l = 1 ∨ l = 3 ∨ l = 4 by omega) with rfl | rfl | rfl | rfl <;> decide
    have hA' : l + 1 ≤ 2 → f.1 ≠ 3 ∧ F.length ≤ o := fun z => hA (by omega)
    have hB' : 3 ≤ l + 1 → f.1 ≠ 7 := fun z => hB (by omega)
    have h1 := iL (l + 1) o a f F W O M (by omega) hnd' ho ha hA' hB' hF (by omega) hD (hst.mono hrk) hO (by rw [e0]; exact h)
    rw [eK] at h1
    refine YR.bn (q2 := 0) (K2 := kK l) h1 (Nat.le_refl _) (by omega) (by omega) (fun a1 c1 M1 hres hG => ?_)
    obtain ⟨X, c2, y1, y2, y3, y4⟩ := hG
    obtain ⟨⟨g1, g2, g3⟩, -⟩ := pP_ok d 0 (l + 1) o _ a1 c1 ha ho (by omega) (by omega) hres
    have hrec : ∀ (a t : Nat) (O' : List (Nat × Nat)) (M : Mem), a ≤ ln → rk t < rkL (l + 1) → O'.length ≤ a → CfM pl L tp ln (st0 l) a o (f :: F) ((t, F.length + 1) :: W) O' M → YR pl L tp ln 1 a (kK l) (GL pl L tp ln (l + 1) o f F ((t, F.length + 1) :: W) O') M (pP tp ln d 0 (l + 1) o a) := by
      intro a t O' M ha' ht hO' h'
      have := iL (l + 1) o a f F ((t, F.length + 1) :: W) O' M (by omega) hnd' ho ha' hA' hB' hF (by simp only [List.length_cons]; omega) (fun w hw => by
        rcases List.mem_cons.mp hw with z | z
        · rw [z]; exact Nat.le_refl _
        · exact hD w z) (stW.cons ht) hO' (by rw [e0]; exact h')
      rw [eK] at this
      exact this
    have := y_lp (O := O) h300 l5 l2 ho hF hW hst hrec 300 a1 X c2 M1 (by omega) (fun x hx => ⟨(y2 x hx).1, by have := (y2 x hx).2; omega⟩) (by rw [y3]; omega) g2 (by rw [← eE]; exact y4)
    rw [y3] at this
    exact this
  · rw [if_neg l5]
    obtain rfl : l = 5 := by omega
    have h1 := iO 0 o a f F W O M (by unfold ndP at hnd ⊢; simp at hnd ⊢; omega) ho ha (hB (by decide)) hF hW hD hO h
    refine h1.imp (by decide) (fun a' c M' _ hG => ⟨[], c, by simp, by simp, by simp [ops], ?_⟩)
    have hG : CfM pl L tp ln (stE 5) a' o (f :: F) W (O ++ cod (c ++ [])) M' := hG
    simpa using hG
theorem sim_A {d : Nat} (h300 : ln ≤ 300) (iL : SimL pl L tp ln d) (iA : SimA pl L tp ln d) : SimA pl L tp ln (d + 1) := by
  intro j o a f F W O M hnd ho ha hf hF hW hD hO h
  have hx := tNx_b (tp := tp) ha
  have hlen : (List.replicate j (3, 0) ++ f :: F).length = j + F.length + 1 := by simp; omega
  unfold pP
  rw [if_neg (by decide), if_pos rfl]
  by_cases e19 : tTk tp ln a = 19
  · rw [if_pos e19]
    by_cases o8 : o + j < 8
    · rw [if_pos o8]
      obtain ⟨M1, b1, b2, b3⟩ := S_not h e19 o8 (by omega) ha
      have hlt := hx.2.2 (by omega)
      have h1 := iA (j + 1) o (tNx tp ln a) f F W O M1 (by unfold ndP at hnd ⊢; simp at hnd ⊢; omega) (by omega) hx.1 hf hF (by omega) hD (by omega) b3
      refine YR.bn (q := 1) (q2 := 0) (K := 2) (K2 := 0) (YR.pre b1 b2 h1 (by omega) (by omega)) (Nat.le_refl _) (by omega) (by omega) (fun a1 c1 M2 hres hG => ?_)
      refine ⟨0, M2, by simp, Rn.rf, Fx.rf, ?_⟩
      rw [List.replicate_succ] at hG
      show CfM pl L tp ln 3 a1 o (f :: F) W (O ++ cod (c1 ++ [10019] ++ List.replicate j 10019)) M2
      rw [List.append_assoc]
      exact hG
    · rw [if_neg o8]
      have e8 : o + j = 8 := by omega
      rw [e8] at h
      exact YR.fl (S_notN h e19) ha (by decide)
  · rw [if_neg e19]
    obtain ⟨M1, b1, b2, b3⟩ := S_left h e19 (by omega)
    have hnd3 : ndP 0 3 (o + j) ≤ d := by unfold ndP at hnd ⊢; simp at hnd ⊢; omega
    have hD' : ∀ w, w ∈ W → w.2 ≤ (List.replicate j (3, 0) ++ f :: F).length + 1 := fun w hw => by have := hD w hw; omega
    have hst : stW (rkL 3) ((List.replicate j (3, 0) ++ f :: F).length + 1) W := stW.dep (fun w hw => by have := hD w hw; omega)
    have h1 := iL 3 (o + j) a (4, 0) (List.replicate j (3, 0) ++ f :: F) W O M1 (by decide) hnd3 ho ha (fun z => absurd z (by decide)) (fun _ => by decide) (by omega) hW hD' hst (by omega) b3
    refine YR.bn (q := 0) (q2 := 1) (K := 2) (K2 := 2) (YR.pre b1 b2 h1 (by omega) (by have : kK 3 = 1 := rfl; omega)) (Nat.le_refl _) (by omega) (by omega) (fun a1 c1 M2 hres hG => ?_)
    obtain ⟨⟨g1, g2, g3⟩, -⟩ := pP_ok d 0 3 (o + j) _ a1 c1 ha ho (by omega) (by omega) hres
    have hno := (pP_end h300 d 0 3 (o + j) _ a1 c1 ha ho (by omega) (by omega) hres).1 rfl
    have hop : ¬ (27 ≤ tTk tp ln a1 ∧ tTk tp ln a1 ≤ 30) := fun z => by
      rcases lvO_op z with y | y
      · exact hno 3 (by decide) (by decide) y
      · exact hno 4 (by decide) (by decide) y
    obtain ⟨X, c2, y1, y2, y3, y4⟩ := hG
    have y1 : X.length ≤ 2 := y1
    have hXW : (X ++ W).length ≤ 2 + W.length := by rw [List.length_append]; omega
    have hOl : (O ++ cod c2).length + (X ++ W).length ≤ 400 := by
      have : c2.length ≤ c1.length := by rw [← y3, List.length_append]; omega
      have hw2 : wb 3 = 2 := rfl
      rw [List.length_append, cod_len]
      omega
    show YR pl L tp ln 1 a1 2 _ M2 (if 21 ≤ tTk tp ln a1 ∧ tTk tp ln a1 ≤ 26 then _ else _)
    by_cases ec : 21 ≤ tTk tp ln a1 ∧ tTk tp ln a1 ≤ 26
    · rw [if_pos ec]
      have hx1 := tNx_b (tp := tp) g2
      have hlt1 := hx1.2.2 (by omega)
      obtain ⟨M3, d1, d2, d3⟩ := S_cmp y4 ec.1 ec.2 (by omega) (by omega) hOl g2
      have hwk : wkS 3 ((List.replicate j (3, 0) ++ f :: F).length + 1) (X ++ W) = (W, X.map (fun x => 10000 + x.1)) := wkS_X hst X y2
      rw [hwk, List.append_assoc, ← cod_app] at d3
      have d3 : CfM pl L tp ln 1 (tNx tp ln a1) (o + j) ((5, tTk tp ln a1) :: (List.replicate j (3, 0) ++ f :: F)) W (O ++ cod c1) M3 := by rw [← y3]; exact d3
      have h2 := iL 3 (o + j) (tNx tp ln a1) (5, tTk tp ln a1) (List.replicate j (3, 0) ++ f :: F) W (O ++ cod c1) M3 (by decide) hnd3 ho hx1.1 (fun z => absurd z (by decide)) (fun _ => (show (5 : Nat) ≠ 7 by decide)) (by omega) hW hD' hst (by rw [List.length_append, cod_len]; omega) d3
      refine YR.bn (q := 2) (q2 := -1) (K := 2) (K2 := 0) (YR.pre d1 d2 h2 (by omega) (by have : kK 3 = 1 := rfl; omega)) (Nat.le_refl _) (by omega) (by omega) (fun a2 c3 M4 hres2 hG2 => ?_)
      obtain ⟨⟨k1, k2, k3⟩, -⟩ := pP_ok d 0 3 (o + j) _ a2 c3 hx1.1 ho (by omega) (by omega) hres2
      have hno2 := (pP_end h300 d 0 3 (o + j) _ a2 c3 hx1.1 ho (by omega) (by omega) hres2).1 rfl
      have hop2 : ¬ (27 ≤ tTk tp ln a2 ∧ tTk tp ln a2 ≤ 30) := fun z => by
        rcases lvO_op z with y | y
        · exact hno2 3 (by decide) (by decide) y
        · exact hno2 4 (by decide) (by decide) y
      obtain ⟨X2, c4, z1, z2, z3, z4⟩ := hG2
      have z1 : X2.length ≤ 2 := z1
      have hw2 : wb 3 = 2 := rfl
      have hl4 : c4.length ≤ c3.length := by rw [← z3, List.length_append]; omega
      obtain ⟨M5, e1, e2, e3⟩ := S_right z4 hf ec.1 ec.2 hop2 (by rw [List.length_append]; omega) (by omega) (by simp only [List.length_append, cod_len]; omega)
      have hwk2 := wkS_X (r := 3) (n := j + F.length + 2) (W := W) (by rw [hlen] at hst; exact hst) X2 (fun x hx => by have := z2 x hx; rw [hlen] at this; exact this)
      rw [hwk2, List.append_assoc, List.append_assoc, ← cod_app, ← cod_app] at e3
      refine YR.dn ⟨M5, e1, e2, ?_⟩ (by omega)
      show CfM pl L tp ln 3 a2 o (f :: F) W (O ++ cod ((c1 ++ c3 ++ [10000 + tTk tp ln a1]) ++ List.replicate j 10019)) M5
      rw [← z3]
      simp only [List.append_assoc, ops, List.singleton_append] at e3 ⊢
      exact e3
    · rw [if_neg ec]
      exact YR.fl (S_cmpN y4 hop ec (by omega)) g2 (by decide)
theorem sim_O {d : Nat} (h300 : ln ≤ 300) (iL : SimL pl L tp ln d) (iO : SimO pl L tp ln d) : SimO pl L tp ln (d + 1) := by
  intro j o a f F W O M hnd ho ha hf hF hW hD hO h
  have hx := tNx_b (tp := tp) ha
  have hlen : (List.replicate j (7, 0) ++ f :: F).length = j + F.length + 1 := by simp; omega
  unfold pP
  rw [if_neg (by decide), if_neg (by decide)]
  by_cases e20 : tTk tp ln a = 20
  · rw [if_pos e20]
    have hlt := hx.2.2 (by omega)
    by_cases en : tNm tp ln a ≤ 9999
    · rw [if_pos en]
      exact YR.dn (S_leaf h hf (by omega) (by omega) ha (Or.inl ⟨e20, en, rfl⟩)) (by omega)
    · rw [if_neg en]
      exact YR.fl (S_big h e20 en tMm_lt) ha (by decide)
  rw [if_neg e20]
  by_cases e6 : tTk tp ln a ≤ 6
  · rw [if_pos e6]
    have hlt := hx.2.2 (by omega)
    exact YR.dn (S_leaf h hf (by omega) (by omega) ha (Or.inr ⟨e6, rfl⟩)) (by omega)
  rw [if_neg e6]
  by_cases e31 : tTk tp ln a = 31
  · rw [if_pos e31]
    have hlt := hx.2.2 (by omega)
    by_cases o8 : o + j < 8
    · rw [if_pos o8]
      obtain ⟨M1, b1, b2, b3⟩ := S_par h e31 o8 (by omega) ha
      have hD' : ∀ w, w ∈ W → w.2 ≤ (List.replicate j (7, 0) ++ f :: F).length + 1 := fun w hw => by have := hD w hw; omega
      have hst : stW (rkL 3) ((List.replicate j (7, 0) ++ f :: F).length + 1) W := stW.dep (fun w hw => by have := hD w hw; omega)
      have hw2 : wb 3 = 2 := rfl
      have h1 := iL 3 (o + j + 1) (tNx tp ln a) (6, 0) (List.replicate j (7, 0) ++ f :: F) W O M1 (by decide) (by unfold ndP at hnd ⊢; simp at hnd ⊢; omega) (by omega) hx.1 (fun z => absurd z (by decide)) (fun _ => by decide) (by omega) (by omega) hD' hst (by omega) b3
      refine YR.bn (q := 2) (q2 := 0) (K := 1) (K2 := 1) (YR.pre b1 b2 h1 (by omega) (by have : kK 3 = 1 := rfl; omega)) (Nat.le_refl _) (by omega) (by omega) (fun a1 c1 M2 hres hG => ?_)
      obtain ⟨⟨g1, g2, g3⟩, -⟩ := pP_ok d 0 3 (o + j + 1) _ a1 c1 hx.1 (by omega) (by omega) (by omega) hres
      have hno := (pP_end h300 d 0 3 (o + j + 1) _ a1 c1 hx.1 (by omega) (by omega) (by omega) hres).1 rfl
      have hop : ¬ (27 ≤ tTk tp ln a1 ∧ tTk tp ln a1 ≤ 30) := fun z => by
        rcases lvO_op z with y | y
        · exact hno 3 (by decide) (by decide) y
        · exact hno 4 (by decide) (by decide) y
      obtain ⟨X, c2, y1, y2, y3, y4⟩ := hG
      have y1 : X.length ≤ 2 := y1
      show YR pl L tp ln 0 a1 1 _ M2 (if tTk tp ln a1 = 32 then _ else _)
      by_cases e32 : tTk tp ln a1 = 32
      · rw [if_pos e32]
        have hx1 := tNx_b (tp := tp) g2
        have hlt1 := hx1.2.2 (by omega)
        have hl4 : c2.length ≤ c1.length := by rw [← y3, List.length_append]; omega
        obtain ⟨M5, e1, e2, e3⟩ := S_close y4 hf e32 (by rw [List.length_append]; omega) (by omega) (by simp only [List.length_append, cod_len]; omega) g2
        have hwk2 := wkS_X (r := 3) (n := j + F.length + 2) (W := W) (by rw [hlen] at hst; exact hst) X (fun x hx => by have := y2 x hx; rw [hlen] at this; exact this)
        rw [hwk2, List.append_assoc, ← cod_app] at e3
        refine YR.dn ⟨M5, e1, e2, ?_⟩ (by omega)
        show CfM pl L tp ln 2 (tNx tp ln a1) o (f :: F) W (O ++ cod (c1 ++ List.replicate j 10037)) M5
        rw [← y3]
        simp only [List.append_assoc, ops] at e3 ⊢
        exact e3
      · rw [if_neg e32]
        exact YR.fl (S_closeN y4 hop e32 (by omega)) g2 (by decide)
    · rw [if_neg o8]
      have e8 : o + j = 8 := by omega
      rw [e8] at h
      exact YR.fl (S_parN h e31) ha (by decide)
  rw [if_neg e31]
  by_cases e28 : tTk tp ln a = 28
  · rw [if_pos e28]
    have hlt := hx.2.2 (by omega)
    by_cases o8 : o + j < 8
    · rw [if_pos o8]
      obtain ⟨M1, b1, b2, b3⟩ := S_min h e28 o8 (by omega) ha
      have h1 := iO (j + 1) o (tNx tp ln a) f F W O M1 (by unfold ndP at hnd ⊢; simp at hnd ⊢; omega) (by omega) hx.1 hf hF (by omega) hD (by omega) b3
      refine YR.bn (q := 2) (q2 := 0) (K := 1) (K2 := 0) (YR.pre b1 b2 h1 (by omega) (by omega)) (Nat.le_refl _) (by omega) (by omega) (fun a1 c1 M2 hres hG => ?_)
      refine ⟨0, M2, by simp, Rn.rf, Fx.rf, ?_⟩
      rw [List.replicate_succ] at hG
      show CfM pl L tp ln 2 a1 o (f :: F) W (O ++ cod (c1 ++ [10037] ++ List.replicate j 10037)) M2
      rw [List.append_assoc]
      exact hG
    · rw [if_neg o8]
      have e8 : o + j = 8 := by omega
      rw [e8] at h
      exact YR.fl (S_minN h e28) ha (by decide)
  · rw [if_neg e28]
    exact YR.fl (S_bad h e20 (by omega) e31 e28) ha (by decide)
theorem y_sim (h300 : ln ≤ 300) : ∀ d, SimL pl L tp ln d ∧ SimA pl L tp ln d ∧ SimO pl L tp ln d
  | 0 => ⟨fun l o a f F W O M _ z => absurd z (by unfold ndP; omega), fun j o a f F W O M z => absurd z (by unfold ndP; omega), fun j o a f F W O M z => absurd z (by unfold ndP; omega)⟩
  | d + 1 => by
    obtain ⟨h1, h2, h3⟩ := y_sim h300 d
    exact ⟨sim_L h300 h1 h2 h3, sim_A h300 h1 h2, sim_O h300 h1 h3⟩
end YSIM3
