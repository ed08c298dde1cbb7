/-! ===== the class settles the states in which the game is over ===== -/
def ovL (op : Nat → Chi) : Nat → List Nat
  | 0 => []
  | s + 1 => if any8 (op s) = false then ovL op s ++ [s] else ovL op s
theorem ovL_len {op : Nat → Chi} : ∀ s, (ovL op s).length ≤ s
  | 0 => Nat.le_refl _
  | s + 1 => by
    have := ovL_len (op := op) s
    show (if _ then _ else _ : List Nat).length ≤ s + 1
    split
    · rw [List.length_append]; simp; omega
    · omega
theorem getD_app {l : List Nat} {a k : Nat} : (l ++ [a]).getD k 0 = if k < l.length then l.getD k 0 else if k = l.length then a else 0 := by
  rw [List.getD_eq_getElem?_getD]
  by_cases h : k < l.length
  · rw [if_pos h, List.getElem?_append_left h, List.getD_eq_getElem?_getD]
  · rw [if_neg h, List.getElem?_append_right (by omega)]
    by_cases e : k = l.length
    · rw [if_pos e, e]; simp
    · rw [if_neg e, List.getElem?_eq_none (by simp; omega)]; rfl
def QuX (l : List Nat) (M : Mem) : Prop := mI M 220 11 = nI l.length ∧ ∀ k, k < l.length → mI M 227 k = nI (l.getD k 0)
theorem QuX.put {l : List Nat} {M : Mem} {i : Nat} {v p : Int32} (h : QuX l M) : QuX (l ++ [i]) (sI (sI (sI (sI M 221 i v) 222 i p) 227 l.length (nI i)) 220 11 (nI (l.length + 1))) := by
  refine ⟨by rw [mI_e, List.length_append]; rfl, fun k hk => ?_⟩
  rw [List.length_append] at hk
  simp only [List.length_singleton] at hk
  rw [mI_na (by decide), getD_app]
  by_cases e : k = l.length
  · subst e; rw [mI_e, if_neg (by omega), if_pos rfl]
  · rw [mI_nk e, mI_na (by decide), mI_na (by decide), if_pos (by omega)]
    exact h.2 k (by omega)
section PREP2
variable {w h L nt : Nat} {τ : Nat → Txt} {n : Nat} {op : Nat → Chi} {tg : Nat → Nat}
abbrev prA : List Nat := [221, 222, 223, 224, 225, 226, 227, 229]
abbrev prF : List (Nat × Nat) := [(220, 11)]
/-- behind the loop over the states below s -/
def PrI (n : Nat) (op : Nat → Chi) (tg : Nat → Nat) (s : Nat) (M : Mem) : Prop := LkX n op tg (64 * s) M ∧ (∀ i, i < n → mI M 221 i = nI (if i < s ∧ any8 (op i) = false then 1 else 0) ∧ mI M 222 i = (if i < s ∧ any8 (op i) = false then nI 0 else m1) ∧ mI M 229 i = nI 0) ∧ LdX n (fun _ _ _ => false) (fun _ _ _ => false) M ∧ QuX (ovL op s) M
theorem OpX.fx {M M' : Mem} {A : List Nat} {F : List (Nat × Nat)} (hO : OpX n op tg M) (fr : Fx A F M M') (h1 : 212 ∉ A ∧ ∀ q ∈ F, q.1 ≠ 212) (h2 : 213 ∉ A ∧ ∀ q ∈ F, q.1 ≠ 213) : OpX n op tg M' := by
  unfold OpX at *
  rw [fr.ib h1, fr.ib h2]
  exact hO
theorem vEx_none {e : Nat} (h : any8 (op (e / 64)) = false) : vEx op e = false := by
  unfold vEx
  rw [(any8_f.mp h) (e % 8) (Nat.mod_lt _ (by decide))]
  simp
theorem lkE_none {t s : Nat} (h : any8 (op s) = false) : ∀ k, k ≤ 64 → lkE op tg t (64 * s + k) = lkE op tg t (64 * s)
  | 0, _ => rfl
  | k + 1, hk => by
    rw [← lkE_none h k (by omega), show 64 * s + (k + 1) = 64 * s + k + 1 by omega]
    show (if _ then _ else _) = _
    rw [if_neg (fun z => by
      have := vEx_none (op := op) (e := 64 * s + k) (by rw [show (64 * s + k) / 64 = s by omega]; exact h)
      rw [this] at z
      cases z.1)]
theorem x_pr90 (hn : n ≤ 2000) {M0 : Mem} : ∀ (k f s : Nat) (M : Mem), s + k = n → k < f → Bs w h L nt τ M → mI M 211 2 = nI n → OpX n op tg M → PrI n op tg s M → Fx prA prF M0 M → ∃ M', f_X0_prepare_90 f (some 220) (nI s) M = some ((), M') ∧ Fx prA prF M0 M' ∧ PrI n op tg n M'
  | k, 0, s, M => fun _ z => absurd z (by omega)
  | 0, f + 1, s, M => by
    intro hs _ hb h2 hO hI fr
    obtain rfl : s = n := by omega
    have hl := hb.lay
    refine ⟨M, ?_, fr, hI⟩
    rw [u_X0_prepare_90]
    unfold b_X0_prepare_90
    rw [gR_t (ly_t220 hl), ly_r220_2 hl, gI_t (ly_t211 hl), h2, if_pos (Int32.le_refl _)]
  | k + 1, f + 1, s, M => by
    intro hs hf hb h2 hO hI fr
    have hl := hb.lay
    obtain ⟨p1, p2, p3, p4⟩ := hI
    have hql := ovL_len (op := op) s
    rw [u_X0_prepare_90]
    unfold b_X0_prepare_90
    rw [gR_t (ly_t220 hl), ly_r220_2 hl, gI_t (ly_t211 hl), h2, if_neg (nI_ge (by omega) (by omega)), gR_t (ly_t220 hl), ly_r220_2 hl, gR_t (ly_t211 hl), ly_r211_0 hl, aI_t (ly_t212 hl) (by omega) (by decide), hO.1 s (by omega)]
    cases ha : any8 (op s) with
    | false =>
      have hst := x_settle (i := s) (v := 1) (p := 0) hb (by omega) p4.1 (by omega)
      have fS : Fx prA prF M (sI (sI (sI (sI M 221 s (nI 1)) 222 s (nI 0)) 227 (ovL op s).length (nI s)) 220 11 (nI ((ovL op s).length + 1))) := (((Fx.wI (Or.inl (by decide))).I (Or.inl (by decide))).I (Or.inl (by decide))).I (Or.inr (by decide))
      have fS' : Fx [221, 222, 227] [(220, 11)] M (sI (sI (sI (sI M 221 s (nI 1)) 222 s (nI 0)) 227 (ovL op s).length (nI s)) 220 11 (nI ((ovL op s).length + 1))) := (((Fx.wI (Or.inl (by decide))).I (Or.inl (by decide))).I (Or.inl (by decide))).I (Or.inr (by decide))
      rw [if_pos (bS_z.mpr ha), cR_t (ly_t220 hl), show f_X0_settle (some 220) (nI s) 1 0 M = _ from hst, cA_s, nI_1]
      refine x_pr90 hn k f (s + 1) _ (by omega) (by omega) (hb.fx fS (by decide) (by decide)) (by rw [fS.i (by decide) (by decide)]; exact h2) (hO.fx fS (by decide) (by decide)) ⟨fun t ht => ?_, fun i hi => ?_, fun i no hi hno => ?_, ?_⟩ (fr.tr fS)
      · rw [show 64 * (s + 1) = 64 * s + 64 by omega, lkE_none ha 64 (Nat.le_refl _), fS'.ib (by decide)]
        exact (p1 t ht).ext _ _ (fun e _ => by rw [fS'.ib (by decide)])
      · have hold := p2 i hi
        rw [mI_na (show 229 ≠ 220 by decide), mI_na (show 229 ≠ 227 by decide), mI_na (show 229 ≠ 222 by decide), mI_na (show 229 ≠ 221 by decide), mI_na (show 221 ≠ 220 by decide), mI_na (show 221 ≠ 227 by decide), mI_na (show 221 ≠ 222 by decide), mI_na (show 222 ≠ 220 by decide), mI_na (show 222 ≠ 227 by decide)]
        by_cases e : i = s
        · subst e
          rw [mI_e, mI_e, if_pos ⟨by omega, ha⟩, if_pos ⟨by omega, ha⟩]
          exact ⟨rfl, rfl, hold.2.2⟩
        · rw [mI_nk e, mI_nk e, mI_na (show 222 ≠ 221 by decide)]
          have q : (i < s + 1 ∧ any8 (op i) = false) ↔ (i < s ∧ any8 (op i) = false) := by constructor <;> (rintro ⟨a, b⟩; exact ⟨by omega, b⟩)
          simp only [q]
          exact hold
      · rw [fS'.ib (by decide), fS'.ib (by decide)]; exact p3 i no hi hno
      · show QuX (if _ then _ else _) _
        rw [if_pos ha]
        exact p4.put
    | true =>
      obtain ⟨M1, l1, l2, l3⟩ := x_link hb hn (show s < n by omega) hO p1
      have fL : Fx prA prF M M1 := l2.mono (by decide) (by decide)
      rw [if_neg (fun z => by rw [bS_z.mp z] at ha; cases ha), cR_t (ly_t220 hl), l1, cA_s, nI_1]
      refine x_pr90 hn k f (s + 1) M1 (by omega) (by omega) (hb.fx l2 (by decide) (by decide)) (by rw [l2.i (by decide) (by decide)]; exact h2) (hO.fx l2 (by decide) (by decide)) ⟨by rw [show 64 * (s + 1) = 64 * s + 64 by omega]; exact l3, fun i hi => ?_, fun i no hi hno => ?_, ?_⟩ (fr.tr fL)
      · rw [l2.ib (by decide), l2.ib (by decide), l2.ib (by decide)]
        have q : (i < s + 1 ∧ any8 (op i) = false) ↔ (i < s ∧ any8 (op i) = false) := by
          constructor
          · rintro ⟨a, b⟩
            refine ⟨?_, b⟩
            rcases Nat.lt_or_ge i s with z | z
            · exact z
            · obtain rfl : i = s := by omega
              rw [ha] at b
              cases b
          · rintro ⟨a, b⟩
            exact ⟨by omega, b⟩
        simp only [q]
        exact p2 i hi
      · rw [l2.ib (by decide), l2.ib (by decide)]; exact p3 i no hi hno
      · show QuX (if _ then _ else _) _
        rw [if_neg (by rw [ha]; decide)]
        unfold QuX at *
        rw [l2.i (by decide) (by decide), l2.ib (by decide)]
        exact p4
end PREP2
