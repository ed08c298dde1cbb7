/-! ===== the class decides one level ===== -/
theorem ne_0 {a : Nat} (ha : a < 2 ^ 31) (h : a ≠ 0) : ¬ nI a = (0 : Int32) := nIne (b := 0) ha (by decide) h
theorem ne_1 {a : Nat} (ha : a < 2 ^ 31) (h : a ≠ 1) : ¬ nI a = (1 : Int32) := nIne (b := 1) ha (by decide) h
theorem ne_2 {a : Nat} (ha : a < 2 ^ 31) (h : a ≠ 2) : ¬ nI a = (2 : Int32) := nIne (b := 2) ha (by decide) h
theorem tkL_s {l : List Nat} {j : Nat} (h : j < l.length) : l.take (j + 1) = l.take j ++ [l.getD j 0] := by
  rw [List.take_add_one, List.getD_eq_getElem?_getD, List.getElem?_eq_getElem h]
  rfl
theorem getD_mem {l : List Nat} {j : Nat} (h : j < l.length) : l.getD j 0 ∈ l := by
  rw [List.getD_eq_getElem?_getD, List.getElem?_eq_getElem h]
  exact List.getElem_mem h
theorem take_mem {l : List Nat} {j i : Nat} (h : i ∈ l.take j) : ∃ u, u < j ∧ u < l.length ∧ l.getD u 0 = i := by
  obtain ⟨u, hu, e⟩ := List.getElem_of_mem h
  rw [List.length_take] at hu
  refine ⟨u, by omega, by omega, ?_⟩
  rw [List.getD_eq_getElem?_getD, List.getElem?_eq_getElem (by omega)]
  rw [List.getElem_take] at e
  exact e
theorem mem_take {l : List Nat} {j u : Nat} (h : u < j) (h2 : u < l.length) : l.getD u 0 ∈ l.take j := by
  have h3 : u < (l.take j).length := by rw [List.length_take]; omega
  have := List.getElem_mem h3
  rw [List.getElem_take] at this
  rw [List.getD_eq_getElem?_getD, List.getElem?_eq_getElem h2]
  exact this
section LEVEL
variable {w h L nt : Nat} {τ : Nat → Txt} {n p : Nat} {op : Nat → Chi} {tg : Nat → Nat} {res : Nat → Nat}
/-- the exits to settled states of a list -/
def ldX (op : Nat → Chi) (tg res : Nat → Nat) (l : List Nat) (k : Nat) : Nat → Nat → Chi := fun i no dn => vEx op (64 * i + 8 * no + dn) && decide (tg (64 * i + 8 * no + dn) ∈ l) && (res (tg (64 * i + 8 * no + dn)) == k)
theorem LdX.bt {W Ls : Nat → Nat → Chi} {M : Mem} : LdX n W Ls M ↔ BtX n 223 W M ∧ BtX n 224 Ls M := ⟨fun h => ⟨fun i no a b => (h i no a b).1, fun i no a b => (h i no a b).2⟩, fun h i no a b => ⟨h.1 i no a b, h.2 i no a b⟩⟩
theorem BtX.ext {a : Nat} {V V' : Nat → Nat → Chi} {M M' : Mem} (h : BtX n a V M) (hm : mI M' a = mI M a) (hv : ∀ i no dn, i < n → no < 8 → dn < 8 → V' i no dn = V i no dn) : BtX n a V' M' := fun i no hi hno => by
  rw [hm, h i no hi hno]
  congr 1
  exact bS_ext (fun m hm' => (hv i no m hi hno hm').symm)
theorem adV_ld {s k : Nat} {l : List Nat} (hs : res s = k) {i no dn : Nat} (hi : i < n) (h1 : no < 8) (h2 : dn < 8) : ldX op tg res (l ++ [s]) k i no dn = adV (ldX op tg res l k) (lkE op tg s (64 * n)) i no dn := by
  unfold ldX adV
  rw [Bool.eq_iff_iff]
  simp only [Bool.and_eq_true, Bool.or_eq_true, decide_eq_true_eq, beq_iff_eq, List.mem_append, List.mem_singleton]
  constructor
  · rintro ⟨⟨a, b | b⟩, c⟩
    · exact Or.inl ⟨⟨a, b⟩, c⟩
    · exact Or.inr (lkE_mem _ _ (by omega) a b)
  · rintro (⟨⟨a, b⟩, c⟩ | b)
    · exact ⟨⟨a, Or.inl b⟩, c⟩
    · have := lkE_lt _ _ b
      exact ⟨⟨this.2.1, Or.inr this.2.2⟩, by rw [this.2.2]; exact hs⟩
theorem ld_skip {s k : Nat} {l : List Nat} (hs : res s ≠ k) {i no dn : Nat} : ldX op tg res (l ++ [s]) k i no dn = ldX op tg res l k i no dn := by
  unfold ldX
  rw [Bool.eq_iff_iff]
  simp only [Bool.and_eq_true, decide_eq_true_eq, beq_iff_eq, List.mem_append, List.mem_singleton]
  constructor
  · rintro ⟨⟨a, b | b⟩, c⟩
    · exact ⟨⟨a, b⟩, c⟩
    · rw [b] at c; exact absurd c hs
  · rintro ⟨⟨a, b⟩, c⟩
    exact ⟨⟨a, Or.inl b⟩, c⟩
theorem x_touch {s : Nat} {l tl : List Nat} {M : Mem} (hn : n ≤ 2000) (hp : p ≤ 2000) (hr2 : ∀ i, i < n → res i ≤ 2) (hs : s < n) (h0 : res s ≠ 0) (hb : Bs w h L nt τ M) (hK : LkX n op tg (64 * n) M) (hL : LdX n (ldX op tg res l 1) (ldX op tg res l 2) M) (hT : TcX n p tl M) (hR : ∀ i, i < n → mI M 221 i = nI (res i)) : ∃ M' tl', f_X0_touchEntries (some 220) (nI s) (nI p) M = some ((), M') ∧ Fx tcA tcF M M' ∧ LdX n (ldX op tg res (l ++ [s]) 1) (ldX op tg res (l ++ [s]) 2) M' ∧ TcX n p tl' M' ∧ ∀ i, i ∈ tl' ↔ (i ∈ tl ∨ (res i = 0 ∧ ∃ e, e ∈ lkE op tg s (64 * n) ∧ e / 64 = i)) := by
  have hl := hb.lay
  have h2 := hr2 s hs
  obtain ⟨b1, b2⟩ := LdX.bt.mp hL
  have hlen := lkE_len (op := op) (tg := tg) (t := s) (64 * n)
  have hlt : ∀ e, e ∈ lkE op tg s (64 * n) → e < 64 * n := fun e he => (lkE_lt _ _ he).1
  unfold f_X0_touchEntries
  rw [gR_t (ly_t220 hl), ly_r220_0 hl, aI_t (ly_t221 hl) (by omega) (by decide), hR s hs]
  by_cases h1 : res s = 1
  · obtain ⟨M', tl', z1, z2, z3, z4, z5, z6⟩ := x_touch_l hn hp (Or.inl rfl) hr2 (lkE op tg s (64 * n)) FU 0 (ldX op tg res l 1) tl _ M (by unfold FU; omega) (by omega) hb (hK s hs) hlt b1 hT hR Fx.rf rfl
    rw [if_pos (by rw [h1]; rfl), gR_t (ly_t220 hl), ly_r220_4 hl, gR_t (ly_t220 hl), ly_r220_6 hl, aI_t (ly_t225 hl) (by omega) (by decide)]
    refine ⟨M', tl', z1, z2, LdX.bt.mpr ⟨z4.ext rfl (fun i no dn hi a b => adV_ld h1 hi a b), b2.ext z3 (fun i no dn _ _ _ => ld_skip (by omega))⟩, z5, z6⟩
  · obtain ⟨M', tl', z1, z2, z3, z4, z5, z6⟩ := x_touch_l hn hp (Or.inr rfl) hr2 (lkE op tg s (64 * n)) FU 0 (ldX op tg res l 2) tl _ M (by unfold FU; omega) (by omega) hb (hK s hs) hlt b2 hT hR Fx.rf rfl
    rw [if_neg (ne_1 (by omega) h1), gR_t (ly_t220 hl), ly_r220_5 hl, gR_t (ly_t220 hl), ly_r220_6 hl, aI_t (ly_t225 hl) (by omega) (by decide)]
    refine ⟨M', tl', z1, z2, LdX.bt.mpr ⟨b1.ext z3 (fun i no dn _ _ _ => ld_skip h1), z4.ext rfl (fun i no dn hi a b => adV_ld (by omega) hi a b)⟩, z5, z6⟩
theorem LkX.fx {M M' : Mem} {A : List Nat} {F : List (Nat × Nat)} {E : Nat} (hK : LkX n op tg E M) (fr : Fx A F M M') (h1 : 225 ∉ A ∧ ∀ q ∈ F, q.1 ≠ 225) (h2 : 226 ∉ A ∧ ∀ q ∈ F, q.1 ≠ 226) : LkX n op tg E M' := fun t ht => by
  rw [fr.ib h1]
  exact (hK t ht).ext _ _ (fun e _ => by rw [fr.ib h2])
theorem QuX.fx {M M' : Mem} {A : List Nat} {F : List (Nat × Nat)} {l : List Nat} (hQ : QuX l M) (fr : Fx A F M M') (h1 : 220 ∉ A ∧ (220, 11) ∉ F) (h2 : 227 ∉ A ∧ ∀ q ∈ F, q.1 ≠ 227) : QuX l M' := by
  unfold QuX at *
  rw [fr.i h1.1 h1.2, fr.ib h2]
  exact hQ
/-- all that the level touches -/
theorem x_da29 (hn : n ≤ 2000) (hp : p ≤ 2000) (hr2 : ∀ i, i < n → res i ≤ 2) {ql : List Nat} (hql : ∀ i, i ∈ ql → i < n ∧ res i ≠ 0) (hlen : ql.length ≤ 2000) {j0 : Nat} {M0 : Mem} (q4 : Option Nat → Int32 → Int32 → Mem → Option (Unit × Mem)) : ∀ (k f j : Nat) (tl : List Nat) (M : Mem), j + k = ql.length → k < f → Bs w h L nt τ M → LkX n op tg (64 * n) M → QuX ql M → LdX n (ldX op tg res (ql.take j) 1) (ldX op tg res (ql.take j) 2) M → TcX n p tl M → (∀ i, i < n → mI M 221 i = nI (res i)) → j0 ≤ j → (∀ i, i ∈ tl ↔ (res i = 0 ∧ ∃ e u, j0 ≤ u ∧ u < j ∧ e ∈ lkE op tg (ql.getD u 0) (64 * n) ∧ e / 64 = i)) → Fx tcA tcF M0 M → ∃ M' tl', f_X0_decideAll_29 q4 f (some 220) (nI j) (nI p) (nI ql.length) M = f_X0_decideAll_54 q4 FU (some 220) (nI ql.length) (nI p) (nI 0) M' ∧ Fx tcA tcF M0 M' ∧ LdX n (ldX op tg res ql 1) (ldX op tg res ql 2) M' ∧ TcX n p tl' M' ∧ ∀ i, i ∈ tl' ↔ (res i = 0 ∧ ∃ e u, j0 ≤ u ∧ u < ql.length ∧ e ∈ lkE op tg (ql.getD u 0) (64 * n) ∧ e / 64 = i)
  | k, 0, j, tl, M => fun _ z => absurd z (by omega)
  | 0, f + 1, j, tl, M => by
    intro hj _ hb hK hQ hL hT hR hj0 htl fr
    obtain rfl : j = ql.length := by omega
    refine ⟨M, tl, ?_, fr, by rw [List.take_length] at hL; exact hL, hT, htl⟩
    rw [u_X0_decideAll_29]
    unfold b_X0_decideAll_29
    rw [if_pos (Int32.le_refl _)]
    rfl
  | k + 1, f + 1, j, tl, M => by
    intro hj hf hb hK hQ hL hT hR hj0 htl fr
    have hl := hb.lay
    have hm := hql _ (getD_mem (l := ql) (j := j) (by omega))
    obtain ⟨M1, tl1, z1, z2, z3, z4, z5⟩ := x_touch hn hp hr2 hm.1 hm.2 hb hK hL hT hR
    rw [u_X0_decideAll_29]
    unfold b_X0_decideAll_29
    rw [if_neg (nI_ge (by omega) (by omega)), gR_t (ly_t220 hl), ly_r220_8 hl, aI_t (ly_t227 hl) (by omega) (by decide), hQ.2 j (by omega), cR_t (ly_t220 hl), z1, cA_s, nI_1]
    refine x_da29 hn hp hr2 hql hlen q4 k f (j + 1) tl1 M1 (by omega) (by omega) (hb.fx z2 (by decide) (by decide)) (hK.fx z2 (by decide) (by decide)) (hQ.fx z2 (by decide) (by decide)) (by rw [tkL_s (by omega)]; exact z3) z4 (fun i hi => by rw [z2.ib (by decide)]; exact hR i hi) (by omega) (fun i => ?_) (fr.tr z2)
    rw [z5, htl]
    constructor
    · rintro (⟨a, e, u, b, c, d⟩ | ⟨a, e, b, c⟩)
      · exact ⟨a, e, u, b, by omega, d⟩
      · exact ⟨a, e, j, hj0, by omega, b, c⟩
    · rintro ⟨a, e, u, b, c, d⟩
      by_cases q : u = j
      · subst q; exact Or.inr ⟨a, e, d⟩
      · exact Or.inl ⟨a, e, u, b, by omega, d⟩
end LEVEL
