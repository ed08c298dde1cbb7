/-! ===== can a game run for ever: the class ===== -/
def Gn (O : Pos → Chi) (S : Pos → Nat → Nat → Pos) (π : Pos) : Prop := ∀ C : Pos → Prop, (∀ σ, (∀ no dn, no < 8 → dn < 8 → eg (O σ) no dn = true → C (S σ no dn)) → C σ) → C π
section CIRCLE
variable {w h L nt : Nat} {τ : Nat → Txt} {n : Nat} {op : Nat → Chi} {tg : Nat → Nat} {O : Pos → Chi} {S : Pos → Nat → Nat → Pos} {Q : Nat → Pos}
theorem Gn.mk {π : Pos} (hh : ∀ no dn, no < 8 → dn < 8 → eg (O π) no dn = true → Gn O S (S π no dn)) : Gn O S π := fun C hC => hC π (fun no dn a b c => hh no dn a b c C hC)
/-- a set of states that holds all that come to an end, and no other -/
def Cut (O : Pos → Chi) (S : Pos → Nat → Nat → Pos) (Q : Nat → Pos) (n : Nat) (op : Nat → Chi) (tg : Nat → Nat) (A : Nat → Prop) : Prop := (∀ i, i < n → (∀ e, e < 64 * n → e / 64 = i → vEx op e = true → A (tg e)) → A i) ∧ ∀ i, i < n → A i → Gn O S (Q i)
theorem Cut.all {A : Nat → Prop} (hG : Grf O S Q n op tg) (hc : Cut O S Q n op tg A) : (∀ i, i < n → A i) ↔ ∀ i, i < n → Gn O S (Q i) := by
  refine ⟨fun z i hi => hc.2 i hi (z i hi), fun z i hi => ?_⟩
  refine z i hi (fun σ => ∀ i, i < n → Q i = σ → A i) (fun σ hσ i hi e => hc.1 i hi (fun e' he' hei hv => ?_)) i hi rfl
  subst e
  have hg := hG.2.1 e' he' hv
  have hop := hG.1 i hi
  unfold vEx at hv
  rw [hei] at hv hg
  refine hσ (e' / 8 % 8) (e' % 8) (by omega) (by omega) ?_ (tg e') hg.1 hg.2
  unfold eg
  rw [← hop]
  exact hv
theorem all_len {ql : List Nat} (hd : ql.Nodup) (hl : ∀ i, i ∈ ql → i < n) : n ≤ ql.length ↔ ∀ i, i < n → i ∈ ql := by
  constructor
  · intro z i hi
    apply Classical.byContradiction
    intro y
    have := nd_lt hd hl hi y
    omega
  · intro z
    have hex : ∀ i, ∃ u, i < n → u < ql.length ∧ ql.getD u 0 = i := fun i => by
      by_cases hi : i < n
      · obtain ⟨u, hu, e⟩ := List.getElem_of_mem (z i hi)
        exact ⟨u, fun _ => ⟨hu, by rw [List.getD_eq_getElem?_getD, List.getElem?_eq_getElem hu]; exact e⟩⟩
      · exact ⟨0, fun y => absurd y hi⟩
    refine pigeon ql.length n (fun i => Classical.choose (hex i)) (fun i hi => (Classical.choose_spec (hex i) hi).1) (fun i j hi hj e => ?_)
    have h1 := (Classical.choose_spec (hex i) hi).2
    have h2 := (Classical.choose_spec (hex j) hj).2
    rw [← h1, ← h2]
    exact congrArg (fun u => ql.getD u 0) e
/-- how many exits of a state are left -/
def cnX (op : Nat → Chi) (D : Nat → Bool) (i : Nat) : Nat := (List.range' 0 64).countP (fun p => vEx op (64 * i + p) && !D (64 * i + p))
theorem countP_rm {p : Nat → Bool} {x : Nat} : ∀ l : List Nat, l.Nodup → x ∈ l → p x = true → l.countP (fun e => p e && !(e == x)) + 1 = l.countP p
  | [], _, h, _ => by cases h
  | a :: l, hd, hx, hp => by
    rw [List.nodup_cons] at hd
    by_cases e : a = x
    · subst e
      rw [List.countP_cons_of_neg (by simp), List.countP_cons_of_pos hp]
      congr 1
      refine List.countP_congr (fun y hy => ?_)
      have : y ≠ a := fun z => hd.1 (z ▸ hy)
      simp [this]
    · have ih := countP_rm l hd.2 (by rcases List.mem_cons.mp hx with z | z; exact absurd z.symm e; exact z) hp
      cases hpa : p a with
      | true => rw [List.countP_cons_of_pos (p := fun e => p e && !(e == x)) (by simp [hpa, e]), List.countP_cons_of_pos hpa]; omega
      | false => rw [List.countP_cons_of_neg (p := fun e => p e && !(e == x)) (by simp [hpa]), List.countP_cons_of_neg (by simp [hpa])]; exact ih
theorem cn_rm {D : Nat → Bool} {e0 : Nat} (hv : vEx op e0 = true) (hD : D e0 = false) : (∀ i, i ≠ e0 / 64 → cnX op (fun e => D e || e == e0) i = cnX op D i) ∧ cnX op (fun e => D e || e == e0) (e0 / 64) + 1 = cnX op D (e0 / 64) := by
  constructor
  · intro i hi
    unfold cnX
    refine List.countP_congr (fun p hp => ?_)
    have := List.mem_range'_1.mp hp
    have hne : ¬ 64 * i + p = e0 := by omega
    simp [hne]
  · unfold cnX
    have := countP_rm (p := fun p => vEx op (64 * (e0 / 64) + p) && !D (64 * (e0 / 64) + p)) (x := e0 % 64) (List.range' 0 64) List.nodup_range' (List.mem_range'_1.mpr (by omega)) (by
      show (vEx op (64 * (e0 / 64) + e0 % 64) && !D (64 * (e0 / 64) + e0 % 64)) = true
      rw [show 64 * (e0 / 64) + e0 % 64 = e0 by omega, hv, hD]
      rfl)
    rw [← this]
    congr 1
    refine List.countP_congr (fun p hp => ?_)
    have := List.mem_range'_1.mp hp
    have hb : (64 * (e0 / 64) + p == e0) = (p == e0 % 64) := by
      rw [Bool.eq_iff_iff, beq_iff_eq, beq_iff_eq]
      omega
    simp only [hb]
    cases vEx op (64 * (e0 / 64) + p) <;> cases D (64 * (e0 / 64) + p) <;> cases (p == e0 % 64) <;> simp
theorem cn_ext {D D' : Nat → Bool} {i : Nat} (hi : i < n) (hh : ∀ e, e < 64 * n → vEx op e = true → D e = D' e) : cnX op D i = cnX op D' i := by
  unfold cnX
  refine List.countP_congr (fun p hp => ?_)
  have := List.mem_range'_1.mp hp
  cases hv : vEx op (64 * i + p) with
  | false => simp
  | true => rw [hh _ (by omega) hv]
theorem cn_zero {D : Nat → Bool} {i : Nat} (hi : i < n) : cnX op D i = 0 ↔ ∀ e, e < 64 * n → e / 64 = i → vEx op e = true → D e = true := by
  unfold cnX
  rw [List.countP_eq_zero]
  constructor
  · intro z e he hei hv
    have := z (e % 64) (List.mem_range'_1.mpr (by omega))
    rw [← hei, show 64 * (e / 64) + e % 64 = e by omega, hv] at this
    simpa using this
  · intro z p hp
    have h64 := List.mem_range'_1.mp hp
    cases hv : vEx op (64 * i + p) with
    | false => simp
    | true =>
      rw [z (64 * i + p) (by omega) (by omega) hv]
      simp
theorem cn8 : ∀ m, m < 256 → (List.range' 0 64).countP (fun p => !(p / 8 == p % 8) && m.testBit (p / 8) && m.testBit (p % 8)) = popC (fun k => m.testBit k) 8 * (popC (fun k => m.testBit k) 8 - 1) := by decide +kernel
theorem cn_all {i : Nat} : cnX op (fun _ => false) i = popC (op i) 8 * (popC (op i) 8 - 1) := by
  have hb : ∀ m, m < 8 → (bS (op i) 8).testBit m = op i m := fun m hm => by rw [bS_bit]; simp [hm]
  have := cn8 (bS (op i) 8) (bS_lt8 _)
  rw [popC_ext (ψ := op i) 8 hb] at this
  rw [← this]
  unfold cnX
  refine List.countP_congr (fun p hp => ?_)
  have h64 := List.mem_range'_1.mp hp
  unfold vEx
  rw [show (64 * i + p) / 64 = i by omega, show (64 * i + p) / 8 % 8 = p / 8 by omega, show (64 * i + p) % 8 = p % 8 by omega, hb _ (by omega), hb _ (by omega)]
  simp
theorem pop_any {χ : Chi} : popC χ 8 = 0 ↔ any8 χ = false := by
  have key : ∀ k, popC χ k = 0 ↔ ∀ m, m < k → χ m = false := by
    intro k
    induction k with
    | zero => exact ⟨fun _ m hm => absurd hm (by omega), fun _ => rfl⟩
    | succ k ih =>
      show popC χ k + (χ k).toNat = 0 ↔ _
      constructor
      · intro z m hm
        by_cases e : m = k
        · subst e
          cases hc : χ m with
          | false => rfl
          | true => rw [hc] at z; simp at z
        · exact (ih.mp (by omega)) m (by omega)
      · intro z
        rw [ih.mpr (fun m hm => z m (by omega)), z k (by omega)]
        rfl
  rw [key 8, any8_f]
abbrev hcA : List Nat := [227, 229]
abbrev hcF : List (Nat × Nat) := [(220, 11)]
theorem x_hc105 (hn : n ≤ 2000) {nx : Nat} {M0 : Mem} (g : Option Nat → Int32 → Mem → Option (Int32 × Mem)) : ∀ (l : List Nat) (f c : Nat) (D : Nat → Bool) (ql : List Nat) (v : Int32) (M : Mem), l.length < f → c + l.length ≤ 128000 → Bs w h L nt τ M → chn M l v → (∀ e, e ∈ l → e < 64 * n ∧ vEx op e = true ∧ D e = false) → l.Nodup → (∀ i, i < n → mI M 229 i = nI (cnX op D i)) → QuX ql M → ql.Nodup → (∀ i, i ∈ ql ↔ (i < n ∧ cnX op D i = 0)) → Fx hcA hcF M0 M → ∃ M' ql', f_X0_hasCircle_105 g f (some 220) (nI nx) v (nI c) M = g (some 220) (nI (nx + 1)) M' ∧ Fx hcA hcF M0 M' ∧ (∀ i, i < n → mI M' 229 i = nI (cnX op (fun e => D e || decide (e ∈ l)) i)) ∧ QuX (ql ++ ql') M' ∧ (ql ++ ql').Nodup ∧ (∀ i, i ∈ ql ++ ql' ↔ (i < n ∧ cnX op (fun e => D e || decide (e ∈ l)) i = 0))
  | _, 0, c, D, ql, v, M => fun z => absurd z (by omega)
  | [], f + 1, c, D, ql, v, M => by
    intro _ hc hb hch _ _ hm hQ hqd hqm fr
    have hl := hb.lay
    have hv : v = m1 := hch
    subst hv
    have hD : (fun e => D e || decide (e ∈ ([] : List Nat))) = D := by funext e; simp
    refine ⟨M, [], ?_, fr, by rw [hD]; exact hm, by rw [List.append_nil]; exact hQ, by rw [List.append_nil]; exact hqd, by rw [hD, List.append_nil]; exact hqm⟩
    rw [u_X0_hasCircle_105]
    unfold b_X0_hasCircle_105
    rw [gR_t (ly_t220 hl), ly_r220_7 hl, aN_t (ly_t226 hl) (by decide) (by decide) (by decide), nI_1]
    by_cases q : 128000 ≤ c
    · rw [if_pos (nI_le q (by simp at hc; omega))]
    · rw [if_neg (nI_ge (by omega) (by decide)), if_pos (show m1 = (-1 : Int32) from rfl)]
  | e :: l, f + 1, c, D, ql, v, M => by
    intro hf hc hb hch he hnd hm hQ hqd hqm fr
    have hl := hb.lay
    obtain ⟨hv, hch'⟩ := hch
    subst hv
    rw [List.length_cons] at hf hc
    obtain ⟨e1, e2, e3⟩ := he e List.mem_cons_self
    rw [List.nodup_cons] at hnd
    have hen : e / 64 < n := by omega
    obtain ⟨r1, r2⟩ := cn_rm e2 e3
    have hDl : (fun x => (fun x => D x || x == e) x || decide (x ∈ l)) = fun x => D x || decide (x ∈ e :: l) := by
      funext x
      rw [Bool.or_assoc]
      congr 1
      rw [Bool.eq_iff_iff]
      simp
    have d1 : nI e / (64 : Int32) = nI (e / 64) := pk_div (d := 64) (by omega) (by decide) (by decide)
    have n64 : ∀ {X : Option (Int32 × Mem)}, nzI (64 : Int32) X = X := nz_y (y := 64) (by decide)
    have hlen : cnX op D (e / 64) ≤ 64 := by
      unfold cnX
      exact Nat.le_trans List.countP_le_length (by rw [List.length_range']; exact Nat.le_refl _)
    have f1 : Fx hcA hcF M (sI M 229 (e / 64) (nI (cnX op (fun x => D x || x == e) (e / 64)))) := Fx.wI (Or.inl (by decide))
    have hb1 := hb.fx f1 (by decide) (by decide)
    have hl1 := hb1.lay
    have mk1 : ∀ {M2 : Mem}, mI M2 229 = mI (sI M 229 (e / 64) (nI (cnX op (fun x => D x || x == e) (e / 64)))) 229 → ∀ i, i < n → mI M2 229 i = nI (cnX op (fun x => D x || x == e) i) := by
      intro M2 h2 i hi
      rw [h2]
      by_cases q : i = e / 64
      · subst q; exact mI_e
      · rw [mI_nk q, hm i hi, r1 i q]
    have go : ∀ (ql1 : List Nat) (M2 : Mem), Fx hcA hcF M M2 → mI M2 229 = mI (sI M 229 (e / 64) (nI (cnX op (fun x => D x || x == e) (e / 64)))) 229 → QuX (ql ++ ql1) M2 → (ql ++ ql1).Nodup → (∀ i, i ∈ ql ++ ql1 ↔ (i < n ∧ cnX op (fun x => D x || x == e) i = 0)) → ∃ M' ql', f_X0_hasCircle_105 g f (some 220) (nI nx) (mI M2 226 e) (nI (c + 1)) M2 = g (some 220) (nI (nx + 1)) M' ∧ Fx hcA hcF M0 M' ∧ (∀ i, i < n → mI M' 229 i = nI (cnX op (fun x => D x || decide (x ∈ e :: l)) i)) ∧ QuX (ql ++ ql') M' ∧ (ql ++ ql').Nodup ∧ (∀ i, i ∈ ql ++ ql' ↔ (i < n ∧ cnX op (fun x => D x || decide (x ∈ e :: l)) i = 0)) := by
      intro ql1 M2 f2 h229 hQ2 hd2 hm2
      have hch2 : chn M2 l (mI M2 226 e) := by
        rw [f2.ib (by decide)]
        exact chn.ext l _ (fun q _ => by rw [f2.ib (by decide)]) hch'
      obtain ⟨M', ql', z1, z2, z3, z4, z5, z6⟩ := x_hc105 hn g l f (c + 1) (fun x => D x || x == e) (ql ++ ql1) _ M2 (by omega) (by omega) (hb.fx f2 (by decide) (by decide)) hch2 (fun q hq => by
        obtain ⟨q1, q2, q3⟩ := he q (List.mem_cons_of_mem _ hq)
        refine ⟨q1, q2, ?_⟩
        have : ¬ q = e := fun z => hnd.1 (z ▸ hq)
        show (D q || q == e) = false
        rw [q3]
        simpa using this) hnd.2 (mk1 h229) hQ2 hd2 hm2 (fr.tr f2)
      rw [hDl] at z3 z6
      exact ⟨M', ql1 ++ ql', z1, z2, z3, by rw [← List.append_assoc]; exact z4, by rw [← List.append_assoc]; exact z5, by rw [← List.append_assoc]; exact z6⟩
    have hmv : nI (cnX op D (e / 64)) - (1 : Int32) = nI (cnX op (fun x => D x || x == e) (e / 64)) := by
      rw [← r2]; exact nI_pred _
    rw [u_X0_hasCircle_105]
    unfold b_X0_hasCircle_105
    rw [gR_t (ly_t220 hl), ly_r220_7 hl, aN_t (ly_t226 hl) (by decide) (by decide) (by decide), if_neg (nI_ge (by omega) (by decide)), if_neg (show ¬ nI e = (-1 : Int32) from fun z => (nI_nm1 (by omega)).mp z), n64, d1, gR_t (ly_t220 hl), ly_r220_10 hl, aI_t (ly_t229 hl) (by omega) (by decide), hm _ hen, hmv, wI_t (ly_t229 hl) (by omega) (by decide), gR_t (ly_t220 hl1), ly_r220_10 hl1, aI_t (ly_t229 hl1) (by omega) (by decide), mI_e, nI_1]
    have hQ1 : QuX ql (sI M 229 (e / 64) (nI (cnX op (fun x => D x || x == e) (e / 64)))) := hQ.fx (Fx.wI (A := [229]) (F := []) (Or.inl (by decide))) (by decide) (by decide)
    have hni : e / 64 ∉ ql := fun z => by have := ((hqm _).mp z).2; omega
    by_cases hz : cnX op (fun x => D x || x == e) (e / 64) = 0
    · have hlt := nd_lt hqd (fun i hi => ((hqm i).mp hi).1) hen hni
      have f2 : Fx hcA hcF M (sI (sI (sI M 229 (e / 64) (nI (cnX op (fun x => D x || x == e) (e / 64)))) 227 ql.length (nI (e / 64))) 220 11 (nI (ql.length + 1))) := (f1.I (Or.inl (by decide))).I (Or.inr (by decide))
      have hb2 := hb.fx (f1.I (a := 227) (k := ql.length) (v := nI (e / 64)) (Or.inl (by decide))) (by decide) (by decide)
      have hb3 := hb.fx f2 (by decide) (by decide)
      rw [if_pos (show nI (cnX op (fun x => D x || x == e) (e / 64)) = 0 by rw [hz]; rfl), gI_t (ly_t220 hl1), hQ1.1, gR_t (ly_t220 hl1), ly_r220_8 hl1, aN_t (ly_t227 hl1) (by decide) (by decide) (by decide), if_neg (nI_ge (by omega) (by decide)), gR_t (ly_t220 hl1), ly_r220_8 hl1, gI_t (ly_t220 hl1), hQ1.1, wI_t (ly_t227 hl1) (by omega) (by decide), gI_t (ly_t220 hb2.lay), mI_na (show 220 ≠ 227 by decide), hQ1.1, nI_1, pI_t (ly_t220 hb2.lay), gR_t (ly_t220 hb3.lay), ly_r220_7 hb3.lay, aI_t (ly_t226 hb3.lay) (by omega) (by decide)]
      refine go [e / 64] _ f2 ?_ ⟨by rw [mI_e, List.length_append]; rfl, fun k hk => ?_⟩ ?_ (fun i => ?_)
      · rw [mI_na (by decide), mI_na (by decide)]
      · rw [List.length_append] at hk
        simp only [List.length_singleton] at hk
        rw [mI_na (by decide), getD_app]
        by_cases q : k = ql.length
        · subst q; rw [mI_e, if_neg (by omega), if_pos rfl]
        · rw [mI_nk q, mI_na (by decide), if_pos (by omega)]
          exact hQ.2 k (by omega)
      · rw [List.nodup_append]
        exact ⟨hqd, by simp, fun a ha b hb' => by
          rw [List.mem_singleton] at hb'
          subst hb'
          exact fun z => hni (z ▸ ha)⟩
      · rw [List.mem_append, List.mem_singleton, hqm]
        constructor
        · rintro (⟨a, b⟩ | rfl)
          · by_cases q : i = e / 64
            · subst q; exact ⟨hen, hz⟩
            · exact ⟨a, by rw [r1 i q]; exact b⟩
          · exact ⟨hen, hz⟩
        · rintro ⟨a, b⟩
          by_cases q : i = e / 64
          · exact Or.inr q
          · exact Or.inl ⟨a, by rw [← r1 i q]; exact b⟩
    · rw [if_neg (ne_0 (by omega) hz), gR_t (ly_t220 hl1), ly_r220_7 hl1, aI_t (ly_t226 hl1) (by omega) (by decide)]
      refine go [] _ f1 rfl (by rw [List.append_nil]; exact hQ1) (by rw [List.append_nil]; exact hqd) (fun i => ?_)
      rw [List.append_nil, hqm]
      constructor
      · rintro ⟨a, b⟩
        by_cases q : i = e / 64
        · subst q; omega
        · exact ⟨a, by rw [r1 i q]; exact b⟩
      · rintro ⟨a, b⟩
        by_cases q : i = e / 64
        · subst q; exact absurd b hz
        · exact ⟨a, by rw [← r1 i q]; exact b⟩
end CIRCLE
