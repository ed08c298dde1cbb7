/-! ===== can a game run for ever: the class, all of it ===== -/
theorem lkE_nd {op : Nat → Chi} {tg : Nat → Nat} {t : Nat} : ∀ E, (lkE op tg t E).Nodup
  | 0 => List.nodup_nil
  | E + 1 => by
    have ih := lkE_nd (op := op) (tg := tg) (t := t) E
    show (if _ then _ else _ : List Nat).Nodup
    split
    · rw [List.nodup_cons]
      exact ⟨fun z => by have := (lkE_lt _ _ z).1; omega, ih⟩
    · exact ih
section CIRCLE2
variable {w h L nt : Nat} {τ : Nat → Txt} {n : Nat} {op : Nat → Chi} {tg : Nat → Nat} {O : Pos → Chi} {S : Pos → Nat → Nat → Pos} {Q : Nat → Pos}
/-- what is said at the end -/
def crc (O : Pos → Chi) (S : Pos → Nat → Nat → Pos) (Q : Nat → Pos) (n : Nat) (v : Nat) : Prop := v < 2 ∧ (v = 0 ↔ ∀ i, i < n → Gn O S (Q i))
theorem x_hc74 (hn : n ≤ 2000) (hG : Grf O S Q n op tg) {M0 : Mem} : ∀ (k f j : Nat) (ql : List Nat) (M : Mem), j + k = n → k < f → j ≤ ql.length → Bs w h L nt τ M → mI M 211 2 = nI n → LkX n op tg (64 * n) M → (∀ i, i < n → mI M 229 i = nI (cnX op (fun e => decide (tg e ∈ ql.take j)) i)) → QuX ql M → ql.Nodup → (∀ i, i ∈ ql ↔ (i < n ∧ cnX op (fun e => decide (tg e ∈ ql.take j)) i = 0)) → (∀ i, i ∈ ql → Gn O S (Q i)) → Fx hcA hcF M0 M → ∃ v M', f_X0_hasCircle_74 f (some 220) (nI j) M = some (nI v, M') ∧ Fx hcA hcF M0 M' ∧ crc O S Q n v
  | k, 0, j, ql, M => fun _ z => absurd z (by omega)
  | k, f + 1, j, ql, M => by
    intro hj hf hjl hb h2 hK hm hQ hqd hqm hgn fr
    have hl := hb.lay
    have hlen : ql.length ≤ n := nd_len hqd (fun i hi => ((hqm i).mp hi).1)
    rw [u_X0_hasCircle_74]
    unfold b_X0_hasCircle_74
    rw [gR_t (ly_t220 hl), ly_r220_8 hl, aN_t (ly_t227 hl) (by decide) (by decide) (by decide)]
    by_cases hend : j = ql.length
    · subst hend
      rw [List.take_length] at hqm
      have hcut : Cut O S Q n op tg (fun i => i ∈ ql) := by
        refine ⟨fun i hi z => (hqm i).mpr ⟨hi, (cn_zero hi).mpr (fun e he hei hv => decide_eq_true (z e he hei hv))⟩, fun i hi hq => hgn i hq⟩
      have hall := hcut.all hG
      have hle := all_len hqd (fun i hi => ((hqm i).mp hi).1) (n := n)
      have fin : ∃ v M', (gI M (some 220) 0 11 fun v3 => gR M (some 220) 0 2 fun v4 => gI M v4 8 2 fun v5 => (if v5 ≤ v3 then tv (0 : Int32) (some ((0 : Int32), M)) else tv (1 : Int32) (some ((1 : Int32), M)))) = some (nI v, M') ∧ Fx hcA hcF M0 M' ∧ crc O S Q n v := by
        rw [gI_t (ly_t220 hl), hQ.1, gR_t (ly_t220 hl), ly_r220_2 hl, gI_t (ly_t211 hl), h2]
        by_cases z : n ≤ ql.length
        · refine ⟨0, M, ?_, fr, by decide, fun _ => hall.mp (hle.mp z), fun _ => rfl⟩
          rw [if_pos (nI_le z (by omega)), tv_0]
          rfl
        · refine ⟨1, M, ?_, fr, by decide, (fun y => by cases y), fun y => absurd (hle.mpr (hall.mpr y)) z⟩
          rw [if_neg (nI_ge (by omega) (by omega)), tv_1]
          rfl
      by_cases hT : 2000 ≤ ql.length
      · rw [if_pos (nI_le hT (by omega))]
        exact fin
      · rw [if_neg (nI_ge (by omega) (by decide)), gI_t (ly_t220 hl), hQ.1, if_pos (Int32.le_refl _)]
        exact fin
    match k, hj, hf with
    | 0, hj, _ => exact absurd hj (by omega)
    | k + 1, hj, hf =>
    have hjn : j < ql.length := by omega
    have hsm : ql.getD j 0 ∈ ql := getD_mem hjn
    have hsn := ((hqm _).mp hsm).1
    have hch := hK _ hsn
    have hnj : ql.getD j 0 ∉ ql.take j := nodup_take hqd hjn
    obtain ⟨M', ql', z1, z2, z3, z4, z5, z6⟩ := x_hc105 (w := w) (h := h) (L := L) (nt := nt) (τ := τ) (op := op) hn (nx := j) (M0 := M) (f_X0_hasCircle_74 f) (lkE op tg (ql.getD j 0) (64 * n)) FU 0 (fun e => decide (tg e ∈ ql.take j)) ql _ M (by have := lkE_len (op := op) (tg := tg) (t := ql.getD j 0) (64 * n); unfold FU; omega) (by have := lkE_len (op := op) (tg := tg) (t := ql.getD j 0) (64 * n); omega) hb hch (fun e he => by
      obtain ⟨q1, q2, q3⟩ := lkE_lt _ _ he
      exact ⟨q1, q2, decide_eq_false (by rw [q3]; exact hnj)⟩) (lkE_nd _) hm hQ hqd hqm Fx.rf
    have htk : (ql ++ ql').take (j + 1) = ql.take j ++ [ql.getD j 0] := by
      rw [List.take_append_of_le_length (by omega), tkL_s hjn]
    have hD : ∀ e, e < 64 * n → vEx op e = true → ((fun e => decide (tg e ∈ ql.take j)) e || decide (e ∈ lkE op tg (ql.getD j 0) (64 * n))) = decide (tg e ∈ (ql ++ ql').take (j + 1)) := by
      intro e he hv
      rw [htk, Bool.eq_iff_iff]
      simp only [Bool.or_eq_true, decide_eq_true_eq, List.mem_append, List.mem_singleton]
      constructor
      · rintro (a | a)
        · exact Or.inl a
        · exact Or.inr (lkE_lt _ _ a).2.2
      · rintro (a | a)
        · exact Or.inl a
        · exact Or.inr (lkE_mem _ _ he hv a)
    have hcn : ∀ i, i < n → cnX op (fun e => (fun e => decide (tg e ∈ ql.take j)) e || decide (e ∈ lkE op tg (ql.getD j 0) (64 * n))) i = cnX op (fun e => decide (tg e ∈ (ql ++ ql').take (j + 1))) i := fun i hi => cn_ext hi hD
    have hqm' : ∀ i, i ∈ ql ++ ql' ↔ (i < n ∧ cnX op (fun e => decide (tg e ∈ (ql ++ ql').take (j + 1))) i = 0) := fun i => by
      rw [z6]
      constructor
      · rintro ⟨a, b⟩; exact ⟨a, by rw [← hcn i a]; exact b⟩
      · rintro ⟨a, b⟩; exact ⟨a, by rw [hcn i a]; exact b⟩
    obtain ⟨v, M2, y1, y2, y3⟩ := x_hc74 hn hG k f (j + 1) (ql ++ ql') M' (by omega) (by omega) (by rw [List.length_append]; omega) (hb.fx z2 (by decide) (by decide)) (by rw [z2.i (by decide) (by decide)]; exact h2) (hK.fx z2 (by decide) (by decide)) (fun i hi => by rw [z3 i hi, hcn i hi]) z4 z5 hqm' (fun i hi => by
      obtain ⟨a, b⟩ := (hqm' i).mp hi
      refine Gn.mk (fun no dn h1 h2' he => ?_)
      obtain ⟨g0, g1, g2⟩ := hG.ex a h1 h2' he
      have := (cn_zero a).mp b (64 * i + 8 * no + dn) (by omega) (by omega) g0
      rw [decide_eq_true_eq, htk, List.mem_append, List.mem_singleton] at this
      rw [← g2]
      rcases this with q | q
      · exact hgn _ (tkL_sub q)
      · rw [q]; exact hgn _ hsm) (fr.tr z2)
    refine ⟨v, M2, ?_, y2, y3⟩
    rw [if_neg (nI_ge (show j < 2000 by omega) (by decide)), gI_t (ly_t220 hl), hQ.1, if_neg (nI_ge hjn (by omega)), gR_t (ly_t220 hl), ly_r220_6 hl, gR_t (ly_t220 hl), ly_r220_8 hl, aI_t (ly_t227 hl) (by omega) (by decide), hQ.2 j hjn, aI_t (ly_t225 hl) (by omega) (by decide)]
    exact Eq.trans z1 y1
theorem x_hc7 (hn : n ≤ 2000) (hG : Grf O S Q n op tg) {M0 : Mem} : ∀ (k f s : Nat) (M : Mem), s + k = n → k < f → Bs w h L nt τ M → mI M 211 2 = nI n → OpX n op tg M → LkX n op tg (64 * n) M → (∀ i, i < s → mI M 229 i = nI (cnX op (fun _ => false) i)) → QuX (ovL op s) M → Fx hcA hcF M0 M → ∃ v M', f_X0_hasCircle_7 f (some 220) (nI s) M = some (nI v, M') ∧ Fx hcA hcF M0 M' ∧ crc O S Q n v
  | k, 0, s, M => fun _ z => absurd z (by omega)
  | 0, f + 1, s, M => by
    intro hs _ hb h2 hO hK hm hQ fr
    obtain rfl : s = n := by omega
    have hl := hb.lay
    have hc0 : ∀ i, cnX op (fun e => decide (tg e ∈ (ovL op s).take 0)) i = cnX op (fun _ => false) i := fun i => by
      rw [List.take_zero]
      congr 1
    obtain ⟨v, M', z1, z2, z3⟩ := x_hc74 hn hG s FU 0 (ovL op s) M (by omega) (by unfold FU; omega) (Nat.zero_le _) hb h2 hK (fun i hi => by rw [hc0]; exact hm i hi) hQ (ovL_nd s) (fun i => by
      rw [ovL_mem, hc0, cn_all]
      constructor
      · rintro ⟨a, b⟩
        exact ⟨a, by rw [pop_any.mpr b]⟩
      · rintro ⟨a, b⟩
        refine ⟨a, ?_⟩
        cases z : any8 (op i) with
        | false => rfl
        | true =>
          obtain ⟨q, hq, hi⟩ := hG.2.2 i a (by rw [← hG.1 i a]; exact z)
          rw [← hG.1 i a] at hi
          obtain ⟨hq1, hq2⟩ := TQ_tri q hq
          unfold inq at hi
          simp only [Bool.and_eq_true] at hi
          have h3 := popC_3 (tri_lt hq2 hq1) hi.1.1 hi.1.2 hi.2
          have := Nat.mul_le_mul h3 (show 2 ≤ popC (op i) 8 - 1 by omega)
          omega) (fun i hi => by
      obtain ⟨a, b⟩ := (ovL_mem _).mp hi
      refine Gn.mk (fun no dn h1 _ he => ?_)
      unfold eg at he
      rw [← hG.1 i a, any8_f.mp b no h1] at he
      simp at he) fr
    refine ⟨v, M', ?_, z2, z3⟩
    rw [u_X0_hasCircle_7]
    unfold b_X0_hasCircle_7
    rw [gR_t (ly_t220 hl), ly_r220_2 hl, gI_t (ly_t211 hl), h2, if_pos (Int32.le_refl _)]
    exact z1
  | k + 1, f + 1, s, M => by
    intro hs hf hb h2 hO hK hm hQ fr
    have hl := hb.lay
    have hs' : s < n := by omega
    have hql := ovL_len (op := op) s
    have hp8 := popC_le (op s) 8
    have hmul : nI (popC (op s) 8) * (nI (popC (op s) 8) - (1 : Int32)) = nI (cnX op (fun _ => false) s) := by
      rw [cn_all]
      by_cases z : popC (op s) 8 = 0
      · rw [z]; rfl
      · rw [nI_p1 (by omega), pk_mul]
    have f1 : Fx hcA hcF M (sI M 229 s (nI (cnX op (fun _ => false) s))) := Fx.wI (Or.inl (by decide))
    have hb1 := hb.fx f1 (by decide) (by decide)
    have hl1 := hb1.lay
    have mk1 : ∀ {M2 : Mem}, mI M2 229 = mI (sI M 229 s (nI (cnX op (fun _ => false) s))) 229 → ∀ i, i < s + 1 → mI M2 229 i = nI (cnX op (fun _ => false) i) := by
      intro M2 hh i hi
      rw [hh]
      by_cases e : i = s
      · subst e; exact mI_e
      · rw [mI_nk e]; exact hm i (by omega)
    have hQ1 : QuX (ovL op s) (sI M 229 s (nI (cnX op (fun _ => false) s))) := hQ.fx (Fx.wI (A := [229]) (F := []) (Or.inl (by decide))) (by decide) (by decide)
    rw [u_X0_hasCircle_7]
    unfold b_X0_hasCircle_7
    rw [gR_t (ly_t220 hl), ly_r220_2 hl, gI_t (ly_t211 hl), h2, if_neg (nI_ge (by omega) (by omega)), gR_t (ly_t220 hl), ly_r220_2 hl, gR_t (ly_t211 hl), ly_r211_0 hl, aI_t (ly_t212 hl) (by omega) (by decide), hO.1 s hs', bc_bS, cA_s, gR_t (ly_t220 hl), ly_r220_10 hl, hmul, wI_t (ly_t229 hl) (by omega) (by decide)]
    by_cases z : popC (op s) 8 = 0
    · have ha := pop_any.mp z
      have f2 : Fx hcA hcF M (sI (sI (sI M 229 s (nI (cnX op (fun _ => false) s))) 227 (ovL op s).length (nI s)) 220 11 (nI ((ovL op s).length + 1))) := (f1.I (Or.inl (by decide))).I (Or.inr (by decide))
      have hb2 := hb.fx (f1.I (a := 227) (k := (ovL op s).length) (v := nI s) (Or.inl (by decide))) (by decide) (by decide)
      rw [if_pos (show nI (popC (op s) 8) = 0 by rw [z]; rfl), gR_t (ly_t220 hl1), ly_r220_8 hl1, gI_t (ly_t220 hl1), hQ1.1, wI_t (ly_t227 hl1) (by omega) (by decide), gI_t (ly_t220 hb2.lay), mI_na (show 220 ≠ 227 by decide), hQ1.1, nI_1, pI_t (ly_t220 hb2.lay), nI_1]
      refine x_hc7 hn hG k f (s + 1) _ (by omega) (by omega) (hb.fx f2 (by decide) (by decide)) (by rw [f2.i (by decide) (by decide)]; exact h2) (hO.fx f2 (by decide) (by decide)) (hK.fx f2 (by decide) (by decide)) (mk1 (by rw [mI_na (by decide), mI_na (by decide)])) ?_ (fr.tr f2)
      show QuX (if _ then _ else _) _
      rw [if_pos ha]
      refine ⟨by rw [mI_e, List.length_append]; rfl, fun k hk => ?_⟩
      rw [List.length_append] at hk
      simp only [List.length_singleton] at hk
      rw [mI_na (by decide), getD_app]
      by_cases q : k = (ovL op s).length
      · subst q; rw [mI_e, if_neg (by omega), if_pos rfl]
      · rw [mI_nk q, mI_na (by decide), if_pos (by omega)]
        exact hQ.2 k (by omega)
    · rw [if_neg (ne_0 (by omega) z), nI_1]
      refine x_hc7 hn hG k f (s + 1) _ (by omega) (by omega) hb1 (by rw [f1.i (by decide) (by decide)]; exact h2) (hO.fx f1 (by decide) (by decide)) (hK.fx f1 (by decide) (by decide)) (mk1 rfl) ?_ (fr.tr f1)
      show QuX (if _ then _ else _) _
      rw [if_neg (fun y => z (pop_any.mpr y))]
      exact hQ1
theorem x_hasCircle {M : Mem} (hb : Bs w h L nt τ M) (hn : n ≤ 2000) (hG : Grf O S Q n op tg) (h2 : mI M 211 2 = nI n) (hO : OpX n op tg M) (hK : LkX n op tg (64 * n) M) : ∃ v M', f_X0_hasCircle (some 220) M = some (nI v, M') ∧ Fx hcA hcF M M' ∧ crc O S Q n v := by
  have f1 : Fx hcA hcF M (sI M 220 11 (nI 0)) := Fx.wI (Or.inr (by decide))
  obtain ⟨v, M', z1, z2, z3⟩ := x_hc7 hn hG n FU 0 (sI M 220 11 (nI 0)) (by omega) (by unfold FU; omega) (hb.fx f1 (by decide) (by decide)) (by rw [mI_na (by decide)]; exact h2) (hO.fx f1 (by decide) (by decide)) (hK.fx f1 (by decide) (by decide)) (fun i hi => absurd hi (by omega)) ⟨mI_e, fun k hk => absurd hk (by simp [ovL])⟩ f1
  refine ⟨v, M', ?_, z2, z3⟩
  unfold f_X0_hasCircle
  rw [pI_t (ly_t220 hb.lay)]
  exact z1
end CIRCLE2
