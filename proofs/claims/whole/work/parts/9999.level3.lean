/-! ===== the class decides all ===== -/
theorem ovL_mem {op : Nat → Chi} {i : Nat} : ∀ s, i ∈ ovL op s ↔ (i < s ∧ any8 (op i) = false)
  | 0 => by simp [ovL]
  | s + 1 => by
    have ih := ovL_mem (op := op) (i := i) s
    show i ∈ (if _ then _ else _ : List Nat) ↔ _
    by_cases ha : any8 (op s) = false
    · rw [if_pos ha, List.mem_append, List.mem_singleton, ih]
      constructor
      · rintro (⟨a, b⟩ | rfl)
        · exact ⟨by omega, b⟩
        · exact ⟨by omega, ha⟩
      · rintro ⟨a, b⟩
        by_cases e : i = s
        · exact Or.inr e
        · exact Or.inl ⟨by omega, b⟩
    · rw [if_neg ha, ih]
      constructor
      · rintro ⟨a, b⟩; exact ⟨by omega, b⟩
      · rintro ⟨a, b⟩
        refine ⟨?_, b⟩
        rcases Nat.lt_or_ge i s with z | z
        · exact z
        · obtain rfl : i = s := by omega
          exact absurd b ha
theorem ovL_nd {op : Nat → Chi} : ∀ s, (ovL op s).Nodup
  | 0 => List.nodup_nil
  | s + 1 => by
    have ih := ovL_nd (op := op) s
    show (if _ then _ else _ : List Nat).Nodup
    split
    · rw [List.nodup_append]
      exact ⟨ih, by simp, fun a ha b hb => by
        rw [List.mem_singleton] at hb
        subst hb
        have := (ovL_mem _).mp ha
        omega⟩
    · exact ih
section LEVEL3
variable {w h L nt : Nat} {τ : Nat → Txt} {n : Nat} {op : Nat → Chi} {tg : Nat → Nat} {O : Pos → Chi} {S : Pos → Nat → Nat → Pos} {Q : Nat → Pos}
/-- the row of states is closed -/
def Grf (O : Pos → Chi) (S : Pos → Nat → Nat → Pos) (Q : Nat → Pos) (n : Nat) (op : Nat → Chi) (tg : Nat → Nat) : Prop := (∀ i, i < n → op i = O (Q i)) ∧ (∀ e, e < 64 * n → vEx op e = true → tg e < n ∧ Q (tg e) = S (Q (e / 64)) (e / 8 % 8) (e % 8)) ∧ ∀ i, i < n → any8 (O (Q i)) = true → ∃ q, q ∈ TQ ∧ inq (O (Q i)) q = true
theorem vEx_eg {i no dn : Nat} (h1 : no < 8) (h2 : dn < 8) : vEx op (64 * i + 8 * no + dn) = eg (op i) no dn := by
  unfold vEx eg
  rw [show (64 * i + 8 * no + dn) / 64 = i by omega, show (64 * i + 8 * no + dn) / 8 % 8 = no by omega, show (64 * i + 8 * no + dn) % 8 = dn by omega]
theorem Grf.ex (hG : Grf O S Q n op tg) {i no dn : Nat} (hi : i < n) (h1 : no < 8) (h2 : dn < 8) (he : eg (O (Q i)) no dn = true) : vEx op (64 * i + 8 * no + dn) = true ∧ tg (64 * i + 8 * no + dn) < n ∧ Q (tg (64 * i + 8 * no + dn)) = S (Q i) no dn := by
  have hv : vEx op (64 * i + 8 * no + dn) = true := by rw [vEx_eg h1 h2, hG.1 i hi]; exact he
  have := hG.2.1 (64 * i + 8 * no + dn) (by omega) hv
  rw [show (64 * i + 8 * no + dn) / 64 = i by omega, show (64 * i + 8 * no + dn) / 8 % 8 = no by omega, show (64 * i + 8 * no + dn) % 8 = dn by omega] at this
  exact ⟨hv, this⟩
theorem ldX_S (hG : Grf O S Q n op tg) {t k : Nat} {ql : List Nat} (hk : k ≠ 0) (hm : ∀ i, i < n → rsS O S t (Q i) ≠ 0 → i ∈ ql) {i no dn : Nat} (hi : i < n) (h1 : no < 8) (h2 : dn < 8) : ldX op tg (fun i => rsS O S t (Q i)) ql k i no dn = ldS O S (rsS O S t) k (Q i) no dn := by
  unfold ldX ldS
  rw [vEx_eg h1 h2, hG.1 i hi]
  cases he : eg (O (Q i)) no dn with
  | false => rfl
  | true =>
    obtain ⟨-, g1, g2⟩ := hG.ex hi h1 h2 he
    rw [Bool.true_and, Bool.true_and]
    show (_ && (rsS O S t (Q (tg (64 * i + 8 * no + dn))) == k)) = _
    by_cases q : rsS O S t (Q (tg (64 * i + 8 * no + dn))) = k
    · have := hm _ g1 (by rw [q]; exact hk)
      rw [decide_eq_true this, Bool.true_and, g2]
    · have e1 : (rsS O S t (Q (tg (64 * i + 8 * no + dn))) == k) = false := by simpa using q
      rw [g2] at e1 ⊢
      rw [e1, Bool.and_false]
def LvX (O : Pos → Chi) (S : Pos → Nat → Nat → Pos) (Q : Nat → Pos) (n : Nat) (op : Nat → Chi) (tg : Nat → Nat) (t : Nat) (ql : List Nat) (j0 : Nat) (M : Mem) : Prop :=
  (∀ i, i < n → mI M 221 i = nI (rsS O S t (Q i)) ∧ mI M 222 i = if rsS O S t (Q i) = 0 then m1 else nI (tiS O S t (Q i))) ∧ QuX ql M ∧ ql.Nodup ∧ (∀ i, i ∈ ql ↔ (i < n ∧ rsS O S t (Q i) ≠ 0)) ∧ j0 ≤ ql.length ∧ (∀ u, u < ql.length → (u < j0 ↔ tiS O S t (Q (ql.getD u 0)) < t)) ∧ LdX n (ldX op tg (fun i => rsS O S t (Q i)) (ql.take j0) 1) (ldX op tg (fun i => rsS O S t (Q i)) (ql.take j0) 2) M ∧ (∀ i, i < n → ∃ k, k ≤ t ∧ mI M 229 i = nI k) ∧ t ≤ j0
/-- what stands when all is decided -/
def FinX (O : Pos → Chi) (S : Pos → Nat → Nat → Pos) (Q : Nat → Pos) (n : Nat) (M : Mem) : Prop :=
  (∀ i, i < n → mI M 221 i = nI (rsS O S 2000 (Q i)) ∧ mI M 222 i = if rsS O S 2000 (Q i) = 0 then m1 else nI (tiS O S 2000 (Q i))) ∧ LdX n (fun i => ldS O S (rsS O S 2000) 1 (Q i)) (fun i => ldS O S (rsS O S 2000) 2 (Q i)) M ∧ ∀ i, i < n → rsS O S 2001 (Q i) = rsS O S 2000 (Q i)
abbrev daA : List Nat := [221, 222, 223, 224, 227, 228, 229]
abbrev daF : List (Nat × Nat) := [(220, 11), (220, 12)]
theorem LvX.noNew (hG : Grf O S Q n op tg) {t : Nat} {ql : List Nat} {M : Mem} (hv : LvX O S Q n op tg t ql ql.length M) : ∀ i, i < n → rsS O S (t + 1) (Q i) = rsS O S t (Q i) := by
  obtain ⟨-, -, -, v4, -, v6, -, -, -⟩ := hv
  intro i hi
  by_cases q : rsS O S t (Q i) = 0
  · rw [q]
    refine rs_same (hG.2.2 i hi) q (fun no dn h1 h2 he hw => ?_)
    obtain ⟨-, g1, g2⟩ := hG.ex hi h1 h2 he
    rw [← g2] at hw
    have hm := (v4 _).mpr ⟨g1, hw.1⟩
    obtain ⟨u, hu, e⟩ := List.getElem_of_mem hm
    have e' : ql.getD u 0 = tg (64 * i + 8 * no + dn) := by rw [List.getD_eq_getElem?_getD, List.getElem?_eq_getElem hu]; exact e
    have := (v6 u hu).mp hu
    rw [e', hw.2] at this
    omega
  · exact rs_sn q
theorem LvX.fin (hG : Grf O S Q n op tg) {t : Nat} {ql : List Nat} {M : Mem} (ht : t ≤ 2000) (hv : LvX O S Q n op tg t ql ql.length M) : FinX O S Q n M := by
  have hs := hv.noNew hG
  obtain ⟨v1, -, -, v4, -, v6, v7, -, -⟩ := hv
  have hst := rs_stab (O := O) (S := S) (fun π => ∃ i, i < n ∧ Q i = π) (fun π no dn hp h1 h2 he => by
    obtain ⟨i, hi, rfl⟩ := hp
    obtain ⟨-, g1, g2⟩ := hG.ex hi h1 h2 he
    exact ⟨_, g1, g2⟩) (t := t) (fun π hp => by
    obtain ⟨i, hi, rfl⟩ := hp
    exact hs i hi)
  have e0 : ∀ i, i < n → rsS O S 2000 (Q i) = rsS O S t (Q i) := fun i hi => by
    have := hst (2000 - t) (Q i) ⟨i, hi, rfl⟩
    rwa [show t + (2000 - t) = 2000 by omega] at this
  have e1 : ∀ i, i < n → rsS O S 2001 (Q i) = rsS O S t (Q i) := fun i hi => by
    have := hst (2001 - t) (Q i) ⟨i, hi, rfl⟩
    rwa [show t + (2001 - t) = 2001 by omega] at this
  refine ⟨fun i hi => ?_, ?_, fun i hi => (e1 i hi).trans (e0 i hi).symm⟩
  · rw [e0 i hi]
    refine ⟨(v1 i hi).1, ?_⟩
    rw [(v1 i hi).2]
    by_cases q : rsS O S t (Q i) = 0
    · rw [if_pos q, if_pos q]
    · rw [if_neg q, if_neg q, tm_up q ht]
  · rw [List.take_length] at v7
    obtain ⟨b1, b2⟩ := LdX.bt.mp v7
    have key : ∀ k, k ≠ 0 → ∀ i no dn, i < n → no < 8 → dn < 8 → ldS O S (rsS O S 2000) k (Q i) no dn = ldX op tg (fun i => rsS O S t (Q i)) ql k i no dn := by
      intro k hk i no dn hi h1 h2
      rw [ldX_S hG hk (fun i hi hr => (v4 i).mpr ⟨hi, hr⟩) hi h1 h2]
      unfold ldS
      cases he : eg (O (Q i)) no dn with
      | false => rw [Bool.false_and, Bool.false_and]
      | true =>
        obtain ⟨-, g1, g2⟩ := hG.ex hi h1 h2 he
        rw [← g2, e0 _ g1]
    exact LdX.bt.mpr ⟨b1.ext rfl (key 1 (by decide)), b2.ext rfl (key 2 (by decide))⟩
theorem x_da4 (hn : n ≤ 2000) (hG : Grf O S Q n op tg) {M0 : Mem} : ∀ (k f t : Nat) (ql : List Nat) (j0 : Nat) (M : Mem), t + k = 2000 → k < f → Bs w h L nt τ M → OpX n op tg M → LkX n op tg (64 * n) M → LvX O S Q n op tg t ql j0 M → Fx daA daF M0 M → ∃ M', f_X0_decideAll_4 f (some 220) (nI j0) (nI (t + 1)) M = some ((), M') ∧ Fx daA daF M0 M' ∧ FinX O S Q n M'
  | k, 0, t, ql, j0, M => fun _ z => absurd z (by omega)
  | k, f + 1, t, ql, j0, M => by
    intro ht hf hb hO hK hv fr
    have hl := hb.lay
    obtain ⟨v1, v2, v3, v4, v5, v6, v7, v8, v9⟩ := id hv
    have hlen : ql.length ≤ n := nd_len v3 (fun i hi => ((v4 i).mp hi).1)
    rw [u_X0_decideAll_4]
    unfold b_X0_decideAll_4
    by_cases hend : j0 = ql.length
    · subst hend
      refine ⟨M, ?_, fr, hv.fin hG (by omega)⟩
      by_cases h2 : 2000 < t + 1
      · rw [if_pos (show (2000 : Int32) < nI (t + 1) from nI_lt (a := 2000) h2 (by omega))]
      · rw [if_neg (show ¬ (2000 : Int32) < nI (t + 1) from nI_nlt (a := 2000) (by omega) (by decide)), gI_t (ly_t220 hl), v2.1, if_pos (Int32.le_refl _)]
    have ht2 : t < 2000 := by omega
    match k, ht, hf with
    | 0, ht, _ => exact absurd ht (by omega)
    | k + 1, ht, hf =>
    have hr2 : ∀ i, i < n → (fun i => rsS O S t (Q i)) i ≤ 2 := fun i _ => rs_le t (Q i)
    have f1 : Fx tcA tcF M (sI M 220 12 (nI 0)) := Fx.wI (Or.inr (by decide))
    have hb1 := hb.fx f1 (by decide) (by decide)
    have hT1 : TcX n (t + 1) [] (sI M 220 12 (nI 0)) := by
      refine ⟨mI_e, fun k hk => absurd hk (by simp), List.nodup_nil, (fun i hi => by cases hi), fun i hi => ?_⟩
      obtain ⟨k, k1, k2⟩ := v8 i hi
      exact ⟨k, by omega, by rw [mI_na (by decide)]; exact k2, by constructor <;> (intro z; first | omega | cases z)⟩
    have hL1 : LdX n (ldX op tg (fun i => rsS O S t (Q i)) (ql.take j0) 1) (ldX op tg (fun i => rsS O S t (Q i)) (ql.take j0) 2) (sI M 220 12 (nI 0)) := fun i no a b => by rw [mI_na (by decide), mI_na (by decide)]; exact v7 i no a b
    obtain ⟨M2, tl, a1, a2, a3, a4, a5⟩ := x_da29 (w := w) (h := h) (L := L) (nt := nt) (τ := τ) (p := t + 1) hn (by omega) hr2 (ql := ql) (fun i hi => (v4 i).mp hi) (by omega) (j0 := j0) (M0 := sI M 220 12 (nI 0)) (f_X0_decideAll_4 f) (ql.length - j0) FU j0 [] _ (by omega) (by unfold FU; omega) hb1 (hK.fx f1 (by decide) (by decide)) (v2.fx f1 (by decide) (by decide)) hL1 hT1 (fun i hi => by rw [mI_na (by decide)]; exact (v1 i hi).1) (Nat.le_refl _) (fun i => ⟨(fun z => by cases z), fun ⟨_, _, u, u1, u2, _⟩ => absurd u2 (by omega)⟩) Fx.rf
    have f2 : Fx tcA tcF M M2 := f1.tr a2
    have hb2 := hb.fx f2 (by decide) (by decide)
    have hq2 : QuX ql M2 := v2.fx f2 (by decide) (by decide)
    have hO2 := hO.fx f2 (by decide) (by decide)
    have htl : ∀ i, i ∈ tl → i < n ∧ rsS O S t (Q i) = 0 := fun i hi => ⟨a4.2.2.2.1 i hi, ((a5 i).mp hi).1⟩
    obtain ⟨M3, c1, c2, c3, c4⟩ := x_da54 (w := w) (h := h) (L := L) (nt := nt) (τ := τ) (p := t + 1) (op := op) hn (res := fun i => rsS O S t (Q i)) (lv := fun i => if rsS O S t (Q i) = 0 then m1 else nI (tiS O S t (Q i))) (ql := ql) (tl := tl) (fun i hi => (v4 i).mp hi) v3 htl a4.2.2.1 (M0 := M2) (f_X0_decideAll_4 f) tl.length FU 0 M2 (by omega) (by have := nd_len a4.2.2.1 (n := n) a4.2.2.2.1; unfold FU; omega) hb2 a3 hO2.1 (by rw [List.take_zero]; show QuX (ql ++ []) _; rw [List.append_nil]; exact hq2) a4.1 a4.2.1 (fun i hi => by
      rw [List.take_zero, if_neg (by simp), if_neg (by simp), f2.ib (by decide), f2.ib (by decide)]
      exact v1 i hi) Fx.rf
    have f3 : Fx daA daF M M3 := (f2.mono (by decide) (by decide)).tr (c2.mono (by decide) (by decide))
    -- what is decided is the next level
    have hnw : ∀ i, i ∈ tl → nwR op (ldX op tg (fun i => rsS O S t (Q i)) ql 1) (ldX op tg (fun i => rsS O S t (Q i)) ql 2) i = rsS O S (t + 1) (Q i) := by
      intro i hi
      obtain ⟨hin, h0⟩ := htl i hi
      rw [rs_sy h0]
      unfold nwR
      rw [hG.1 i hin]
      exact dcS_congr (fun no dn h1 h2 => ldX_S hG (by decide) (fun i hi hr => (v4 i).mpr ⟨hi, hr⟩) hin h1 h2) (fun no dn h1 h2 => ldX_S hG (by decide) (fun i hi hr => (v4 i).mpr ⟨hi, hr⟩) hin h1 h2)
    have hnt : ∀ i, i < n → i ∉ tl → rsS O S (t + 1) (Q i) = rsS O S t (Q i) := by
      intro i hi hni
      by_cases q : rsS O S t (Q i) = 0
      · rw [q]
        refine rs_same (hG.2.2 i hi) q (fun no dn h1 h2 he hw => hni ((a5 i).mpr ⟨q, ?_⟩))
        obtain ⟨g0, g1, g2⟩ := hG.ex hi h1 h2 he
        rw [← g2] at hw
        obtain ⟨u, hu, e⟩ := List.getElem_of_mem ((v4 _).mpr ⟨g1, hw.1⟩)
        have e' : ql.getD u 0 = tg (64 * i + 8 * no + dn) := by rw [List.getD_eq_getElem?_getD, List.getElem?_eq_getElem hu]; exact e
        have hju : j0 ≤ u := by
          rcases Nat.lt_or_ge u j0 with z | z
          · have := (v6 u hu).mp z
            rw [e', hw.2] at this
            omega
          · exact z
        exact ⟨64 * i + 8 * no + dn, u, hju, hu, by rw [e']; exact lkE_mem _ _ (by omega) g0 rfl, by omega⟩
      · exact rs_sn q
    have hwm : ∀ i, i ∈ nwL op (ldX op tg (fun i => rsS O S t (Q i)) ql 1) (ldX op tg (fun i => rsS O S t (Q i)) ql 2) tl ↔ (i ∈ tl ∧ rsS O S (t + 1) (Q i) ≠ 0) := by
      intro i
      rw [nwL_mem]
      constructor
      · rintro ⟨a, b⟩; exact ⟨a, by rw [← hnw i a]; exact b⟩
      · rintro ⟨a, b⟩; exact ⟨a, by rw [hnw i a]; exact b⟩
    have hv' : LvX O S Q n op tg (t + 1) (ql ++ nwL op (ldX op tg (fun i => rsS O S t (Q i)) ql 1) (ldX op tg (fun i => rsS O S t (Q i)) ql 2) tl) ql.length M3 := by
      refine ⟨fun i hi => ?_, c3, ?_, fun i => ?_, by rw [List.length_append]; omega, fun u hu => ?_, ?_, fun i hi => ?_, by omega⟩
      · rw [(c4 i hi).1, (c4 i hi).2]
        by_cases q : i ∈ tl
        · have h0 := (htl i q).2
          rw [if_pos q, hnw i q, tm_sy h0]
          refine ⟨rfl, ?_⟩
          by_cases z : rsS O S (t + 1) (Q i) = 0
          · rw [if_neg (fun y => y.2 z), if_pos z]; exact if_pos h0
          · rw [if_pos ⟨q, z⟩, if_neg z]
        · rw [if_neg q, if_neg (fun y => q y.1), hnt i hi q]
          refine ⟨rfl, ?_⟩
          show (if _ then _ else _) = _
          by_cases z : rsS O S t (Q i) = 0
          · rw [if_pos z, if_pos z]
          · rw [if_neg z, if_neg z, tm_sn z]
      · rw [List.nodup_append]
        refine ⟨v3, List.Pairwise.filter _ a4.2.2.1, fun a ha b hb' e => ?_⟩
        subst e
        exact ((v4 a).mp ha).2 (htl a ((hwm a).mp hb').1).2
      · rw [List.mem_append, v4, hwm]
        constructor
        · rintro (⟨a, b⟩ | ⟨a, b⟩)
          · exact ⟨a, by rw [rs_sn b]; exact b⟩
          · exact ⟨(htl i a).1, b⟩
        · rintro ⟨a, b⟩
          by_cases q : i ∈ tl
          · exact Or.inr ⟨q, b⟩
          · rw [hnt i a q] at b; exact Or.inl ⟨a, b⟩
      · rw [List.length_append] at hu
        rcases Nat.lt_or_ge u ql.length with z | z
        · have em : (ql ++ nwL op (ldX op tg (fun i => rsS O S t (Q i)) ql 1) (ldX op tg (fun i => rsS O S t (Q i)) ql 2) tl).getD u 0 = ql.getD u 0 := by
            rw [List.getD_eq_getElem?_getD, List.getElem?_append_left z, List.getD_eq_getElem?_getD]
          have hm := (v4 _).mp (getD_mem z)
          have := tm_le (O := O) (S := S) t (Q (ql.getD u 0))
          rw [em, tm_sn hm.2]
          exact ⟨fun _ => by omega, fun _ => z⟩
        · have em : (ql ++ nwL op (ldX op tg (fun i => rsS O S t (Q i)) ql 1) (ldX op tg (fun i => rsS O S t (Q i)) ql 2) tl).getD u 0 = (nwL op (ldX op tg (fun i => rsS O S t (Q i)) ql 1) (ldX op tg (fun i => rsS O S t (Q i)) ql 2) tl).getD (u - ql.length) 0 := by
            rw [List.getD_eq_getElem?_getD, List.getElem?_append_right z, List.getD_eq_getElem?_getD]
          have hm := (hwm _).mp (getD_mem (l := nwL op (ldX op tg (fun i => rsS O S t (Q i)) ql 1) (ldX op tg (fun i => rsS O S t (Q i)) ql 2) tl) (j := u - ql.length) (by omega))
          rw [em, tm_sy (htl _ hm.1).2]
          constructor <;> (intro y; omega)
      · rw [List.take_left]
        obtain ⟨b1, b2⟩ := LdX.bt.mp a3
        have key : ∀ k i no dn, ldX op tg (fun i => rsS O S (t + 1) (Q i)) ql k i no dn = ldX op tg (fun i => rsS O S t (Q i)) ql k i no dn := by
          intro k i no dn
          unfold ldX
          by_cases q : tg (64 * i + 8 * no + dn) ∈ ql
          · show (_ && (rsS O S (t + 1) (Q (tg (64 * i + 8 * no + dn))) == k)) = _
            rw [rs_sn ((v4 _).mp q).2]
          · rw [decide_eq_false q, Bool.and_false, Bool.false_and, Bool.false_and]
        exact LdX.bt.mpr ⟨b1.ext (c2.ib (by decide)) (fun i no dn _ _ _ => key 1 i no dn), b2.ext (c2.ib (by decide)) (fun i no dn _ _ _ => key 2 i no dn)⟩
      · obtain ⟨k, k1, k2, -⟩ := a4.2.2.2.2 i hi
        exact ⟨k, k1, by rw [c2.ib (by decide)]; exact k2⟩
    rw [if_neg (show ¬ (2000 : Int32) < nI (t + 1) from nI_nlt (a := 2000) (by omega) (by decide)), gI_t (ly_t220 hl), v2.1, if_neg (nI_ge (by omega) (by omega)), gI_t (ly_t220 hl), v2.1, pI_t (ly_t220 hl)]
    obtain ⟨M', z1, z2⟩ := x_da4 hn hG k f (t + 1) _ ql.length M3 (by omega) (by omega) (hb.fx f3 (by decide) (by decide)) (hO.fx f3 (by decide) (by decide)) (hK.fx f3 (by decide) (by decide)) hv' (fr.tr f3)
    exact ⟨M', by rw [show f_X0_decideAll_29 (f_X0_decideAll_4 f) FU (some 220) (nI j0) (nI (t + 1)) (nI ql.length) (sI M 220 12 (0 : Int32)) = _ from a1, show f_X0_decideAll_54 (f_X0_decideAll_4 f) FU (some 220) (nI ql.length) (nI (t + 1)) (nI 0) M2 = _ from c1]; exact z1, z2⟩
/-- the states that were laid are decided -/
theorem x_decideAll {M : Mem} (hn : n ≤ 2000) (hG : Grf O S Q n op tg) (hb : Bs w h L nt τ M) (hO : OpX n op tg M) (hI : PrI n op tg n M) : ∃ M', f_X0_decideAll (some 220) M = some ((), M') ∧ Fx daA daF M M' ∧ FinX O S Q n M' := by
  obtain ⟨p1, p2, p3, p4⟩ := hI
  refine x_da4 hn hG 2000 FU 0 (ovL op n) 0 M (by omega) (by decide) hb hO p1 ⟨fun i hi => ?_, p4, ovL_nd n, fun i => ?_, Nat.zero_le _, fun u hu => ?_, ?_, fun i hi => ⟨0, Nat.le_refl _, (p2 i hi).2.2⟩, Nat.le_refl _⟩ Fx.rf
  · obtain ⟨q1, q2, -⟩ := p2 i hi
    rw [q1, q2, rs_0, ← hG.1 i hi]
    by_cases z : any8 (op i) = false
    · rw [if_pos (show i < n ∧ any8 (op i) = false from ⟨hi, z⟩), if_pos (show i < n ∧ any8 (op i) = false from ⟨hi, z⟩), if_pos z, if_neg (show ¬ (1 : Nat) = 0 by decide)]
      exact ⟨rfl, rfl⟩
    · rw [if_neg (show ¬ (i < n ∧ any8 (op i) = false) from fun y => z y.2), if_neg (show ¬ (i < n ∧ any8 (op i) = false) from fun y => z y.2), if_neg z, if_pos rfl]
      exact ⟨rfl, rfl⟩
  · rw [ovL_mem]
    constructor
    · rintro ⟨a, b⟩; exact ⟨a, by rw [rs_0, ← hG.1 i a, if_pos b]; decide⟩
    · rintro ⟨a, b⟩
      refine ⟨a, ?_⟩
      apply Classical.byContradiction
      intro z
      rw [rs_0, ← hG.1 i a, if_neg z] at b
      exact b rfl
  · constructor <;> (intro z; exact absurd z (by omega))
  · obtain ⟨b1, b2⟩ := LdX.bt.mp p3
    rw [List.take_zero]
    have key : ∀ k i no dn, ldX op tg (fun i => rsS O S 0 (Q i)) [] k i no dn = false := by
      intro k i no dn
      unfold ldX
      simp
    exact LdX.bt.mpr ⟨b1.ext rfl (fun i no dn _ _ _ => key 1 i no dn), b2.ext rfl (fun i no dn _ _ _ => key 2 i no dn)⟩
end LEVEL3
