/-! ===== the class goes back along the exits ===== -/
theorem nd_len {l : List Nat} {n : Nat} (hd : l.Nodup) (hl : ∀ i, i ∈ l → i < n) : l.length ≤ n := by
  refine pigeon n l.length (fun k => l.getD k 0) (fun i hi => hl _ ?_) (fun i j hi hj e => ?_)
  · rw [List.getD_eq_getElem?_getD, List.getElem?_eq_getElem hi]
    exact List.getElem_mem hi
  · simp only [List.getD_eq_getElem?_getD, List.getElem?_eq_getElem hi, List.getElem?_eq_getElem hj, Option.getD_some] at e
    exact (List.getElem_inj hd).mp e
theorem nd_lt {l : List Nat} {n i : Nat} (hd : l.Nodup) (hl : ∀ i, i ∈ l → i < n) (hi : i < n) (hn : i ∉ l) : l.length < n := by
  have := nd_len (l := i :: l) (n := n) (List.nodup_cons.mpr ⟨hn, hd⟩) (fun j hj => by
    rcases List.mem_cons.mp hj with rfl | hj
    · exact hi
    · exact hl j hj)
  rw [List.length_cons] at this
  omega
theorem getD_mid {a b : List Nat} {x : Nat} : (a ++ x :: b).getD a.length 0 = x := by
  rw [List.getD_eq_getElem?_getD, List.getElem?_append_right (Nat.le_refl _)]
  simp
def BtX (n a : Nat) (V : Nat → Nat → Chi) (M : Mem) : Prop := ∀ i no, i < n → no < 8 → mI M a (i * 8 + no) = nI (bS (V i no) 8)
def adV (V : Nat → Nat → Chi) (l : List Nat) : Nat → Nat → Chi := fun i no dn => V i no dn || decide (64 * i + 8 * no + dn ∈ l)
/-- the touched states of a level -/
def TcX (n p : Nat) (tl : List Nat) (M : Mem) : Prop := mI M 220 12 = nI tl.length ∧ (∀ k, k < tl.length → mI M 228 k = nI (tl.getD k 0)) ∧ tl.Nodup ∧ (∀ i, i ∈ tl → i < n) ∧ ∀ i, i < n → ∃ k, k ≤ p ∧ mI M 229 i = nI k ∧ (k = p ↔ i ∈ tl)
theorem TcX.put {n p : Nat} {tl : List Nat} {M : Mem} {i : Nat} (h : TcX n p tl M) (hi : i < n) (hn : i ∉ tl) : TcX n p (tl ++ [i]) (sI (sI (sI M 229 i (nI p)) 228 tl.length (nI i)) 220 12 (nI (tl.length + 1))) := by
  obtain ⟨h1, h2, h3, h4, h5⟩ := h
  refine ⟨by rw [mI_e, List.length_append]; rfl, fun k hk => ?_, ?_, fun j hj => ?_, fun j hj => ?_⟩
  · rw [List.length_append] at hk
    simp only [List.length_singleton] at hk
    rw [mI_na (by decide), getD_app]
    by_cases e : k = tl.length
    · subst e; rw [mI_e, if_neg (by omega), if_pos rfl]
    · rw [mI_nk e, mI_na (by decide), if_pos (by omega)]
      exact h2 k (by omega)
  · rw [List.nodup_append]
    exact ⟨h3, by simp, fun a ha b hb => by
      rw [List.mem_singleton] at hb
      subst hb
      exact fun e => hn (e ▸ ha)⟩
  · rcases List.mem_append.mp hj with q | q
    · exact h4 j q
    · rw [List.mem_singleton] at q; omega
  · rw [mI_na (by decide), mI_na (by decide)]
    by_cases e : j = i
    · subst e
      exact ⟨p, Nat.le_refl _, mI_e, by simp⟩
    · obtain ⟨k, k1, k2, k3⟩ := h5 j hj
      refine ⟨k, k1, by rw [mI_nk e]; exact k2, ?_⟩
      rw [k3]
      simp [e]
theorem lkE_len {op : Nat → Chi} {tg : Nat → Nat} {t : Nat} : ∀ E, (lkE op tg t E).length ≤ E
  | 0 => Nat.le_refl _
  | E + 1 => by
    have := lkE_len (op := op) (tg := tg) (t := t) E
    show (if _ then _ else _ : List Nat).length ≤ E + 1
    split
    · rw [List.length_cons]; omega
    · omega
section TOUCH
variable {w h L nt : Nat} {τ : Nat → Txt} {n p a : Nat} {res : Nat → Nat}
abbrev tcA : List Nat := [223, 224, 228, 229]
abbrev tcF : List (Nat × Nat) := [(220, 12)]
theorem x_touch_l (hn : n ≤ 2000) (hp : p ≤ 2000) (ha : a = 223 ∨ a = 224) (hr2 : ∀ i, i < n → res i ≤ 2) {M0 : Mem} : ∀ (l : List Nat) (f j : Nat) (V : Nat → Nat → Chi) (tl : List Nat) (v : Int32) (M : Mem), l.length < f → j + l.length ≤ 128000 → Bs w h L nt τ M → chn M l v → (∀ e, e ∈ l → e < 64 * n) → BtX n a V M → TcX n p tl M → (∀ i, i < n → mI M 221 i = nI (res i)) → Fx tcA tcF M0 M → mI M (447 - a) = mI M0 (447 - a) → ∃ M' tl', f_X0_touchEntries_33 f (some 220) (nI p) (some a) v (nI j) M = some ((), M') ∧ Fx tcA tcF M0 M' ∧ mI M' (447 - a) = mI M0 (447 - a) ∧ BtX n a (adV V l) M' ∧ TcX n p tl' M' ∧ ∀ i, i ∈ tl' ↔ (i ∈ tl ∨ (res i = 0 ∧ ∃ e, e ∈ l ∧ e / 64 = i))
  | _, 0, j, V, tl, v, M => fun z => absurd z (by omega)
  | [], f + 1, j, V, tl, v, M => by
    intro _ hj hb hc _ hB hT hR fr ho
    have hl := hb.lay
    have hv : v = m1 := hc
    subst hv
    refine ⟨M, tl, ?_, fr, ho, ?_, hT, fun i => by simp⟩
    · rw [u_X0_touchEntries_33]
      unfold b_X0_touchEntries_33
      rw [gR_t (ly_t220 hl), ly_r220_7 hl, aN_t (ly_t226 hl) (by decide) (by decide) (by decide)]
      by_cases q : 128000 ≤ j
      · rw [if_pos (nI_le q (by simp at hj; omega))]
      · rw [if_neg (nI_ge (by omega) (by decide)), if_pos (show m1 = (-1 : Int32) from rfl)]
    · intro i no hi hno
      rw [hB i no hi hno]
      congr 1
      exact bS_ext (fun m _ => by unfold adV; simp)
  | e :: l, f + 1, j, V, tl, v, M => by
    intro hf hj hb hc he hB hT hR fr ho
    have hl := hb.lay
    obtain ⟨hv, hc'⟩ := hc
    subst hv
    rw [List.length_cons] at hf hj
    have he64 := he e List.mem_cons_self
    have hen : e / 64 < n := by omega
    have hx1 : mI M 221 (e / 64) = nI (res (e / 64)) := hR _ hen
    have hta : mT M a = (2, 16000) := by
      rcases ha with rfl | rfl
      · exact ly_t223 hl
      · exact ly_t224 hl
    have d1 : nI e / (64 : Int32) = nI (e / 64) := pk_div (d := 64) (by omega) (by decide) (by decide)
    have d2 : nI e / (8 : Int32) = nI (e / 8) := pk_div (d := 8) (by omega) (by decide) (by decide)
    have d3 : nI (e / 8) - nI (e / 8) / (8 : Int32) * (8 : Int32) = nI (e / 8 % 8) := by
      rw [show nI (e / 8) / (8 : Int32) = nI (e / 8 / 8) from pk_div (d := 8) (by omega) (by decide) (by decide)]
      exact nI_remN (d := 8) (by omega) (by decide) (by decide)
    have d4 : nI e - nI (e / 8) * (8 : Int32) = nI (e % 8) := nI_remN (d := 8) (by omega) (by decide) (by decide)
    have d5 : nI (e / 64) * (8 : Int32) + nI (e / 8 % 8) = nI (e / 64 * 8 + e / 8 % 8) := by rw [show (8 : Int32) = nI 8 from rfl, pk_mul, nI_add]
    have n8 : ∀ {X : Option (Unit × Mem)}, nzI (8 : Int32) X = X := nz_y (y := 8) (by decide)
    have n64 : ∀ {X : Option (Unit × Mem)}, nzI (64 : Int32) X = X := nz_y (y := 64) (by decide)
    have hbit := hB (e / 64) (e / 8 % 8) hen (by omega)
    -- the array with the bit
    have fr1 : Fx tcA tcF M (sI M a (e / 64 * 8 + e / 8 % 8) (nI (bS (fun m => V (e / 64) (e / 8 % 8) m || m == e % 8) 8))) := Fx.wI (Or.inl (by rcases ha with rfl | rfl <;> decide))
    have hB1 : ∀ {M2 : Mem}, mI M2 a = mI (sI M a (e / 64 * 8 + e / 8 % 8) (nI (bS (fun m => V (e / 64) (e / 8 % 8) m || m == e % 8) 8))) a → BtX n a (adV V [e]) M2 := by
      intro M2 h2 i no hi hno
      rw [h2]
      by_cases q : i = e / 64 ∧ no = e / 8 % 8
      · obtain ⟨rfl, rfl⟩ := q
        rw [mI_e]
        congr 1
        refine bS_ext (fun m hm => ?_)
        unfold adV
        congr 1
        rw [Bool.eq_iff_iff]
        simp only [beq_iff_eq, List.mem_singleton, decide_eq_true_eq]
        omega
      · rw [mI_nk (by omega), hB i no hi hno]
        congr 1
        refine bS_ext (fun m hm => ?_)
        unfold adV
        rw [show decide (64 * i + 8 * no + m ∈ [e]) = false by
          simp only [List.mem_singleton, decide_eq_false_iff_not]
          omega]
        simp
    have hn226 : ∀ {M2 : Mem}, Fx tcA tcF M M2 → chn M2 l (mI M2 226 e) := fun {M2} f2 => by
      rw [f2.ib (by decide)]
      exact chn.ext l _ (fun q _ => by rw [f2.ib (by decide)]) hc'
    -- the rest of the chain
    have go : ∀ (tl2 : List Nat) (M2 : Mem), Fx tcA tcF M M2 → mI M2 a = mI (sI M a (e / 64 * 8 + e / 8 % 8) (nI (bS (fun m => V (e / 64) (e / 8 % 8) m || m == e % 8) 8))) a → mI M2 (447 - a) = mI M (447 - a) → TcX n p tl2 M2 → (∀ i, i ∈ tl2 ↔ (i ∈ tl ∨ (res i = 0 ∧ e / 64 = i))) → ∃ M' tl', f_X0_touchEntries_33 f (some 220) (nI p) (some a) (mI M2 226 e) (nI (j + 1)) M2 = some ((), M') ∧ Fx tcA tcF M0 M' ∧ mI M' (447 - a) = mI M0 (447 - a) ∧ BtX n a (adV V (e :: l)) M' ∧ TcX n p tl' M' ∧ ∀ i, i ∈ tl' ↔ (i ∈ tl ∨ (res i = 0 ∧ ∃ e', e' ∈ e :: l ∧ e' / 64 = i)) := by
      intro tl2 M2 f2 h2 h3 hT2 hm
      obtain ⟨M', tl', z1, z2, z3, z4, z5, z6⟩ := x_touch_l hn hp ha hr2 l f (j + 1) (adV V [e]) tl2 _ M2 (by omega) (by omega) (hb.fx f2 (by decide) (by decide)) (hn226 f2) (fun q hq => he q (List.mem_cons_of_mem _ hq)) (hB1 h2) hT2 (fun i hi => by rw [f2.ib (by decide)]; exact hR i hi) (fr.tr f2) (by rw [h3, ho])
      refine ⟨M', tl', z1, z2, z3, fun i no hi hno => ?_, z5, fun i => ?_⟩
      · rw [z4 i no hi hno]
        congr 1
        refine bS_ext (fun m _ => ?_)
        unfold adV
        rw [Bool.or_assoc]
        congr 1
        rw [Bool.eq_iff_iff]
        simp
      · rw [z6, hm]
        constructor
        · rintro ((q | ⟨q, r⟩) | ⟨q, e', q1, q2⟩)
          · exact Or.inl q
          · exact Or.inr ⟨q, e, List.mem_cons_self, r⟩
          · exact Or.inr ⟨q, e', List.mem_cons_of_mem _ q1, q2⟩
        · rintro (q | ⟨q, e', q1, q2⟩)
          · exact Or.inl (Or.inl q)
          · rcases List.mem_cons.mp q1 with rfl | q1
            · exact Or.inl (Or.inr ⟨q, q2⟩)
            · exact Or.inr ⟨q, e', q1, q2⟩
    have hb1 := hb.fx fr1 (by decide) (by decide)
    have hl1 := hb1.lay
    rw [u_X0_touchEntries_33]
    unfold b_X0_touchEntries_33
    rw [gR_t (ly_t220 hl), ly_r220_7 hl, aN_t (ly_t226 hl) (by decide) (by decide) (by decide), if_neg (nI_ge (by omega) (by decide)), if_neg (show ¬ nI e = (-1 : Int32) from fun z => (nI_nm1 (by omega)).mp z), n64, n8, n8, d1, d2, d3, d5, aI_t hta (by omega) (by decide), n8, d4, hbit, bS_addI (by decide) (by omega), wI_t hta (by omega) (by decide), gR_t (ly_t220 hl1), ly_r220_0 hl1, aI_t (ly_t221 hl1) (by omega) (by decide), mI_na (show 221 ≠ a by omega), hx1, nI_1]
    have sT : TcX n p tl (sI M a (e / 64 * 8 + e / 8 % 8) (nI (bS (fun m => V (e / 64) (e / 8 % 8) m || m == e % 8) 8))) := by
      unfold TcX at *
      rw [mI_na (show 220 ≠ a by omega), mI_na (show 228 ≠ a by omega), mI_na (show 229 ≠ a by omega)]
      exact hT
    have so : mI (sI M a (e / 64 * 8 + e / 8 % 8) (nI (bS (fun m => V (e / 64) (e / 8 % 8) m || m == e % 8) 8))) (447 - a) = mI M (447 - a) := mI_na (by omega)
    by_cases hz : res (e / 64) = 0
    · rw [if_pos (by rw [hz]; rfl), gR_t (ly_t220 hl1), ly_r220_10 hl1, aI_t (ly_t229 hl1) (by omega) (by decide)]
      obtain ⟨k, k1, k2, k3⟩ := sT.2.2.2.2 (e / 64) hen
      rw [k2]
      by_cases hk : k = p
      · rw [if_pos (by rw [hk]), gR_t (ly_t220 hl1), ly_r220_7 hl1, aI_t (ly_t226 hl1) (by omega) (by decide)]
        exact go tl _ fr1 rfl so sT (fun i => ⟨Or.inl, fun q => by
          rcases q with q | ⟨q, r⟩
          · exact q
          · subst r; exact k3.mp hk⟩)
      · have hni : e / 64 ∉ tl := fun z => hk (k3.mpr z)
        have hlt := nd_lt sT.2.2.1 sT.2.2.2.1 hen hni
        have f2 : Fx tcA tcF M (sI (sI (sI (sI M a (e / 64 * 8 + e / 8 % 8) (nI (bS (fun m => V (e / 64) (e / 8 % 8) m || m == e % 8) 8))) 229 (e / 64) (nI p)) 228 tl.length (nI (e / 64))) 220 12 (nI (tl.length + 1))) := ((fr1.I (Or.inl (by decide))).I (Or.inl (by decide))).I (Or.inr (by decide))
        have hb2 := hb.fx (fr1.I (a := 229) (k := e / 64) (v := nI p) (Or.inl (by decide))) (by decide) (by decide)
        have hb3 := hb.fx ((fr1.I (a := 229) (k := e / 64) (v := nI p) (Or.inl (by decide))).I (a := 228) (k := tl.length) (v := nI (e / 64)) (Or.inl (by decide))) (by decide) (by decide)
        have hb4 := hb.fx f2 (by decide) (by decide)
        rw [if_neg (nIne (by omega) (by omega) hk), gI_t (ly_t220 hl1), sT.1, gR_t (ly_t220 hl1), ly_r220_9 hl1, aN_t (ly_t228 hl1) (by decide) (by decide) (by decide), if_neg (nI_ge (by omega) (by omega)), gR_t (ly_t220 hl1), ly_r220_10 hl1, wI_t (ly_t229 hl1) (by omega) (by decide), gR_t (ly_t220 hb2.lay), ly_r220_9 hb2.lay, gI_t (ly_t220 hb2.lay), mI_na (show 220 ≠ 229 by decide), sT.1, wI_t (ly_t228 hb2.lay) (by omega) (by decide), gI_t (ly_t220 hb3.lay), mI_na (show 220 ≠ 228 by decide), mI_na (show 220 ≠ 229 by decide), sT.1, nI_1, pI_t (ly_t220 hb3.lay), gR_t (ly_t220 hb4.lay), ly_r220_7 hb4.lay, aI_t (ly_t226 hb4.lay) (by omega) (by decide)]
        refine go (tl ++ [e / 64]) _ f2 ?_ ?_ (sT.put hen hni) (fun i => ?_)
        · rw [mI_na (by omega), mI_na (by omega), mI_na (by omega)]
        · rw [mI_na (by omega), mI_na (by omega), mI_na (by omega)]; exact so
        · rw [List.mem_append, List.mem_singleton]
          constructor
          · rintro (q | q)
            · exact Or.inl q
            · subst q; exact Or.inr ⟨hz, rfl⟩
          · rintro (q | ⟨q, r⟩)
            · exact Or.inl q
            · exact Or.inr r.symm
    · rw [if_neg (fun z => hz (by have := (nI_eq (a := res (e / 64)) (b := 0) (by have := hr2 _ hen; omega) (by omega)).mp z; exact this)), gR_t (ly_t220 hl1), ly_r220_7 hl1, aI_t (ly_t226 hl1) (by omega) (by decide)]
      exact go tl _ fr1 rfl so sT (fun i => ⟨Or.inl, fun q => by
          rcases q with q | ⟨q, r⟩
          · exact q
          · subst r; exact absurd q hz⟩)
end TOUCH
