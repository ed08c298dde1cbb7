/-! ===== the class links the exits ===== -/
def chn (M : Mem) : List Nat → Int32 → Prop
  | [], v => v = m1
  | e :: l, v => v = nI e ∧ chn M l (mI M 226 e)
theorem chn.ext {M M' : Mem} : ∀ (l : List Nat) (v : Int32), (∀ e, e ∈ l → mI M' 226 e = mI M 226 e) → chn M l v → chn M' l v
  | [], _, _, h => h
  | e :: l, v, he, h => by
    refine ⟨h.1, ?_⟩
    rw [he e List.mem_cons_self]
    exact chn.ext l _ (fun q hq => he q (List.mem_cons_of_mem _ hq)) h.2
/-- is a number an exit -/
def vEx (op : Nat → Chi) (e : Nat) : Bool := !(e / 8 % 8 == e % 8) && op (e / 64) (e / 8 % 8) && op (e / 64) (e % 8)
/-- the exits that lead to a state, of those below a number -/
def lkE (op : Nat → Chi) (tg : Nat → Nat) (t : Nat) : Nat → List Nat
  | 0 => []
  | e + 1 => if vEx op e = true ∧ tg e = t then e :: lkE op tg t e else lkE op tg t e
theorem lkE_lt {op : Nat → Chi} {tg : Nat → Nat} {t : Nat} : ∀ E e, e ∈ lkE op tg t E → e < E ∧ vEx op e = true ∧ tg e = t
  | 0, e, h => by cases h
  | E + 1, e, h => by
    unfold lkE at h
    by_cases hc : vEx op E = true ∧ tg E = t
    · rw [if_pos hc] at h
      rcases List.mem_cons.mp h with rfl | h
      · exact ⟨by omega, hc⟩
      · have := lkE_lt E e h; exact ⟨by omega, this.2⟩
    · rw [if_neg hc] at h
      have := lkE_lt E e h; exact ⟨by omega, this.2⟩
theorem lkE_mem {op : Nat → Chi} {tg : Nat → Nat} {t : Nat} : ∀ E e, e < E → vEx op e = true → tg e = t → e ∈ lkE op tg t E
  | 0, e, h, _, _ => absurd h (by omega)
  | E + 1, e, h, h1, h2 => by
    unfold lkE
    by_cases q : e = E
    · subst q; rw [if_pos ⟨h1, h2⟩]; exact List.mem_cons_self
    · have ih := lkE_mem E e (by omega) h1 h2
      split
      · exact List.mem_cons_of_mem _ ih
      · exact ih
section PREP
variable {w h L nt : Nat} {τ : Nat → Txt} {n : Nat} {op : Nat → Chi} {tg : Nat → Nat}
/-- open and exits of all states, as the class has laid them -/
def OpX (n : Nat) (op : Nat → Chi) (tg : Nat → Nat) (M : Mem) : Prop := (∀ i, i < n → mI M 212 i = nI (bS (op i) 8)) ∧ ∀ e, e < 64 * n → vEx op e = true → tg e < n ∧ mI M 213 e = nI (tg e)
def LkX (n : Nat) (op : Nat → Chi) (tg : Nat → Nat) (E : Nat) (M : Mem) : Prop := ∀ t, t < n → chn M (lkE op tg t E) (mI M 225 t)
theorem x_link_l {s : Nat} (hn : n ≤ 2000) (hs : s < n) {M0 : Mem} : ∀ (k f p : Nat) (M : Mem), p + k = 64 → k < f → Bs w h L nt τ M → OpX n op tg M → LkX n op tg (64 * s + p) M → Fx [225, 226] [] M0 M → ∃ M', f_X0_linkExits_12 f (some 220) (nI s) (nI (bS (op s) 8)) (nI p) M = some ((), M') ∧ Fx [225, 226] [] M0 M' ∧ LkX n op tg (64 * s + 64) M'
  | k, 0, p, M => fun _ z => absurd z (by omega)
  | 0, f + 1, p, M => by
    intro hp _ hb hO hK fr
    obtain rfl : p = 64 := by omega
    refine ⟨M, ?_, fr, hK⟩
    rw [u_X0_linkExits_12]
    unfold b_X0_linkExits_12
    rw [if_pos (by decide)]
  | k + 1, f + 1, p, M => by
    intro hp hf hb hO hK fr
    have hl := hb.lay
    have n8 : ∀ {X : Option (Unit × Mem)}, nzI (8 : Int32) X = X := nz_y (y := 8) (by decide)
    have d1 : nI p / (8 : Int32) = nI (p / 8) := pk_div (d := 8) (by omega) (by decide) (by decide)
    have d2 : nI p - nI (p / 8) * (8 : Int32) = nI (p % 8) := nI_remN (d := 8) (by omega) (by decide) (by decide)
    have e64 : (nI s * (64 : Int32)) + nI p = nI (64 * s + p) := by rw [show (64 : Int32) = nI 64 from rfl, pk_mul, nI_add]; congr 1; omega
    have q1 : (64 * s + p) / 64 = s := by omega
    have q2 : (64 * s + p) / 8 % 8 = p / 8 := by omega
    have q3 : (64 * s + p) % 8 = p % 8 := by omega
    have ev : vEx op (64 * s + p) = (!(p / 8 == p % 8) && op s (p / 8) && op s (p % 8)) := by unfold vEx; rw [q1, q2, q3]
    have skip : vEx op (64 * s + p) = false → ∃ M', f_X0_linkExits_12 f (some 220) (nI s) (nI (bS (op s) 8)) (nI (p + 1)) M = some ((), M') ∧ Fx [225, 226] [] M0 M' ∧ LkX n op tg (64 * s + 64) M' := by
      intro hv
      refine x_link_l hn hs k f (p + 1) M (by omega) (by omega) hb hO (fun t ht => ?_) fr
      have := hK t ht
      rw [show 64 * s + (p + 1) = 64 * s + p + 1 by omega]
      unfold lkE
      rw [if_neg (fun z => by rw [hv] at z; cases z.1)]
      exact this
    rw [u_X0_linkExits_12]
    unfold b_X0_linkExits_12
    rw [if_neg (show ¬ (64 : Int32) ≤ nI p from nI_ge (b := 64) (by omega) (by decide)), n8, n8, d1, d2]
    by_cases c0 : p / 8 = p % 8
    · rw [if_pos (by rw [c0]), nI_1]
      exact skip (by rw [ev]; simp [c0])
    · rw [if_neg (nIne (by omega) (by omega) c0)]
      cases c1 : op s (p / 8) with
      | false =>
        rw [if_pos ((bS_in (by decide) (by omega)).mpr c1), nI_1]
        exact skip (by rw [ev, c1]; simp)
      | true =>
        rw [if_neg (fun z => by rw [bS_in (by decide) (by omega), c1] at z; cases z)]
        cases c2 : op s (p % 8) with
        | false =>
          rw [if_pos ((bS_in (by decide) (by omega)).mpr c2), nI_1]
          exact skip (by rw [ev, c2]; simp)
        | true =>
          have hv : vEx op (64 * s + p) = true := by rw [ev, c1, c2]; simp [c0]
          obtain ⟨t1, t2⟩ := hO.2 (64 * s + p) (by omega) hv
          have f1 : Fx [225, 226] [] M (sI M 226 (64 * s + p) (mI M 225 (tg (64 * s + p)))) := Fx.wI (Or.inl (by decide))
          have hb1 := hb.fx f1 (by decide) (by decide)
          have f2 : Fx [225, 226] [] M (sI (sI M 226 (64 * s + p) (mI M 225 (tg (64 * s + p)))) 225 (tg (64 * s + p)) (nI (64 * s + p))) := f1.I (Or.inl (by decide))
          rw [if_neg (fun z => by rw [bS_in (by decide) (by omega), c2] at z; cases z), gR_t (ly_t220 hl), ly_r220_2 hl, gR_t (ly_t211 hl), ly_r211_1 hl, e64, aI_t (ly_t213 hl) (by omega) (by decide), t2, gR_t (ly_t220 hl), ly_r220_7 hl, gR_t (ly_t220 hl), ly_r220_6 hl, aI_t (ly_t225 hl) (by omega) (by decide), wI_t (ly_t226 hl) (by omega) (by decide), gR_t (ly_t220 hb1.lay), ly_r220_6 hb1.lay, wI_t (ly_t225 hb1.lay) (by omega) (by decide), nI_1]
          refine x_link_l hn hs k f (p + 1) _ (by omega) (by omega) (hb.fx f2 (by decide) (by decide)) ⟨fun i hi => by rw [f2.ib (by decide)]; exact hO.1 i hi, fun e he hve => by rw [f2.ib (by decide)]; exact hO.2 e he hve⟩ (fun t ht => ?_) (fr.tr f2)
          have old : chn (sI (sI M 226 (64 * s + p) (mI M 225 (tg (64 * s + p)))) 225 (tg (64 * s + p)) (nI (64 * s + p))) (lkE op tg t (64 * s + p)) (mI M 225 t) := (hK t ht).ext _ _ (fun e he => by
            have := (lkE_lt _ _ he).1
            rw [mI_na (by decide), mI_nk (by omega)])
          rw [show 64 * s + (p + 1) = 64 * s + p + 1 by omega]
          unfold lkE
          by_cases ht' : tg (64 * s + p) = t
          · subst ht'
            rw [if_pos ⟨hv, rfl⟩, mI_e]
            refine ⟨rfl, ?_⟩
            rw [mI_na (show 226 ≠ 225 by decide), mI_e]
            exact old
          · rw [if_neg (fun z => ht' z.2), mI_nk (fun z => ht' z.symm), mI_na (by decide)]
            exact old
theorem x_link {s : Nat} {M : Mem} (hb : Bs w h L nt τ M) (hn : n ≤ 2000) (hs : s < n) (hO : OpX n op tg M) (hK : LkX n op tg (64 * s) M) : ∃ M', f_X0_linkExits (some 220) (nI s) M = some ((), M') ∧ Fx [225, 226] [] M M' ∧ LkX n op tg (64 * s + 64) M' := by
  have hl := hb.lay
  unfold f_X0_linkExits
  rw [gR_t (ly_t220 hl), ly_r220_2 hl, gR_t (ly_t211 hl), ly_r211_0 hl, aI_t (ly_t212 hl) (by omega) (by decide), hO.1 s hs]
  exact x_link_l hn hs 64 FU 0 M (by omega) (by decide) hb hO hK Fx.rf
end PREP
