/-! ===== the reference reads what a move does ===== -/
def rm_d (i1 : Int32) (M8 : Mem) : Option (Unit × Mem) :=
  gI M8 (some 230) 12 23 fun v7 =>
  (if v7 ≤ 0 then
  cR M8 (some 230) (1, 12) (cA (f_X12_isSign (some 230) (59 : Int32) M8) fun v8 M9 =>
  (if v8 = 0 then
  cR M9 (some 230) (1, 12) (cA (f_X12_isWord (some 230) (10 : Int32) M9) fun v9 M10 =>
  cR M10 (some 230) (1, 12) (cA (f_X12_wants (some 230) v9 M10) fun _ M11 =>
  cR M11 (some 230) (1, 12) (cA (f_X12_opensFrame (some 230) (2 : Int32) M11) fun _ M12 =>
  pI M12 (some 230) 12 32 (0 : Int32) fun M13 =>
  some ((), M13))))
  else
  gR M9 (some 230) 12 36 fun v10 =>
  gI M9 (some 230) 12 33 fun v11 =>
  wI M9 v10 2 v11 (-1 : Int32) fun M14 =>
  cR M14 (some 230) (1, 12) (cA (f_X12_clauseIsOver (some 230) M14) fun _ M15 =>
  some ((), M15))))
  else
  some ((), M8))
def rm_c (i1 : Int32) (M6 : Mem) : Option (Unit × Mem) :=
  gR M6 (some 230) 12 37 fun v5 =>
  cR M6 (some 230) (1, 12) (cA (f_X12_number (some 230) (0 : Int32) (3 : Int32) M6) fun v6 M7 =>
  wI M7 v5 2 (i1 + (3 : Int32)) v6 fun M8 => rm_d i1 M8)
def rm_b (i1 : Int32) (M4 : Mem) : Option (Unit × Mem) :=
  cR M4 (some 230) (1, 12) (cA (f_X12_isSign (some 230) (44 : Int32) M4) fun v4 M5 =>
  cR M5 (some 230) (1, 12) (cA (f_X12_wants (some 230) v4 M5) fun _ M6 => rm_c i1 M6))
def rm_a (i1 : Int32) (M2 : Mem) : Option (Unit × Mem) :=
  gR M2 (some 230) 12 37 fun v2 =>
  cR M2 (some 230) (1, 12) (cA (f_X12_number (some 230) (0 : Int32) (3 : Int32) M2) fun v3 M3 =>
  wI M3 v2 2 (i1 + (2 : Int32)) v3 fun M4 => rm_b i1 M4)
theorem rm_56 {i1 i2 si : Int32} {M : Mem} : f_X12_readsMove_56 (some 230) i1 i2 (some 230) si M = cR M (some 230) (1, 12) (cA (f_X12_wants (some 230) si M) fun _ M1 => gR M1 (some 230) 12 37 fun v1 => wI M1 v1 2 (i1 + (1 : Int32)) i2 fun M2 => rm_a i1 M2) := rfl
section YREADS
variable {pl L : Nat} {tp : Nat → Nat} {ln a n : Nat} {O : List (Nat × Nat)} {M : Mem}
theorem fx249 {k : Nat} {v : Int32} : Fx [247, 248, 249] [(230, 33), (230, 34)] M (sI M 249 k v) := Fx.wI (Or.inl (by decide))
theorem Fx.kn {M M' : Mem} (h : Fx [247, 248, 249] [(230, 33), (230, 34)] M M') : Fx zA2 zF2 M M' := h.mono (by simp) (by simp)
/-- a fault stays a fault -/
def FlR (pl L k p : Nat) (tp : Nat → Nat) (ln : Nat) (M : Mem) (o : Option (Unit × Mem)) : Prop := ∃ M', o = some ((), M') ∧ Fx zA2 zF2 M M' ∧ FlM pl L k p tp ln M'
theorem rm_d_f {k p : Nat} {i : Int32} (h : FlM pl L k p tp ln M) : FlR pl L k p tp ln M (rm_d i M) := by
  refine ⟨M, ?_, Fx.rf, h⟩
  unfold rm_d
  rw [gI_t (ly_t230 h.1), h.2.2.1, if_neg h.pos.2.2]
theorem FlR.pre {k p : Nat} {M1 : Mem} {o o' : Option (Unit × Mem)} (h : FlR pl L k p tp ln M1 o) (fr : Fx zA2 zF2 M M1) (e : o' = o) : FlR pl L k p tp ln M o' := by
  subst e
  obtain ⟨M', a, b, c⟩ := h
  exact ⟨M', a, fr.tr b, c⟩
theorem rm_c_f {k p i : Nat} (h : FlM pl L k p tp ln M) (hi : i + 3 < 80) : FlR pl L k p tp ln M (rm_c (nI i) M) := by
  have f1 : Fx [247, 248, 249] [(230, 33), (230, 34)] M (sI M 249 (i + 3) (0 : Int32)) := fx249
  refine (rm_d_f (i := nI i) (h.nw f1)).pre f1.kn ?_
  unfold rm_c
  rw [gR_t (ly_t230 h.1), ly_r230_37 h.1, cR_t (ly_t230 h.1), y_num_f h, cA_s, show (3 : Int32) = nI 3 from rfl, nI_add, wI_t (ly_t249 h.1) hi (by decide)]
theorem rm_b_f {k p i : Nat} (h : FlM pl L k p tp ln M) (hi : i + 3 < 80) : FlR pl L k p tp ln M (rm_b (nI i) M) := by
  obtain ⟨x, hx⟩ := y_isSign_f (v := (44 : Int32)) h.1
  refine (rm_c_f h hi).pre Fx.rf ?_
  unfold rm_b
  rw [cR_t (ly_t230 h.1), hx, cA_s, cR_t (ly_t230 h.1), y_wants_f h, cA_s]
theorem rm_a_f {k p i : Nat} (h : FlM pl L k p tp ln M) (hi : i + 3 < 80) : FlR pl L k p tp ln M (rm_a (nI i) M) := by
  have f1 : Fx [247, 248, 249] [(230, 33), (230, 34)] M (sI M 249 (i + 2) (0 : Int32)) := fx249
  refine (rm_b_f (h.nw f1) hi).pre f1.kn ?_
  unfold rm_a
  rw [gR_t (ly_t230 h.1), ly_r230_37 h.1, cR_t (ly_t230 h.1), show (3 : Int32) = nI 3 from rfl, y_num_f h, cA_s, show (2 : Int32) = nI 2 from rfl, nI_add, wI_t (ly_t249 h.1) (by omega) (by decide)]
theorem rm_56_f {k p i : Nat} {i2 si : Int32} (h : FlM pl L k p tp ln M) (hi : i + 3 < 80) : FlR pl L k p tp ln M (f_X12_readsMove_56 (some 230) (nI i) i2 (some 230) si M) := by
  have f1 : Fx [247, 248, 249] [(230, 33), (230, 34)] M (sI M 249 (i + 1) i2) := fx249
  refine (rm_a_f (h.nw f1) hi).pre f1.kn ?_
  rw [rm_56, cR_t (ly_t230 h.1), y_wants_f h, cA_s, gR_t (ly_t230 h.1), ly_r230_37 h.1, show (1 : Int32) = nI 1 from rfl, nI_add, wI_t (ly_t249 h.1) (by omega) (by decide)]
/-- what is kept of the clauses told before -/
def Kep (n : Nat) (M M' : Mem) : Prop := mI M' 247 = mI M 247 ∧ (∀ k, k ≠ n → mI M' 248 k = mI M 248 k) ∧ ∀ k, k < 4 * n → mI M' 249 k = mI M 249 k
theorem Kep.rf : Kep n M M := ⟨rfl, fun _ _ => rfl, fun _ _ => rfl⟩
theorem Kep.tr {M1 M2 : Mem} (h : Kep n M M1) (h' : Kep n M1 M2) : Kep n M M2 := ⟨h'.1.trans h.1, fun k hk => (h'.2.1 k hk).trans (h.2.1 k hk), fun k hk => (h'.2.2 k hk).trans (h.2.2 k hk)⟩
theorem Kep.z {M1 : Mem} (h : Fx zA zF M M1) : Kep n M M1 := ⟨h.ib (by decide), fun k _ => by rw [h.ib (by decide)], fun k _ => by rw [h.ib (by decide)]⟩
theorem Kep.w {k : Nat} {v : Int32} (hk : 4 * n ≤ k) : Kep n M (sI M 249 k v) := ⟨by rw [mI_na (by decide)], fun _ _ => by rw [mI_na (by decide)], fun j hj => by rw [mI_nk (by omega)]⟩
/-- what a reading of a move comes to -/
def RmR (pl L : Nat) (tp : Nat → Nat) (ln n : Nat) (O : List (Nat × Nat)) (G : Nat × Nat × Nat × Nat × Nat → Mem → Prop) (M : Mem) (o : Option (Unit × Mem)) (res : (Nat × Nat) ⊕ (Nat × Nat × Nat × Nat × Nat)) : Prop := match res with
  | .inl e => FlR pl L e.1 (tSt tp ln e.2) tp ln M o
  | .inr x => if tTk tp ln x.1 = 34 then ∃ M', o = some ((), M') ∧ Fx zA2 zF2 M M' ∧ CfM pl L tp ln 4 (tNx tp ln x.1) 0 [] [] (O ++ [(408, 0)]) M' ∧ mI M' 230 33 = nI (n + 1) ∧ Kep n M M' ∧ mI M' 248 n = m1 ∧ G x M'
    else if tTk tp ln x.1 = 11 then ∃ M', o = some ((), M') ∧ Fx zA2 zF2 M M' ∧ CfM pl L tp ln 0 (tNx tp ln x.1) 0 [(2, 0)] [] O M' ∧ mI M' 230 33 = nI n ∧ Kep n M M' ∧ mI M' 248 n = mI M 248 n ∧ G x M'
    else FlR pl L 1 (tSt tp ln x.1) tp ln M o
def GA (n : Nat) (x : Nat × Nat × Nat × Nat × Nat) (M' : Mem) : Prop := mI M' 249 (4 * n) = nI x.2.1 ∧ mI M' 249 (4 * n + 1) = nI (x.2.2.1 - 7) ∧ mI M' 249 (4 * n + 2) = nI x.2.2.2.1 ∧ mI M' 249 (4 * n + 3) = nI x.2.2.2.2
theorem RmR.pre {G : Nat × Nat × Nat × Nat × Nat → Mem → Prop} {M1 : Mem} {o o' : Option (Unit × Mem)} {res : (Nat × Nat) ⊕ (Nat × Nat × Nat × Nat × Nat)} (h : RmR pl L tp ln n O G M1 o res) (fr : Fx zA2 zF2 M M1) (kp : Kep n M M1) (k8 : mI M1 248 n = mI M 248 n) (e : o' = o) : RmR pl L tp ln n O G M o' res := by
  subst e
  cases res with
  | inl q => exact FlR.pre h fr rfl
  | inr x =>
    unfold RmR at h ⊢
    dsimp only at h ⊢
    by_cases e1 : tTk tp ln x.1 = 34
    · rw [if_pos e1] at h ⊢
      obtain ⟨M', a1, a2, a3, a4, a5, a6, a7⟩ := h
      exact ⟨M', a1, fr.tr a2, a3, a4, kp.tr a5, a6, a7⟩
    · rw [if_neg e1] at h ⊢
      by_cases e2 : tTk tp ln x.1 = 11
      · rw [if_pos e2] at h ⊢
        obtain ⟨M', a1, a2, a3, a4, a5, a6, a7⟩ := h
        exact ⟨M', a1, fr.tr a2, a3, a4, kp.tr a5, a6.trans k8, a7⟩
      · rw [if_neg e2] at h ⊢
        exact FlR.pre h fr rfl
theorem y_wants_n2 {st op : Nat} {F W : List (Nat × Nat)} (h : CfM pl L tp ln st a op F W O M) : ∃ M', f_X12_wants (some 230) (0 : Int32) M = some ((), M') ∧ Fx [] [(230, 23), (230, 24)] M M' ∧ FlM pl L 1 (tSt tp ln a) tp ln M' := by
  obtain ⟨h1, h2, h3, h4, -⟩ := h
  have f1 : Fx [] [(230, 23), (230, 24)] M (sI M 230 23 (nI 1)) := Fx.wI (Or.inr (by decide))
  have f2 : Fx [] [(230, 23), (230, 24)] M (sI (sI M 230 23 (nI 1)) 230 24 (nI (tSt tp ln a))) := f1.I (Or.inr (by decide))
  have hl1 := h1.fx f1 (by decide) (by decide)
  have hl2 := h1.fx f2 (by decide) (by decide)
  refine ⟨_, ?_, f2, hl2, h2.fx f2 (by decide) (by decide), by rw [mI_nk (by decide), mI_e], mI_e, by decide, by decide⟩
  unfold f_X12_wants f_X12_errs
  rw [gI_t (ly_t230 h1), h4.1, if_pos (show nI 0 = (0 : Int32) from rfl), if_pos rfl, cR_t (ly_t230 h1), gI_t (ly_t230 h1), h4.1, if_pos (show nI 0 = (0 : Int32) from rfl), show (1 : Int32) = nI 1 from rfl, pI_t (ly_t230 h1), gI_t (ly_t230 hl1), mI_nk (by decide), h3.2.1, pI_t (ly_t230 hl1), cA_s, gI_t (ly_t230 hl2), mI_nk (by decide), mI_e, if_neg (show ¬ nI 1 = (0 : Int32) by decide)]
theorem rm_d_g {G : Nat × Nat × Nat × Nat × Nat → Mem → Prop} {x : Nat × Nat × Nat × Nat × Nat} {i : Int32} (h : CfM pl L tp ln 4 x.1 0 [] [] O M) (hn : mI M 230 33 = nI n) (hn20 : n < 20) (ha : x.1 ≤ ln) (hO : O.length < 390) (hG : ∀ M', mI M' 249 = mI M 249 → G x M') : RmR pl L tp ln n O G M (rm_d i M) (.inr x) := by
  have hs := y_isSign h (t := 34) (by decide) (by decide)
  unfold RmR rm_d
  dsimp only
  rw [gI_t (ly_t230 h.1), h.2.2.2.1.1, if_pos (show nI 0 ≤ (0 : Int32) by decide), cR_t (ly_t230 h.1), show f_X12_isSign (some 230) (59 : Int32) M = _ from hs, cA_s]
  by_cases e : tTk tp ln x.1 = 34
  · rw [if_pos e, decide_eq_true e, if_neg (by decide)]
    have f1 : Fx [247, 248, 249] [(230, 33), (230, 34)] M (sI M 248 n (-1 : Int32)) := Fx.wI (Or.inl (by decide))
    have c1 := h.nw f1
    obtain ⟨M2, b1, b2, b3, b4, b5, b6, b7⟩ := y_over (n := n) c1 (by rw [mI_na (by decide)]; exact hn) (fun x hx => by cases hx) (by simp) (by simp) (by simp; omega) ha
    refine ⟨M2, ?_, f1.kn.tr b2, b3, b4, ⟨by rw [b5, mI_na (by decide)], fun k hk => by rw [b6, mI_nk hk], fun k _ => by rw [b7, mI_na (by decide)]⟩, by rw [b6, mI_e]; rfl, hG M2 (by rw [b7, mI_na (by decide)])⟩
    rw [gR_t (ly_t230 h.1), ly_r230_36 h.1, gI_t (ly_t230 h.1), hn, wI_t (ly_t248 h.1) hn20 (by decide), cR_t (ly_t230 c1.1), b1, cA_s]
  · rw [if_neg e, decide_eq_false e, if_pos (show nI false.toNat = (0 : Int32) by decide), cR_t (ly_t230 h.1), show f_X12_isWord (some 230) (10 : Int32) M = _ from y_isWord h (t := 11) (by decide), cA_s, cR_t (ly_t230 h.1)]
    by_cases e1 : tTk tp ln x.1 = 11
    · rw [if_pos e1, decide_eq_true e1]
      obtain ⟨M1, b1, b2, b3⟩ := y_wants_y h ha
      obtain ⟨M2, d1, d2, d3⟩ := y_push (k := 2) b3 (by simp) (by decide)
      have f3 : Fx zA zF M2 (sI M2 230 32 (nI 0)) := Fx.wI (Or.inr (by decide))
      have fz := (b2.tr d2).tr f3
      refine ⟨sI M2 230 32 (nI 0), ?_, fz.zn, d3.chS 0, by rw [fz.i (by decide) (by decide)]; exact hn, Kep.z fz, by rw [fz.ib (by decide)], hG _ (by rw [fz.ib (by decide)])⟩
      rw [show f_X12_wants (some 230) (nI true.toNat) M = _ from b1, cA_s, cR_t (ly_t230 b3.1), show f_X12_opensFrame (some 230) (2 : Int32) M1 = _ from d1, cA_s, pI_t (ly_t230 d3.1)]
      rfl
    · rw [if_neg e1, decide_eq_false e1]
      obtain ⟨M1, b1, b2, b3⟩ := y_wants_n2 h
      have h26 : mI M1 230 26 = nI 0 := by rw [b2.i (by decide) (by decide)]; exact h.2.2.2.2.2.2.1.1
      have f2 : Fx [243] [(230, 26)] M1 (sI (sI M1 243 0 (nI 2)) 230 26 (nI 1)) := (Fx.wI (Or.inl (by decide))).I (Or.inr (by decide))
      have f1 : Fx [243] [(230, 26)] M1 (sI M1 243 0 (nI 2)) := Fx.wI (Or.inl (by decide))
      have f3 : Fx [243] [(230, 26), (230, 32)] M1 (sI (sI (sI M1 243 0 (nI 2)) 230 26 (nI 1)) 230 32 (nI 0)) := (f2.mono (by simp) (by simp)).I (Or.inr (by decide))
      have hl1 := b3.1.fx f1 (by decide) (by decide)
      have hl2 := b3.1.fx f2 (by decide) (by decide)
      refine ⟨sI (sI (sI M1 243 0 (nI 2)) 230 26 (nI 1)) 230 32 (nI 0), ?_, (b2.mono (by simp) (by simp)).tr (f3.mono (by simp) (by simp)), b3.1.fx f3 (by decide) (by decide), b3.2.1.fx f3 (by decide) (by decide), by rw [f3.i (by decide) (by decide)]; exact b3.2.2.1, by rw [f3.i (by decide) (by decide)]; exact b3.2.2.2.1, b3.2.2.2.2⟩
      rw [show f_X12_wants (some 230) (nI false.toNat) M = _ from b1, cA_s, cR_t (ly_t230 b3.1)]
      unfold f_X12_opensFrame
      rw [gR_t (ly_t230 b3.1), ly_r230_27 b3.1, gI_t (ly_t230 b3.1), h26, show (2 : Int32) = nI 2 from rfl, wI_t (ly_t243 b3.1) (by decide) (by decide), gI_t (ly_t230 hl1), mI_na (by decide), h26, nI_1, pI_t (ly_t230 hl1), cA_s, pI_t (ly_t230 hl2)]
      rfl
theorem rm_c_g {s p w k : Nat} (h : CfM pl L tp ln 4 s 0 [] [] O M) (hn : mI M 230 33 = nI n) (hn20 : n < 20) (ha : s ≤ ln) (hO : O.length < 390) (q0 : mI M 249 (4 * n) = nI p) (q1 : mI M 249 (4 * n + 1) = nI (w - 7)) (q2 : mI M 249 (4 * n + 2) = nI k) : RmR pl L tp ln n O (GA n) M (rm_c (nI (4 * n)) M) (bnG (pNum tp ln 3 s) (fun z => .inr (z.1, p, w, k, z.2))) := by
  have hnum := y_num (hi := 3) (by decide) h ha
  have e3 : nI (4 * n) + (3 : Int32) = nI (4 * n + 3) := by rw [show (3 : Int32) = nI 3 from rfl, nI_add]
  cases hp : pNum tp ln 3 s with
  | inl e =>
    rw [hp] at hnum
    obtain ⟨M1, b1, b2, b3⟩ := hnum
    have f1 : Fx [247, 248, 249] [(230, 33), (230, 34)] M1 (sI M1 249 (4 * n + 3) (0 : Int32)) := fx249
    refine (rm_d_f (i := nI (4 * n)) (b3.nw f1)).pre (b2.zn.tr f1.kn) ?_
    unfold rm_c
    rw [gR_t (ly_t230 h.1), ly_r230_37 h.1, cR_t (ly_t230 h.1), show f_X12_number (some 230) (0 : Int32) (3 : Int32) M = _ from b1, cA_s, e3, wI_t (ly_t249 b3.1) (by omega) (by decide)]
  | inr z =>
    rw [hp] at hnum
    obtain ⟨M1, b1, b2, b3⟩ := hnum
    obtain ⟨-, -, -, -, zl⟩ := pNum_ok ha hp
    have hz : z.1 ≤ ln := by obtain ⟨-, rfl, -, -, zl⟩ := pNum_ok ha hp; exact zl
    have f1 : Fx [247, 248, 249] [(230, 33), (230, 34)] M1 (sI M1 249 (4 * n + 3) (nI z.2)) := fx249
    have c1 := b3.nw f1
    have hd := rm_d_g (G := GA n) (x := (z.1, p, w, k, z.2)) (i := nI (4 * n)) c1 (by rw [mI_na (by decide), b2.i (by decide) (by decide)]; exact hn) hn20 hz hO (fun M' hM => ⟨by rw [hM, mI_nk (by omega), b2.ib (by decide)]; exact q0, by rw [hM, mI_nk (by omega), b2.ib (by decide)]; exact q1, by rw [hM, mI_nk (by omega), b2.ib (by decide)]; exact q2, by rw [hM, mI_e]⟩)
    refine hd.pre (b2.zn.tr f1.kn) ((Kep.z b2).tr (Kep.w (by omega))) (by rw [mI_na (by decide), b2.ib (by decide)]) ?_
    unfold rm_c
    rw [gR_t (ly_t230 h.1), ly_r230_37 h.1, cR_t (ly_t230 h.1), show f_X12_number (some 230) (0 : Int32) (3 : Int32) M = _ from b1, cA_s, e3, wI_t (ly_t249 b3.1) (by omega) (by decide)]
theorem rm_b_g {s p w k : Nat} (h : CfM pl L tp ln 4 s 0 [] [] O M) (hn : mI M 230 33 = nI n) (hn20 : n < 20) (ha : s ≤ ln) (hO : O.length < 390) (q0 : mI M 249 (4 * n) = nI p) (q1 : mI M 249 (4 * n + 1) = nI (w - 7)) (q2 : mI M 249 (4 * n + 2) = nI k) : RmR pl L tp ln n O (GA n) M (rm_b (nI (4 * n)) M) (bnG (pWd tp ln 33 33 s) (fun u => bnG (pNum tp ln 3 u.1) (fun z => .inr (z.1, p, w, k, z.2)))) := by
  have hs := y_isSign h (t := 33) (by decide) (by decide)
  unfold pWd
  by_cases e : tTk tp ln s = 33
  · rw [if_pos (by omega)]
    rw [decide_eq_true e] at hs
    obtain ⟨M1, b1, b2, b3⟩ := y_wants_y h ha
    refine (rm_c_g (p := p) (w := w) (k := k) b3 (by rw [b2.i (by decide) (by decide)]; exact hn) hn20 (tNx_b ha).1 hO (by rw [b2.ib (by decide)]; exact q0) (by rw [b2.ib (by decide)]; exact q1) (by rw [b2.ib (by decide)]; exact q2)).pre b2.zn (Kep.z b2) (by rw [b2.ib (by decide)]) ?_
    unfold rm_b
    rw [cR_t (ly_t230 h.1), show f_X12_isSign (some 230) (44 : Int32) M = _ from hs, cA_s, cR_t (ly_t230 h.1), show f_X12_wants (some 230) (nI true.toNat) M = _ from b1, cA_s]
  · rw [if_neg (by omega)]
    rw [decide_eq_false e] at hs
    obtain ⟨M1, b1, b2, b3⟩ := y_wants_n h
    refine (rm_c_f (i := 4 * n) b3 (by omega)).pre b2.zn ?_
    unfold rm_b
    rw [cR_t (ly_t230 h.1), show f_X12_isSign (some 230) (44 : Int32) M = _ from hs, cA_s, cR_t (ly_t230 h.1), show f_X12_wants (some 230) (nI false.toNat) M = _ from b1, cA_s]
theorem rm_a_g {s p w : Nat} (h : CfM pl L tp ln 4 s 0 [] [] O M) (hn : mI M 230 33 = nI n) (hn20 : n < 20) (ha : s ≤ ln) (hO : O.length < 390) (q0 : mI M 249 (4 * n) = nI p) (q1 : mI M 249 (4 * n + 1) = nI (w - 7)) : RmR pl L tp ln n O (GA n) M (rm_a (nI (4 * n)) M) (bnG (pNum tp ln 3 s) (fun k => bnG (pWd tp ln 33 33 k.1) (fun u => bnG (pNum tp ln 3 u.1) (fun z => .inr (z.1, p, w, k.2, z.2))))) := by
  have hnum := y_num (hi := 3) (by decide) h ha
  have e3 : nI (4 * n) + (2 : Int32) = nI (4 * n + 2) := by rw [show (2 : Int32) = nI 2 from rfl, nI_add]
  cases hp : pNum tp ln 3 s with
  | inl e =>
    rw [hp] at hnum
    obtain ⟨M1, b1, b2, b3⟩ := hnum
    have f1 : Fx [247, 248, 249] [(230, 33), (230, 34)] M1 (sI M1 249 (4 * n + 2) (0 : Int32)) := fx249
    refine (rm_b_f (i := 4 * n) (b3.nw f1) (by omega)).pre (b2.zn.tr f1.kn) ?_
    unfold rm_a
    rw [gR_t (ly_t230 h.1), ly_r230_37 h.1, cR_t (ly_t230 h.1), show f_X12_number (some 230) (0 : Int32) (3 : Int32) M = _ from b1, cA_s, e3, wI_t (ly_t249 b3.1) (by omega) (by decide)]
  | inr z =>
    rw [hp] at hnum
    obtain ⟨M1, b1, b2, b3⟩ := hnum
    have hz : z.1 ≤ ln := by obtain ⟨-, rfl, -, -, zl⟩ := pNum_ok ha hp; exact zl
    have f1 : Fx [247, 248, 249] [(230, 33), (230, 34)] M1 (sI M1 249 (4 * n + 2) (nI z.2)) := fx249
    have c1 := b3.nw f1
    refine (rm_b_g (p := p) (w := w) (k := z.2) c1 (by rw [mI_na (by decide), b2.i (by decide) (by decide)]; exact hn) hn20 hz hO (by rw [mI_nk (by omega), b2.ib (by decide)]; exact q0) (by rw [mI_nk (by omega), b2.ib (by decide)]; exact q1) mI_e).pre (b2.zn.tr f1.kn) ((Kep.z b2).tr (Kep.w (by omega))) (by rw [mI_na (by decide), b2.ib (by decide)]) ?_
    unfold rm_a
    rw [gR_t (ly_t230 h.1), ly_r230_37 h.1, cR_t (ly_t230 h.1), show f_X12_number (some 230) (0 : Int32) (3 : Int32) M = _ from b1, cA_s, e3, wI_t (ly_t249 b3.1) (by omega) (by decide)]
theorem rw_ac : ∀ t, t < 20 → ((6 ≤ rwT t ∧ rwT t ≤ 9) ↔ (7 ≤ t ∧ t ≤ 10)) ∧ (7 ≤ t → t ≤ 10 → rwT t - 6 = t - 7) := by decide +kernel
theorem y_reads (h : CfM pl L tp ln 4 a 0 [] [] O M) (hn : mI M 230 33 = nI n) (hn20 : n < 20) (ha : a ≤ ln) (hO : O.length < 390) : RmR pl L tp ln n O (GA n) M (f_X12_readsMove (some 230) M) (pAct tp ln a) := by
  have hnum := y_num (hi := 7) (by decide) h ha
  have e4 : (4 : Int32) * nI n = nI (4 * n) := by rw [show (4 : Int32) = nI 4 from rfl, pk_mul]
  unfold pAct
  cases hp : pNum tp ln 7 a with
  | inl e =>
    rw [hp] at hnum
    obtain ⟨M1, b1, b2, b3⟩ := hnum
    have f1 : Fx [247, 248, 249] [(230, 33), (230, 34)] M1 (sI M1 249 (4 * n) (0 : Int32)) := fx249
    have c1 := b3.nw f1
    have hx : ∃ i2 si, f_X12_readsMove (some 230) M = f_X12_readsMove_56 (some 230) (nI (4 * n)) i2 (some 230) si (sI M1 249 (4 * n) (0 : Int32)) := by
      unfold f_X12_readsMove
      rw [gI_t (ly_t230 h.1), hn, gR_t (ly_t230 h.1), ly_r230_37 h.1, cR_t (ly_t230 h.1), show f_X12_number (some 230) (0 : Int32) (7 : Int32) M = _ from b1, cA_s, e4, wI_t (ly_t249 b3.1) (by omega) (by decide), gI_t (ly_t230 c1.1), gI_t (ly_t230 c1.1)]
      by_cases z : mI (sI M1 249 (4 * n) (0 : Int32)) 230 21 = (1 : Int32)
      · rw [if_pos z, gI_t (ly_t230 c1.1)]
        by_cases z1 : mI (sI M1 249 (4 * n) (0 : Int32)) 230 22 < (6 : Int32)
        · rw [in_lo z1, cA_s, if_pos (show nI 0 = (0 : Int32) from rfl)]; exact ⟨_, _, rfl⟩
        · by_cases z2 : (9 : Int32) < mI (sI M1 249 (4 * n) (0 : Int32)) 230 22
          · rw [in_hi z2, cA_s, if_pos (show nI 0 = (0 : Int32) from rfl)]; exact ⟨_, _, rfl⟩
          · rw [in_ok z1 z2, cA_s, if_neg (by decide)]; exact ⟨_, _, rfl⟩
      · rw [if_neg z]; exact ⟨_, _, rfl⟩
    obtain ⟨i2, si, hx⟩ := hx
    exact (rm_56_f (i2 := i2) (si := si) c1 (by omega)).pre (b2.zn.tr f1.kn) hx
  | inr z =>
    rw [hp] at hnum
    obtain ⟨M1, b1, b2, b3⟩ := hnum
    have hz : z.1 ≤ ln := by obtain ⟨-, rfl, -, -, zl⟩ := pNum_ok ha hp; exact zl
    have f1 : Fx [247, 248, 249] [(230, 33), (230, 34)] M1 (sI M1 249 (4 * n) (nI z.2)) := fx249
    have c1 := b3.nw f1
    have hn1 : mI (sI M1 249 (4 * n) (nI z.2)) 230 33 = nI n := by rw [mI_na (by decide), b2.i (by decide) (by decide)]; exact hn
    have start : f_X12_readsMove (some 230) M = (if nI (srt (tTk tp ln z.1)) = (1 : Int32) then gI (sI M1 249 (4 * n) (nI z.2)) (some 230) 12 22 fun v6 => cA (f_X12_in v6 (6 : Int32) (9 : Int32) (sI M1 249 (4 * n) (nI z.2))) fun v7 M3 => (if v7 = 0 then f_X12_readsMove_56 (some 230) (nI (4 * n)) (mI (sI M1 249 (4 * n) (nI z.2)) 230 22 - (6 : Int32)) (some 230) (0 : Int32) M3 else f_X12_readsMove_56 (some 230) (nI (4 * n)) (mI (sI M1 249 (4 * n) (nI z.2)) 230 22 - (6 : Int32)) (some 230) (1 : Int32) M3) else f_X12_readsMove_56 (some 230) (nI (4 * n)) (mI (sI M1 249 (4 * n) (nI z.2)) 230 22 - (6 : Int32)) (some 230) (0 : Int32) (sI M1 249 (4 * n) (nI z.2))) := by
      unfold f_X12_readsMove
      rw [gI_t (ly_t230 h.1), hn, gR_t (ly_t230 h.1), ly_r230_37 h.1, cR_t (ly_t230 h.1), show f_X12_number (some 230) (0 : Int32) (7 : Int32) M = _ from b1, cA_s, e4, wI_t (ly_t249 b3.1) (by omega) (by decide), gI_t (ly_t230 c1.1), gI_t (ly_t230 c1.1), c1.srt]
    have kp : Kep n M (sI M1 249 (4 * n) (nI z.2)) := (Kep.z b2).tr (Kep.w (by omega))
    have k8 : mI (sI M1 249 (4 * n) (nI z.2)) 248 n = mI M 248 n := by rw [mI_na (by decide), b2.ib (by decide)]
    have bad : ¬ (7 ≤ tTk tp ln z.1 ∧ tTk tp ln z.1 ≤ 10) → ∀ i2, FlR pl L 1 (tSt tp ln z.1) tp ln M (f_X12_readsMove_56 (some 230) (nI (4 * n)) i2 (some 230) (0 : Int32) (sI M1 249 (4 * n) (nI z.2))) := fun hb i2 => by
      obtain ⟨M2, d1, d2, d3⟩ := y_wants_n c1
      have f2 : Fx [247, 248, 249] [(230, 33), (230, 34)] M2 (sI M2 249 (4 * n + 1) i2) := fx249
      refine (rm_a_f (i := 4 * n) (d3.nw f2) (by omega)).pre ((b2.zn.tr f1.kn).tr (d2.zn.tr f2.kn)) ?_
      rw [rm_56, cR_t (ly_t230 c1.1), d1, cA_s, gR_t (ly_t230 d3.1), ly_r230_37 d3.1, show (1 : Int32) = nI 1 from rfl, nI_add, wI_t (ly_t249 d3.1) (by omega) (by decide)]
    show RmR pl L tp ln n O (GA n) M _ (bnG (pWd tp ln 7 10 z.1) _)
    rw [start]
    by_cases e : 7 ≤ tTk tp ln z.1 ∧ tTk tp ln z.1 ≤ 10
    · obtain ⟨r1, r2⟩ := rw_ac (tTk tp ln z.1) (by omega)
      have hr := r1.mpr e
      have hw := c1.wd (by omega)
      obtain ⟨M2, d1, d2, d3⟩ := y_wants_y c1 hz
      have ev : nI (rwT (tTk tp ln z.1)) - (6 : Int32) = nI (tTk tp ln z.1 - 7) := by rw [show (6 : Int32) = nI 6 from rfl, pk_sub (by omega), r2 e.1 e.2]
      have f2 : Fx [247, 248, 249] [(230, 33), (230, 34)] M2 (sI M2 249 (4 * n + 1) (nI (tTk tp ln z.1 - 7))) := fx249
      have c2 := d3.nw f2
      rw [show pWd tp ln 7 10 z.1 = .inr (tNx tp ln z.1, tTk tp ln z.1) from if_pos e, if_pos (show nI (srt (tTk tp ln z.1)) = (1 : Int32) by unfold srt; rw [if_pos (by omega)]; rfl), gI_t (ly_t230 c1.1), hw, in_ok (show ¬ nI (rwT (tTk tp ln z.1)) < (6 : Int32) from nI_nlt (b := 6) hr.1 (by omega)) (show ¬ (9 : Int32) < nI (rwT (tTk tp ln z.1)) from nI_nlt (a := 9) hr.2 (by decide)), cA_s, if_neg (by decide), ev]
      refine (rm_a_g (p := z.2) (w := tTk tp ln z.1) c2 (by rw [mI_na (by decide), d2.i (by decide) (by decide)]; exact hn1) hn20 (tNx_b hz).1 hO (by rw [mI_nk (by omega), d2.ib (by decide), mI_e]) mI_e).pre ((b2.zn.tr f1.kn).tr (d2.zn.tr f2.kn)) (kp.tr ((Kep.z d2).tr (Kep.w (by omega)))) (by rw [mI_na (by decide), d2.ib (by decide), k8]) ?_
      rw [rm_56, cR_t (ly_t230 c1.1), d1, cA_s, gR_t (ly_t230 d3.1), ly_r230_37 d3.1, show (1 : Int32) = nI 1 from rfl, nI_add, wI_t (ly_t249 d3.1) (by omega) (by decide)]
    · rw [show pWd tp ln 7 10 z.1 = .inl (1, z.1) from if_neg e]
      show FlR pl L 1 (tSt tp ln z.1) tp ln M _
      by_cases q : tTk tp ln z.1 < 20
      · obtain ⟨r1, r2⟩ := rw_ac (tTk tp ln z.1) q
        have hw := c1.wd q
        have hb := rw_b _ q
        rw [if_pos (show nI (srt (tTk tp ln z.1)) = (1 : Int32) by unfold srt; rw [if_pos q]; rfl), gI_t (ly_t230 c1.1), hw]
        by_cases z1 : rwT (tTk tp ln z.1) < 6
        · rw [in_lo (show nI (rwT (tTk tp ln z.1)) < (6 : Int32) from nI_lt (b := 6) z1 (by decide)), cA_s, if_pos (show nI 0 = (0 : Int32) from rfl)]; exact bad e _
        · have : ¬ rwT (tTk tp ln z.1) ≤ 9 := fun y => e (r1.mp ⟨by omega, y⟩)
          rw [in_hi (show (9 : Int32) < nI (rwT (tTk tp ln z.1)) from nI_lt (a := 9) (by omega) (by omega)), cA_s, if_pos (show nI 0 = (0 : Int32) from rfl)]; exact bad e _
      · rw [if_neg (show ¬ nI (srt (tTk tp ln z.1)) = (1 : Int32) from nIne (b := 1) (by have := srt_b (t := tTk tp ln z.1); omega) (by decide) (srt_n1 q))]
        exact bad e _
end YREADS
