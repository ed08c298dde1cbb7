/-! ===== the reference reads: how it stands ===== -/
def isOp (t : Nat) : Prop := t = 17 ∨ t = 18 ∨ t = 27 ∨ t = 28 ∨ t = 29 ∨ t = 30
def rk (t : Nat) : Nat := if t = 18 then 1 else if t = 17 then 2 else if t = 27 then 3 else if t = 28 then 3 else 4
theorem rk_b {t : Nat} : 1 ≤ rk t ∧ rk t ≤ 4 := by unfold rk; repeat' split
                                                   all_goals decide
theorem y_rank {M : Mem} {t : Nat} (h : isOp t) : f_X12_rank (nI (moC (10000 + t))) M = some (nI (rk t), M) := by
  rcases h with rfl | rfl | rfl | rfl | rfl | rfl <;> rfl
def cod (c : List Nat) : List (Nat × Nat) := c.map (fun v => (moC v, mvC v))
theorem cod_app {c d : List Nat} : cod (c ++ d) = cod c ++ cod d := List.map_append
theorem cod_len {c : List Nat} : (cod c).length = c.length := List.length_map _
def FrA (M : Mem) : List (Nat × Nat) → Prop
  | [] => True
  | f :: F => mI M 243 F.length = nI f.1 ∧ f.1 < 10 ∧ (f.1 = 5 → mI M 244 (F.length + 1) = nI (moC (10000 + f.2))) ∧ FrA M F
def WtA (M : Mem) : List (Nat × Nat) → Prop
  | [] => True
  | w :: W => mI M 245 W.length = nI (moC (10000 + w.1)) ∧ mI M 246 W.length = nI w.2 ∧ isOp w.1 ∧ w.2 ≤ 40 ∧ WtA M W
def OuA (M : Mem) (O : List (Nat × Nat)) : Prop := ∀ j p, O[j]? = some p → mI M 250 j = nI p.1 ∧ mI M 251 j = nI p.2
theorem FrA.cg {M M' : Mem} : ∀ {F : List (Nat × Nat)}, FrA M F → (∀ j, j < F.length → mI M' 243 j = mI M 243 j ∧ mI M' 244 (j + 1) = mI M 244 (j + 1)) → FrA M' F
  | [], _, _ => trivial
  | f :: F, h, e => by
    obtain ⟨h1, h2, h3, h4⟩ := h
    obtain ⟨e1, e2⟩ := e F.length (by simp)
    exact ⟨by rw [e1]; exact h1, h2, fun z => by rw [e2]; exact h3 z, FrA.cg h4 (fun j hj => e j (by simp; omega))⟩
theorem WtA.cg {M M' : Mem} : ∀ {W : List (Nat × Nat)}, WtA M W → (∀ j, j < W.length → mI M' 245 j = mI M 245 j ∧ mI M' 246 j = mI M 246 j) → WtA M' W
  | [], _, _ => trivial
  | f :: F, h, e => by
    obtain ⟨h1, h2, h3, h4, h5⟩ := h
    obtain ⟨e1, e2⟩ := e F.length (by simp)
    exact ⟨by rw [e1]; exact h1, by rw [e2]; exact h2, h3, h4, WtA.cg h5 (fun j hj => e j (by simp; omega))⟩
abbrev zA : List Nat := [243, 244, 245, 246, 250, 251]
abbrev zF : List (Nat × Nat) := [(230, 19), (230, 20), (230, 21), (230, 22), (230, 23), (230, 24), (230, 25), (230, 26), (230, 29), (230, 32), (230, 38)]
section YCFG
variable {pl L : Nat} {tp : Nat → Nat} {ln : Nat}
def CfM (pl L : Nat) (tp : Nat → Nat) (ln st a op : Nat) (F W O : List (Nat × Nat)) (M : Mem) : Prop := Lay pl L M ∧ TpeM tp ln M ∧ TkM tp ln a M ∧ (mI M 230 23 = nI 0 ∧ mI M 230 24 = m1) ∧ mI M 230 32 = nI st ∧ mI M 230 25 = nI op ∧ (mI M 230 26 = nI F.length ∧ FrA M F) ∧ (mI M 230 29 = nI W.length ∧ WtA M W) ∧ (mI M 230 38 = nI O.length ∧ OuA M O)
def FlM (pl L k p : Nat) (tp : Nat → Nat) (ln : Nat) (M : Mem) : Prop := Lay pl L M ∧ TpeM tp ln M ∧ mI M 230 23 = nI k ∧ mI M 230 24 = nI p ∧ 0 < k ∧ k < 6
theorem SoM.fx {t mm : Nat} {M M' : Mem} (h : SoM t mm M) (h1 : mI M' 230 21 = mI M 230 21) (h2 : mI M' 230 22 = mI M 230 22) : SoM t mm M' := by
  unfold SoM at *; rw [h1, h2]; exact h
variable {st a op : Nat} {F W O : List (Nat × Nat)} {M M' : Mem} {A : List Nat} {G : List (Nat × Nat)}
theorem TkM.fx (h : TkM tp ln a M) (fr : Fx A G M M') (hA : 230 ∉ A) (hF : (230, 19) ∉ G ∧ (230, 20) ∉ G ∧ (230, 21) ∉ G ∧ (230, 22) ∉ G) : TkM tp ln a M' := by
  obtain ⟨a1, a2, a3⟩ := h
  exact ⟨by rw [fr.i hA hF.1]; exact a1, by rw [fr.i hA hF.2.1]; exact a2, a3.fx (fr.i hA hF.2.2.1) (fr.i hA hF.2.2.2)⟩
theorem CfM.chS (h : CfM pl L tp ln st a op F W O M) (s : Nat) : CfM pl L tp ln s a op F W O (sI M 230 32 (nI s)) := by
  obtain ⟨h1, h2, h3, h4, h5, h6, h7, h8, h9⟩ := h
  have fr : Fx [] [(230, 32)] M (sI M 230 32 (nI s)) := Fx.wI (Or.inr (by decide))
  exact ⟨h1.fx fr (by decide) (by decide), h2.fx fr (by decide) (by decide), h3.fx fr (by decide) (by decide), ⟨by rw [mI_nk (by decide)]; exact h4.1, by rw [mI_nk (by decide)]; exact h4.2⟩, mI_e, by rw [mI_nk (by decide)]; exact h6, ⟨by rw [mI_nk (by decide)]; exact h7.1, h7.2.cg (fun j _ => ⟨by rw [mI_na (by decide)], by rw [mI_na (by decide)]⟩)⟩, ⟨by rw [mI_nk (by decide)]; exact h8.1, h8.2.cg (fun j _ => ⟨by rw [mI_na (by decide)], by rw [mI_na (by decide)]⟩)⟩, ⟨by rw [mI_nk (by decide)]; exact h9.1, fun j p hj => by rw [mI_na (b := 250) (by decide), mI_na (b := 251) (by decide)]; exact h9.2 j p hj⟩⟩
theorem CfM.chP (h : CfM pl L tp ln st a op F W O M) (p : Nat) : CfM pl L tp ln st a p F W O (sI M 230 25 (nI p)) := by
  obtain ⟨h1, h2, h3, h4, h5, h6, h7, h8, h9⟩ := h
  have fr : Fx [] [(230, 25)] M (sI M 230 25 (nI p)) := Fx.wI (Or.inr (by decide))
  exact ⟨h1.fx fr (by decide) (by decide), h2.fx fr (by decide) (by decide), h3.fx fr (by decide) (by decide), ⟨by rw [mI_nk (by decide)]; exact h4.1, by rw [mI_nk (by decide)]; exact h4.2⟩, by rw [mI_nk (by decide)]; exact h5, mI_e, ⟨by rw [mI_nk (by decide)]; exact h7.1, h7.2.cg (fun j _ => ⟨by rw [mI_na (by decide)], by rw [mI_na (by decide)]⟩)⟩, ⟨by rw [mI_nk (by decide)]; exact h8.1, h8.2.cg (fun j _ => ⟨by rw [mI_na (by decide)], by rw [mI_na (by decide)]⟩)⟩, ⟨by rw [mI_nk (by decide)]; exact h9.1, fun j p hj => by rw [mI_na (b := 250) (by decide), mI_na (b := 251) (by decide)]; exact h9.2 j p hj⟩⟩
theorem CfM.chF (h : CfM pl L tp ln st a op F W O M) (fr : Fx [243, 244] [(230, 26)] M M') {F' : List (Nat × Nat)} (e1 : mI M' 230 26 = nI F'.length) (e2 : FrA M' F') : CfM pl L tp ln st a op F' W O M' := by
  obtain ⟨h1, h2, h3, h4, h5, h6, h7, h8, h9⟩ := h
  refine ⟨h1.fx fr (by decide) (by decide), h2.fx fr (by decide) (by decide), h3.fx fr (by decide) (by decide), ⟨by rw [fr.i (by decide) (by decide)]; exact h4.1, by rw [fr.i (by decide) (by decide)]; exact h4.2⟩, by rw [fr.i (by decide) (by decide)]; exact h5, by rw [fr.i (by decide) (by decide)]; exact h6, ⟨e1, e2⟩, ⟨by rw [fr.i (by decide) (by decide)]; exact h8.1, h8.2.cg (fun j _ => ⟨by rw [fr.ib (by decide)], by rw [fr.ib (by decide)]⟩)⟩, ⟨by rw [fr.i (by decide) (by decide)]; exact h9.1, fun j p hj => by rw [fr.ib (b := 250) (by decide), fr.ib (b := 251) (by decide)]; exact h9.2 j p hj⟩⟩
theorem CfM.chW (h : CfM pl L tp ln st a op F W O M) (fr : Fx [245, 246] [(230, 29)] M M') {W' : List (Nat × Nat)} (e1 : mI M' 230 29 = nI W'.length) (e2 : WtA M' W') : CfM pl L tp ln st a op F W' O M' := by
  obtain ⟨h1, h2, h3, h4, h5, h6, h7, h8, h9⟩ := h
  refine ⟨h1.fx fr (by decide) (by decide), h2.fx fr (by decide) (by decide), h3.fx fr (by decide) (by decide), ⟨by rw [fr.i (by decide) (by decide)]; exact h4.1, by rw [fr.i (by decide) (by decide)]; exact h4.2⟩, by rw [fr.i (by decide) (by decide)]; exact h5, by rw [fr.i (by decide) (by decide)]; exact h6, ⟨by rw [fr.i (by decide) (by decide)]; exact h7.1, h7.2.cg (fun j _ => ⟨by rw [fr.ib (by decide)], by rw [fr.ib (by decide)]⟩)⟩, ⟨e1, e2⟩, ⟨by rw [fr.i (by decide) (by decide)]; exact h9.1, fun j p hj => by rw [fr.ib (b := 250) (by decide), fr.ib (b := 251) (by decide)]; exact h9.2 j p hj⟩⟩
theorem CfM.chO (h : CfM pl L tp ln st a op F W O M) (fr : Fx [250, 251] [(230, 38)] M M') {O' : List (Nat × Nat)} (e1 : mI M' 230 38 = nI O'.length) (e2 : OuA M' O') : CfM pl L tp ln st a op F W O' M' := by
  obtain ⟨h1, h2, h3, h4, h5, h6, h7, h8, h9⟩ := h
  refine ⟨h1.fx fr (by decide) (by decide), h2.fx fr (by decide) (by decide), h3.fx fr (by decide) (by decide), ⟨by rw [fr.i (by decide) (by decide)]; exact h4.1, by rw [fr.i (by decide) (by decide)]; exact h4.2⟩, by rw [fr.i (by decide) (by decide)]; exact h5, by rw [fr.i (by decide) (by decide)]; exact h6, ⟨by rw [fr.i (by decide) (by decide)]; exact h7.1, h7.2.cg (fun j _ => ⟨by rw [fr.ib (by decide)], by rw [fr.ib (by decide)]⟩)⟩, ⟨by rw [fr.i (by decide) (by decide)]; exact h8.1, h8.2.cg (fun j _ => ⟨by rw [fr.ib (by decide)], by rw [fr.ib (by decide)]⟩)⟩, ⟨e1, e2⟩⟩
theorem CfM.nx (h : CfM pl L tp ln st a op F W O M) (ha : a ≤ ln) : ∃ M', f_X12_next (some 230) M = some ((), M') ∧ Fx zA zF M M' ∧ CfM pl L tp ln st (tNx tp ln a) op F W O M' := by
  obtain ⟨h1, h2, h3, h4, h5, h6, h7, h8, h9⟩ := h
  obtain ⟨M', a1, fr, a3⟩ := y_nextT h1 h2 h3.1 (tNx_b ha).1
  refine ⟨M', a1, fr.mono (by simp) (by simp), h1.fx fr (by decide) (by decide), h2.fx fr (by decide) (by decide), a3, ⟨by rw [fr.i (by decide) (by decide)]; exact h4.1, by rw [fr.i (by decide) (by decide)]; exact h4.2⟩, by rw [fr.i (by decide) (by decide)]; exact h5, by rw [fr.i (by decide) (by decide)]; exact h6, ⟨by rw [fr.i (by decide) (by decide)]; exact h7.1, h7.2.cg (fun j _ => ⟨by rw [fr.ib (by decide)], by rw [fr.ib (by decide)]⟩)⟩, ⟨by rw [fr.i (by decide) (by decide)]; exact h8.1, h8.2.cg (fun j _ => ⟨by rw [fr.ib (by decide)], by rw [fr.ib (by decide)]⟩)⟩, ⟨by rw [fr.i (by decide) (by decide)]; exact h9.1, fun j p hj => by rw [fr.ib (b := 250) (by decide), fr.ib (b := 251) (by decide)]; exact h9.2 j p hj⟩⟩
theorem y_emits (h : CfM pl L tp ln st a op F W O M) (hO : O.length < 400) (u v : Nat) : ∃ M', f_X12_emits (some 230) (nI u) (nI v) M = some ((), M') ∧ Fx zA zF M M' ∧ CfM pl L tp ln st a op F W (O ++ [(u, v)]) M' := by
  have hl := h.1
  have h9 := h.2.2.2.2.2.2.2.2
  have f1 : Fx [250, 251] [(230, 38)] M (sI M 250 O.length (nI u)) := Fx.wI (Or.inl (by decide))
  have f2 : Fx [250, 251] [(230, 38)] M (sI (sI M 250 O.length (nI u)) 251 O.length (nI v)) := f1.I (Or.inl (by decide))
  have f3 : Fx [250, 251] [(230, 38)] M (sI (sI (sI M 250 O.length (nI u)) 251 O.length (nI v)) 230 38 (nI (O.length + 1))) := f2.I (Or.inr (by decide))
  have hl1 := hl.fx f1 (by decide) (by decide)
  have hl2 := hl.fx f2 (by decide) (by decide)
  refine ⟨_, ?_, f3.mono (by simp) (by simp), h.chO f3 (by rw [mI_e]; simp) ?_⟩
  · unfold f_X12_emits
    rw [gR_t (ly_t230 hl), ly_r230_39 hl, gI_t (ly_t230 hl), h9.1, wI_t (ly_t250 hl) hO (by decide), gR_t (ly_t230 hl1), ly_r230_40 hl1, gI_t (ly_t230 hl1), mI_na (by decide), h9.1, wI_t (ly_t251 hl1) hO (by decide), gI_t (ly_t230 hl2), mI_na (by decide), mI_na (by decide), h9.1, nI_1, pI_t (ly_t230 hl2)]
  · intro j p hj
    have g0 : mI (sI (sI (sI M 250 O.length (nI u)) 251 O.length (nI v)) 230 38 (nI (O.length + 1))) 250 = mI (sI M 250 O.length (nI u)) 250 := by rw [mI_na (by decide), mI_na (by decide)]
    have g1 : mI (sI (sI (sI M 250 O.length (nI u)) 251 O.length (nI v)) 230 38 (nI (O.length + 1))) 251 = mI (sI (sI M 250 O.length (nI u)) 251 O.length (nI v)) 251 := by rw [mI_na (by decide)]
    rw [g0, g1]
    by_cases e : j = O.length
    · subst e
      rw [List.getElem?_append_right (Nat.le_refl _), Nat.sub_self] at hj
      cases hj
      exact ⟨mI_e, mI_e⟩
    · rw [mI_nk e, mI_nk e, mI_nk e]
      refine h9.2 j p ?_
      by_cases q : j < O.length
      · rw [List.getElem?_append_left q] at hj; exact hj
      · rw [List.getElem?_append_right (by omega), List.getElem?_eq_none (by simp; omega)] at hj; cases hj
theorem y_emitC (h : CfM pl L tp ln st a op F W O M) (hO : O.length < 400) (v : Nat) : ∃ M', f_X12_emits (some 230) (nI (moC v)) (nI (mvC v)) M = some ((), M') ∧ Fx zA zF M M' ∧ CfM pl L tp ln st a op F W (O ++ cod [v]) M' := y_emits h hO _ _
theorem y_errs {k : Nat} (h : CfM pl L tp ln st a op F W O M) (hk : 0 < k ∧ k < 6) : ∃ M', f_X12_errs (some 230) (nI k) M = some ((), M') ∧ Fx zA zF M M' ∧ FlM pl L k (tSt tp ln a) tp ln M' := by
  obtain ⟨h1, h2, h3, h4, -⟩ := h
  have f1 : Fx zA zF M (sI M 230 23 (nI k)) := Fx.wI (Or.inr (by decide))
  have f2 : Fx zA zF M (sI (sI M 230 23 (nI k)) 230 24 (nI (tSt tp ln a))) := f1.I (Or.inr (by decide))
  have hl1 := h1.fx f1 (by decide) (by decide)
  refine ⟨_, ?_, f2, h1.fx f2 (by decide) (by decide), h2.fx f2 (by decide) (by decide), by rw [mI_nk (by decide), mI_e], mI_e, hk.1, hk.2⟩
  unfold f_X12_errs
  rw [gI_t (ly_t230 h1), h4.1, if_pos (show nI 0 = (0 : Int32) from rfl), pI_t (ly_t230 h1), gI_t (ly_t230 hl1), mI_nk (by decide), h3.2.1, pI_t (ly_t230 hl1)]
theorem y_top {f : Nat × Nat} (h : CfM pl L tp ln st a op (f :: F) W O M) (hF : F.length < 40) : f_X12_top (some 230) M = some (nI f.1, M) := by
  obtain ⟨h1, -, -, -, -, -, h7, -⟩ := h
  unfold f_X12_top
  rw [gR_t (ly_t230 h1), ly_r230_27 h1, gI_t (ly_t230 h1), h7.1, show (1 : Int32) = nI 1 from rfl, pk_sub (by simp), show (f :: F).length - 1 = F.length from by simp, aI_t (ly_t243 h1) hF (by decide), h7.2.1]
theorem y_push {k : Nat} (h : CfM pl L tp ln st a op F W O M) (hF : F.length < 40) (hk : k < 10 ∧ k ≠ 5) : ∃ M', f_X12_opensFrame (some 230) (nI k) M = some ((), M') ∧ Fx zA zF M M' ∧ CfM pl L tp ln st a op ((k, 0) :: F) W O M' := by
  have hl := h.1
  have h7 := h.2.2.2.2.2.2.1
  have f1 : Fx [243, 244] [(230, 26)] M (sI M 243 F.length (nI k)) := Fx.wI (Or.inl (by decide))
  have f2 : Fx [243, 244] [(230, 26)] M (sI (sI M 243 F.length (nI k)) 230 26 (nI (F.length + 1))) := f1.I (Or.inr (by decide))
  have hl1 := hl.fx f1 (by decide) (by decide)
  refine ⟨_, ?_, f2.mono (by simp) (by simp), h.chF f2 (by rw [mI_e]; simp) ⟨by rw [mI_na (by decide), mI_e], hk.1, fun z => absurd z hk.2, h7.2.cg (fun j hj => ⟨by rw [mI_na (by decide), mI_nk (by omega)], by rw [mI_na (by decide), mI_na (by decide)]⟩)⟩⟩
  unfold f_X12_opensFrame
  rw [gR_t (ly_t230 hl), ly_r230_27 hl, gI_t (ly_t230 hl), h7.1, wI_t (ly_t243 hl) hF (by decide), gI_t (ly_t230 hl1), mI_na (by decide), h7.1, nI_1, pI_t (ly_t230 hl1)]
theorem CfM.popF {f : Nat × Nat} (h : CfM pl L tp ln st a op (f :: F) W O M) : CfM pl L tp ln st a op F W O (sI M 230 26 (nI F.length)) := by
  have f1 : Fx [243, 244] [(230, 26)] M (sI M 230 26 (nI F.length)) := Fx.wI (Or.inr (by decide))
  exact h.chF f1 mI_e (h.2.2.2.2.2.2.1.2.2.2.2.cg (fun j _ => ⟨by rw [mI_na (by decide)], by rw [mI_na (by decide)]⟩))
/-- what waits is worked -/
def wkS (r n : Nat) : List (Nat × Nat) → List (Nat × Nat) × List Nat
  | [] => ([], [])
  | w :: W => if w.2 = n ∧ r ≤ rk w.1 then ((wkS r n W).1, (10000 + w.1) :: (wkS r n W).2) else (w :: W, [])
theorem op_mv {t : Nat} (h : isOp t) : mvC (10000 + t) = 0 := by
  rcases h with rfl | rfl | rfl | rfl | rfl | rfl <;> rfl
theorem y_works0 {r : Nat} (hr : r ≤ 4) : ∀ (f : Nat) (W O : List (Nat × Nat)) (M : Mem), W.length < f → W.length ≤ 80 → F.length ≤ 40 → O.length + W.length ≤ 400 → CfM pl L tp ln st a op F W O M → ∃ M', f_X12_works_0 f (some 230) (nI r) M = some ((), M') ∧ Fx zA zF M M' ∧ CfM pl L tp ln st a op F (wkS r F.length W).1 (O ++ cod (wkS r F.length W).2) M'
  | 0, _, _, _ => fun z => absurd z (by omega)
  | f + 1, [], O, M => by
    intro _ _ _ _ h
    refine ⟨M, ?_, Fx.rf, by simpa [wkS, cod] using h⟩
    rw [u_X12_works_0]
    unfold b_X12_works_0
    rw [gI_t (ly_t230 h.1), h.2.2.2.2.2.2.2.1.1, if_pos (show nI ([] : List (Nat × Nat)).length ≤ (0 : Int32) by decide)]
  | f + 1, w :: W, O, M => by
    intro hf hW hF hO h
    have hl := h.1
    obtain ⟨w0, w1, w2, w3, w4, w5⟩ := h.2.2.2.2.2.2.2.1
    have h26 := h.2.2.2.2.2.2.1.1
    simp only [List.length_cons] at hf hW hO
    have hrk := rk_b (t := w.1)
    have e1 : nI (w :: W).length - (1 : Int32) = nI W.length := by rw [show (1 : Int32) = nI 1 from rfl, pk_sub (by simp)]; simp
    rw [u_X12_works_0]
    unfold b_X12_works_0
    rw [gI_t (ly_t230 hl), w0, if_neg (show ¬ nI (w :: W).length ≤ (0 : Int32) from nI_ge (a := 0) (by simp) (by simp; omega)), gR_t (ly_t230 hl), ly_r230_31 hl, gI_t (ly_t230 hl), w0, e1, aI_t (ly_t246 hl) (by omega) (by decide), w2, gI_t (ly_t230 hl), h26]
    by_cases z : w.2 = F.length
    · rw [if_pos (show nI w.2 = nI F.length by rw [z]), gR_t (ly_t230 hl), ly_r230_30 hl, gI_t (ly_t230 hl), w0, e1, aI_t (ly_t245 hl) (by omega) (by decide), w1, y_rank w3, cA_s]
      by_cases y : r ≤ rk w.1
      · have f1 : Fx [245, 246] [(230, 29)] M (sI M 230 29 (nI W.length)) := Fx.wI (Or.inr (by decide))
        have c1 : CfM pl L tp ln st a op F W O (sI M 230 29 (nI W.length)) := h.chW f1 mI_e (w5.cg (fun j _ => ⟨by rw [mI_na (by decide)], by rw [mI_na (by decide)]⟩))
        obtain ⟨M2, b1, b2, b3⟩ := y_emitC c1 (by omega) (10000 + w.1)
        rw [op_mv w3] at b1
        obtain ⟨M3, d1, d2, d3⟩ := y_works0 hr f W (O ++ cod [10000 + w.1]) M2 (by omega) (by omega) hF (by simp [cod]; omega) b3
        have ew : wkS r F.length (w :: W) = ((wkS r F.length W).1, (10000 + w.1) :: (wkS r F.length W).2) := by
          rw [wkS, if_pos ⟨z, y⟩]
        rw [ew]
        refine ⟨M3, ?_, ((f1.mono (by simp) (by simp)).tr b2).tr d2, ?_⟩
        · rw [if_neg (nI_nlt y (by omega)), gI_t (ly_t230 hl), w0, e1, pI_t (ly_t230 hl), gR_t (ly_t230 c1.1), ly_r230_30 c1.1, gI_t (ly_t230 c1.1), mI_e, aI_t (ly_t245 c1.1) (by omega) (by decide), mI_na (by decide), w1, cR_t (ly_t230 c1.1), show (0 : Int32) = nI 0 from rfl, b1, cA_s]
          exact d1
        · rw [List.append_assoc, ← cod_app] at d3
          exact d3
      · have ew : wkS r F.length (w :: W) = (w :: W, []) := by
          rw [wkS, if_neg (fun q => y q.2)]
        rw [ew]
        refine ⟨M, ?_, Fx.rf, by simpa [cod] using h⟩
        rw [if_pos (nI_lt (by omega) (by omega))]
    · have ew : wkS r F.length (w :: W) = (w :: W, []) := by
        rw [wkS, if_neg (fun q => z q.1)]
      rw [ew, if_neg (nIne (by omega) (by omega) z)]
      exact ⟨M, rfl, Fx.rf, by simpa [cod] using h⟩
theorem y_works {r : Nat} (hr : r ≤ 4) (h : CfM pl L tp ln st a op F W O M) (hW : W.length ≤ 80) (hF : F.length ≤ 40) (hO : O.length + W.length ≤ 400) : ∃ M', f_X12_works (some 230) (nI r) M = some ((), M') ∧ Fx zA zF M M' ∧ CfM pl L tp ln st a op F (wkS r F.length W).1 (O ++ cod (wkS r F.length W).2) M' := y_works0 hr FU W O M (by unfold FU; omega) hW hF hO h
end YCFG
