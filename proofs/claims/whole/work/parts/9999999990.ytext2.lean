/-! ===== the reference's text() ===== -/
abbrev txF : List (Nat × Nat) := [(230, 6), (230, 7), (230, 8), (230, 18), (230, 19), (230, 20), (230, 21), (230, 22), (230, 23), (230, 24), (230, 25), (230, 26), (230, 29), (230, 32), (230, 33), (230, 34), (230, 38)]
def TQ2 (nt b j : Nat) : Prop := b ∈ zA2 ∨ (b, j) ∈ txF ∨ (b = 231 ∧ j = 1) ∨ KT nt b j
theorem Fx.fq {A : List Nat} {F : List (Nat × Nat)} {P : Nat → Nat → Prop} {M M' : Mem} (h : Fx A F M M') (hP : ∀ b j, b ∈ A ∨ (b, j) ∈ F → P b j) : Fq P M M' := ⟨h.1, h.2.1, h.2.2.1, fun b j hb => h.2.2.2 b j (fun z => hb (hP b j (Or.inl z))) (fun z => hb (hP b j (Or.inr z)))⟩
theorem fu_s {s : Nat} (h : s < 1000) : FU = (FU - s - 1) + 1 + s := by unfold FU; omega
section YTEXT
variable {pl L nt : Nat} {tp : Nat → Nat} {ln : Nat} {M : Mem}
def TxY (pl L nt : Nat) (tp : Nat → Nat) (ln : Nat) (M : Mem) (x : Option (Int32 × Mem)) (res : (Nat × Nat) ⊕ Txt) : Prop := match res with
  | .inl e => ∃ M', x = some (m1, M') ∧ Fx zA2 txF M M' ∧ Lay pl L M' ∧ mI M' 230 6 = nI 0 ∧ mI M' 230 7 = nI e.1 ∧ mI M' 230 8 = nI (tSt tp ln e.2)
  | .inr T => ∃ M', x = some (nI nt, M') ∧ Fq (TQ2 nt) M M' ∧ Lay pl L M' ∧ TextM nt T M' ∧ okT T ∧ mI M' 230 6 = nI 0 ∧ mI M' 230 7 = nI 0 ∧ mI M' 230 8 = m1 ∧ mI M' 231 1 = nI (nt + 1)
theorem y_text (hnt : nt < 6) (hl : Lay pl L M) (h300 : ln ≤ 300) (h6 : mI M 230 6 = nI ln) (htp : ∀ i, i < ln → tp i < 256 ∧ mI M 233 i = b8 (tp i)) (hn : mI M 231 1 = nI nt) : TxY pl L nt tp ln M (f_X12_text (some 230) M) (pTx tp ln 301 0 []) := by
  have f1 : Fx zA2 txF M (sI M 230 18 (nI ln)) := Fx.wI (Or.inr (by decide))
  have f2 := f1.I (a := 230) (k := 6) (v := nI 0) (Or.inr (by decide))
  have f3 := f2.I (a := 230) (k := 19) (v := nI 0) (Or.inr (by decide))
  have f4 := f3.I (a := 230) (k := 23) (v := nI 0) (Or.inr (by decide))
  have f5 := f4.I (a := 230) (k := 24) (v := m1) (Or.inr (by decide))
  have f6 := f5.I (a := 230) (k := 25) (v := nI 0) (Or.inr (by decide))
  have f7 := f6.I (a := 230) (k := 26) (v := nI 0) (Or.inr (by decide))
  have f8 := f7.I (a := 230) (k := 29) (v := nI 0) (Or.inr (by decide))
  have f9 := f8.I (a := 230) (k := 32) (v := nI 4) (Or.inr (by decide))
  have f10 := f9.I (a := 230) (k := 33) (v := nI 0) (Or.inr (by decide))
  have f11 := f10.I (a := 230) (k := 38) (v := nI 0) (Or.inr (by decide))
  have ly : ∀ {M' : Mem}, Fx zA2 txF M M' → mT M' 230 = (1, 12) := fun fr => ly_t230 (hl.fx fr (by decide) (by decide))
  have e2 : mI (sI (sI M 230 18 (nI ln)) 230 6 (nI 0)) 230 6 = nI 0 := mI_e
  have hst : f_X12_text (some 230) M = cA (f_X12_next (some 230) (sI (sI (sI (sI (sI (sI (sI (sI (sI (sI (sI M 230 18 (nI ln)) 230 6 (nI 0)) 230 19 (nI 0)) 230 23 (nI 0)) 230 24 m1) 230 25 (nI 0)) 230 26 (nI 0)) 230 29 (nI 0)) 230 32 (nI 4)) 230 33 (nI 0)) 230 38 (nI 0))) fun _ M12 => f_X12_text_75 FU (some 230) M12 := by
    unfold f_X12_text
    rw [gR_t (ly_t230 hl), ly_r230_3 hl, show (-1 : Int32) = m1 from rfl, show (1 : Int32) = nI 1 from rfl, aI_t (ly_t231 hl) (by decide) (by decide), hn, if_neg (show ¬ nI nt = (6 : Int32) from nIne (b := 6) (by omega) (by decide) (by omega)), gI_t (ly_t230 hl), h6, pI_t (ly_t230 hl), show (0 : Int32) = nI 0 from rfl, pI_t (ly f1), pI_t (ly f2), pI_t (ly f3), pI_t (ly f4), pI_t (ly f5), pI_t (ly f6), pI_t (ly f7), show (4 : Int32) = nI 4 from rfl, pI_t (ly f8), pI_t (ly f9), pI_t (ly f10), cR_t (ly f11)]
  rw [hst]
  have hl11 := hl.fx f11 (by decide) (by decide)
  generalize hM : sI (sI (sI (sI (sI (sI (sI (sI (sI (sI (sI M 230 18 (nI ln)) 230 6 (nI 0)) 230 19 (nI 0)) 230 23 (nI 0)) 230 24 m1) 230 25 (nI 0)) 230 26 (nI 0)) 230 29 (nI 0)) 230 32 (nI 4)) 230 33 (nI 0)) 230 38 (nI 0) = M11 at f11 hl11
  have g : mI M11 230 18 = nI ln ∧ mI M11 230 6 = nI 0 ∧ mI M11 230 19 = nI 0 ∧ mI M11 230 23 = nI 0 ∧ mI M11 230 24 = m1 ∧ mI M11 230 25 = nI 0 ∧ mI M11 230 26 = nI 0 ∧ mI M11 230 29 = nI 0 ∧ mI M11 230 32 = nI 4 ∧ mI M11 230 33 = nI 0 ∧ mI M11 230 38 = nI 0 := by
    rw [← hM]
    simp (disch := decide) only [mI_e, mI_nk, and_self]
  obtain ⟨g18, g6, g19, g23, g24, g25, g26, g29, g32, g33, g38⟩ := g
  have hT11 : TpeM tp ln M11 := ⟨h300, g18, fun i hi => ⟨(htp i hi).1, by rw [f11.ib (by decide)]; exact (htp i hi).2⟩⟩
  obtain ⟨M12, b1, b2, b3⟩ := y_nextT hl11 hT11 g19 (by omega)
  have hl12 : Lay pl L M12 := hl11.ly b2
  have k12 : ∀ j, (230, j) ∉ lyF → mI M12 230 j = mI M11 230 j := fun j hj => b2.i (by simp) hj
  have c12 : CfM pl L tp ln 4 0 0 [] [] [] M12 := ⟨hl12, hT11.fx b2 (by decide) (by decide), b3, ⟨by rw [k12 _ (by decide)]; exact g23, by rw [k12 _ (by decide)]; exact g24⟩, by rw [k12 _ (by decide)]; exact g32, by rw [k12 _ (by decide)]; exact g25, ⟨by rw [k12 _ (by decide)]; exact g26, trivial⟩, ⟨by rw [k12 _ (by decide)]; exact g29, trivial⟩, ⟨by rw [k12 _ (by decide)]; exact g38, fun j p hj => by simp at hj⟩⟩
  have n12 : NwM [] [] M12 := ⟨by rw [k12 _ (by decide)]; exact g33, fun k c hc => by simp at hc⟩
  have f12 : Fx zA2 txF M M12 := f11.tr (b2.mono (by simp) (by decide))
  have hx := y_tx (pl := pl) (L := L) (tp := tp) h300 301 0 [] [] M12 (by omega) c12 n12 okT_nil (by omega) (by simp)
  rw [b1, cA_s]
  have k6 : mI M12 230 6 = nI 0 := by rw [k12 _ (by decide)]; exact g6
  cases hp : pTx tp ln 301 0 [] with
  | inl e =>
    rw [hp] at hx
    obtain ⟨s, M', x1, x2, x3, x4⟩ := hx
    have f13 : Fx zA2 txF M M' := f12.tr (x3.mono (by simp) (by decide))
    have f14 : Fx zA2 txF M (sI (sI M' 230 7 (nI e.1)) 230 8 (nI (tSt tp ln e.2))) := (f13.I (Or.inr (by decide))).I (Or.inr (by decide))
    refine ⟨sI (sI M' 230 7 (nI e.1)) 230 8 (nI (tSt tp ln e.2)), ?_, f14, hl.fx f14 (by decide) (by decide), ?_, ?_, mI_e⟩
    · rw [fu_s (s := s) (by omega), x2, y_fin_f x4]
      rfl
    · rw [mI_nk (by decide), mI_nk (by decide), x3.i (by decide) (by decide)]; exact k6
    · rw [mI_nk (by decide), mI_e]
  | inr T =>
    rw [hp] at hx
    obtain ⟨s, M', O', a', x1, x2, x3, x4, x5, x6, x7, x8⟩ := hx
    have f13 : Fx zA2 txF M M' := f12.tr (x3.mono (by simp) (by decide))
    have f14 : Fx zA2 txF M (sI M' 230 7 (nI 0)) := f13.I (Or.inr (by decide))
    have f15 : Fx zA2 txF M (sI (sI M' 230 7 (nI 0)) 230 8 m1) := f14.I (Or.inr (by decide))
    have hl15 := hl.fx f15 (by decide) (by decide)
    have n15 : mI (sI (sI M' 230 7 (nI 0)) 230 8 m1) 231 1 = nI nt := by rw [f15.i (by decide) (by decide)]; exact hn
    obtain ⟨M16, d1, d2, d3, d4⟩ := y_keepsText (pl := pl) (L := L) (T := T) (O := O') hnt x8 x7 hl15 (by rw [mI_nk (by decide), mI_nk (by decide)]; exact x4.2.2.2.2.2.2.2.2.1) (fun j p hj => by rw [mI_na (b := 250) (by decide), mI_na (b := 250) (by decide), mI_na (b := 251) (by decide), mI_na (b := 251) (by decide)]; exact x4.2.2.2.2.2.2.2.2.2 j p hj) ⟨by rw [mI_nk (by decide), mI_nk (by decide)]; exact x6.1, fun k c hc => by
      have hk := x6.2 k c hc
      unfold NwC at *
      rw [mI_na (b := 247) (by decide), mI_na (b := 247) (by decide), mI_na (b := 248) (by decide), mI_na (b := 248) (by decide), mI_na (b := 249) (by decide), mI_na (b := 249) (by decide)]
      exact hk⟩
    have k16 : ∀ b j, b < 234 → mI M16 b j = mI (sI (sI M' 230 7 (nI 0)) 230 8 m1) b j := fun b j hb => d2.i (fun z => by unfold KT at z; omega)
    have hl17 : Lay pl L (sI M16 231 1 (nI (nt + 1))) := d3.wz (by decide)
    refine ⟨sI M16 231 1 (nI (nt + 1)), ?_, ((f15.fq (fun b j z => z.elim Or.inl (fun y => Or.inr (Or.inl y)))).tr (d2.mono (fun b j z => Or.inr (Or.inr (Or.inr z))))).tr (Fq.w (Or.inr (Or.inr (Or.inl ⟨rfl, rfl⟩)))), hl17, ?_, x7, ?_, ?_, ?_, mI_e⟩
    · rw [fu_s (s := s) (by omega), x2, y_fin_g x4 x5 x4.2.2.2.1.2]
      unfold f_X12_text_167
      rw [gI_t (ly_t230 x4.1), x4.2.2.2.1.1, pI_t (ly_t230 x4.1), gI_t (ly f14), mI_nk (by decide), x4.2.2.2.1.2, pI_t (ly f14), gI_t (ly f15), mI_nk (by decide), mI_nk (by decide), x4.2.2.2.1.1, if_pos (show nI 0 ≤ (0 : Int32) by decide), gR_t (ly f15), ly_r230_3 hl15, show (1 : Int32) = nI 1 from rfl, aI_t (ly_t231 hl15) (by decide) (by decide), n15, cR_t (ly f15), d1, cA_s, gR_t (ly_t230 d3), ly_r230_3 d3, aI_t (ly_t231 d3) (by decide) (by decide), k16 _ _ (by decide), n15, nI_add, wI_t (ly_t231 d3) (by decide) (by decide), gR_t (ly_t230 hl17), ly_r230_3 hl17, aI_t (ly_t231 hl17) (by decide) (by decide), mI_e, pk_sub (by omega), Nat.add_sub_cancel]
    · have d4' := d4
      unfold TextM CodeM at *
      rw [mI_na (b := 234) (by decide), mI_na (b := 235) (by decide), mI_na (b := 236) (by decide), mI_na (b := 237) (by decide), mI_na (b := 238) (by decide), mI_na (b := 239) (by decide), mI_na (b := 240) (by decide), mI_na (b := 241) (by decide), mI_na (b := 242) (by decide)]
      exact d4'
    · rw [mI_na (by decide), k16 _ _ (by decide), mI_nk (by decide), mI_nk (by decide), x3.i (by decide) (by decide)]; exact k6
    · rw [mI_na (by decide), k16 _ _ (by decide), mI_nk (by decide), mI_e]
    · rw [mI_na (by decide), k16 _ _ (by decide), mI_e]
end YTEXT
