/-! ===== the class goes through all states ===== -/
theorem Fx.r11 {A : List Nat} {F : List (Nat × Nat)} {M M' : Mem} {v : Option Nat} (fr : Fx A F M M') : Fx A F (sR M 211 11 v) (sR M' 211 11 v) := by
  obtain ⟨f1, f2, f3, f4⟩ := fr
  refine ⟨f1, f2, ?_, f4⟩
  show up2 M'.2.2.2.2 211 11 v = up2 M.2.2.2.2 211 11 v
  have : M'.2.2.2.2 = M.2.2.2.2 := f3
  rw [this]
section EXPLORE3
variable {w h L nt : Nat} {τ : Nat → Txt} {x : Option Nat}
theorem x_fill_l {M0 : Mem} : ∀ (k f i : Nat) (M : Mem), i + k = 4096 → k < f → Bs w h L nt τ M → Fx [216] [] M0 M → (∀ j, j < i → mI M 216 j = nI 0) → ∃ M', f_J7_fill_53178_5 f (some 216) (nI 0) (nI i) (nI 4096) M = some ((), M') ∧ Fx [216] [] M0 M' ∧ ∀ j, j < 4096 → mI M' 216 j = nI 0
  | k, 0, i, M => fun _ z => absurd z (by omega)
  | 0, f + 1, i, M => by
    intro hi _ hb fr hc
    obtain rfl : i = 4096 := by omega
    refine ⟨M, ?_, fr, hc⟩
    rw [u_J7_fill_53178_5]
    unfold b_J7_fill_53178_5
    rw [if_pos (Int32.le_refl _)]
  | k + 1, f + 1, i, M => by
    intro hi hn hb fr hc
    have hl := hb.lay
    have f1 : Fx [216] [] M (sI M 216 i (nI 0)) := Fx.wI (Or.inl (by decide))
    obtain ⟨M', z1, z2, z3⟩ := x_fill_l k f (i + 1) (sI M 216 i (nI 0)) (by omega) (by omega) (hb.fx f1 (by decide) (by decide)) (fr.tr f1) (fun j hj => by
      by_cases q : j = i
      · subst q; rw [mI_e]
      · rw [mI_nk q]; exact hc j (by omega))
    refine ⟨M', ?_, z2, z3⟩
    rw [u_J7_fill_53178_5]
    unfold b_J7_fill_53178_5
    rw [if_neg (nI_ge (by omega) (by decide)), wI_t (ly_t216 hl) (by omega) (by decide), nI_1]
    exact z1
abbrev exA : List Nat := [201, 202, 204, 205, 206, 207, 212, 213, 214, 215, 216, 217, 218, 219]
theorem x_explore {M : Mem} {a : Nat} {π : Pos} (hb : Bs w h L nt τ M) (hx : okX nt x) (ha : a = 10 ∨ a = 47) (hP : PosAt a π M) (ok : okN w h π) : ∃ sp Q n t M', f_X8_explore (some 211) (some a) (some (rT x)) M = some ((), M') ∧ Fx exA xeF (sR M 211 11 (some (rT x))) M' ∧ ExI w h L nt τ x π sp Q n t n (fun _ _ => False) M' ∧ 0 < n ∧ Q 0 = π ∧ PosAt 217 π M' := by
  have hl := hb.lay
  have htk := x_take hP (ly_t217 hl)
  have hpa : a ∉ [217] ∧ ∀ q ∈ ([] : List (Nat × Nat)), q.1 ≠ a := by rcases ha with rfl | rfl <;> decide
  have fr1 : Fx [217] [] M (sI (sI (sL M 217 0 (lN (enc 4 π.1 12))) 217 1 (nI (enc 2 π.2.1 8))) 217 2 (nI π.2.2)) := ((Fx.wL (Or.inl (by decide))).I (Or.inl (by decide))).I (Or.inl (by decide))
  have hP1 : PosAt 217 π (sI (sI (sL M 217 0 (lN (enc 4 π.1 12))) 217 1 (nI (enc 2 π.2.1 8))) 217 2 (nI π.2.2)) := PosAt.took (ly_t217 hl)
  generalize hM1 : sI (sI (sL M 217 0 (lN (enc 4 π.1 12))) 217 1 (nI (enc 2 π.2.1 8))) 217 2 (nI π.2.2) = M1 at *
  have hb1 := hb.fx fr1 (by decide) (by decide)
  have hb2 : Bs w h L nt τ (sR M1 211 11 (some (rT x))) := hb1.r11
  have fr2 : Fx exA xeF (sR M 211 11 (some (rT x))) (sR M1 211 11 (some (rT x))) := (fr1.mono (by decide) (by decide)).r11
  have f3 : Fx [] [(211, 2), (211, 3)] (sR M1 211 11 (some (rT x))) (sI (sI (sR M1 211 11 (some (rT x))) 211 2 0) 211 3 0) := (Fx.wI (Or.inr (by decide))).I (Or.inr (by decide))
  have hb3a := hb2.fx (Fx.wI (A := []) (F := [(211, 2)]) (k := 2) (v := 0) (Or.inr (show (211, 2) ∈ [(211, 2)] by decide))) (by decide) (by decide)
  have hb3 := hb2.fx f3 (by decide) (by decide)
  obtain ⟨M4, g1, g2, g3⟩ := x_fill_l 4096 FU 0 (sI (sI (sR M1 211 11 (some (rT x))) 211 2 0) 211 3 0) (by omega) (by decide) hb3 Fx.rf (fun j hj => absurd hj (by omega))
  have hb4 := hb3.fx g2 (by decide) (by decide)
  have fr4 : Fx [216] [(211, 2), (211, 3)] (sR M1 211 11 (some (rT x))) M4 := (f3.mono (by decide) (by decide)).tr (g2.mono (by decide) (by decide))
  have hPa : PosAt a π (sR M1 211 11 (some (rT x))) := by have q := hP.fx fr1 hpa; exact q
  have hP4 : PosAt a π M4 := hPa.fx fr4 (by rcases ha with rfl | rfl <;> decide)
  have hsx : StsX (fun _ => π) 0 (fun _ => 0) M4 := ⟨by rw [g2.i (by decide) (by decide), mI_nk (by decide), mI_e]; rfl, fun i hi => absurd hi (by omega), fun b hb => g3 b hb⟩
  have hso : StsOk w h (fun _ => π) 0 (fun _ => 0) := ⟨by omega, fun i hi => absurd hi (by omega), fun i j hi => absurd hi (by omega), fun _ _ => Nat.le_refl _, fun a b _ _ _ hz => absurd rfl hz, fun i hi => absurd hi (by omega)⟩
  rcases x_number hb4 hsx hso ok with ⟨j, hj, -⟩ | ⟨-, -, t', M5, ho, hs2, hok2, fr5⟩ | ⟨-, h2000, -⟩
  · omega
  · have fr5' : Fx exA xeF (sR M1 211 11 (some (rT x))) M5 := (fr4.mono (by decide) (by decide)).tr (fr5.mono (by decide) (by decide))
    have hI : ExI w h L nt τ x π false (up1 (fun _ => π) 0 π) (0 + 1) t' 0 (fun _ _ => False) M5 := by
      refine ⟨hb4.fx fr5 (by decide) (by decide), hs2, hok2, ?_, ?_, fun i hi => ?_, (fun z => by cases z), fun _ => ⟨fun i hi => absurd hi (by omega), fun a b hab => absurd hab (by simp)⟩⟩
      · rw [fr5.i (by decide) (by decide), g2.i (by decide) (by decide), mI_e]; rfl
      · rw [fr5.2.2.1, g2.2.2.1, mR_sI, mR_sI, mR_s]; simp
      · obtain rfl : i = 0 := by omega
        rw [up1_s]
        exact fun C h1 _ => h1
    obtain ⟨sp, Q, n, t, M6, z1, z2, z3, z4, z5⟩ := x_explore_l hx 2000 FU 0 false _ (0 + 1) t' M5 (by omega) (by decide) (by omega) hI Fx.rf
    have fr6 : Fx exA xeF (sR M 211 11 (some (rT x))) M6 := (fr2.tr fr5').tr (z2.mono (by decide) (by decide))
    have hP17 : PosAt 217 π M6 := by
      have q1 : PosAt 217 π (sR M1 211 11 (some (rT x))) := hP1
      exact ((q1.fx fr4 (by decide)).fx fr5 (by decide)).fx z2 (by decide)
    refine ⟨sp, Q, n, t, M6, ?_, fr6, z3, by omega, by rw [z5 0 (by omega), up1_s], hP17⟩
    unfold f_X8_explore f_J7_fill_53178
    rw [gR_t (ly_t211 hl), ly_r211_8 hl, cR_t (ly_t217 hl), htk, cA_s, pR_t (ly_t211 hb1.lay), pI_t (ly_t211 hb2.lay), tv_0, pI_t (ly_t211 hb3a.lay), gR_t (ly_t211 hb3.lay), ly_r211_6 hb3.lay, aN_t (ly_t216 hb3.lay) (by decide) (by decide) (by decide), show (0 : Int32) = nI 0 from rfl]
    rw [show f_J7_fill_53178_5 FU (some 216) (nI 0) (nI 0) (nI 4096) (sI (sI (sR M1 211 11 (some (rT x))) 211 2 (nI 0)) 211 3 (nI 0)) = some ((), M4) from g1, cA_s, cR_t hP4.1, x_boardAndTurn hP4 ok.1, cA_s, gI_t hP4.1, hP4.2.2.1, cR_t (ly_t211 hb4.lay), ho, cA_s]
    exact z1
  · omega
end EXPLORE3
