/-! ===== image and back ===== -/
theorem mI_sC {M : Mem} {b : Nat} {f : Nat → Int32} : mI (sC M b f) b = f := by show up1 M.2.2.1 b f b = f; exact up1_s
theorem mI_sCn {M : Mem} {a b : Nat} {f : Nat → Int32} (h : a ≠ b) : mI (sC M b f) a = mI M a := by show up1 M.2.2.1 b f a = _; exact up1_n h
theorem Fx.wC {A : List Nat} {F : List (Nat × Nat)} {M : Mem} {a : Nat} {f : Nat → Int32} (h : a ∈ A) : Fx A F M (sC M a f) := ⟨rfl, rfl, rfl, fun b j hb _ => ⟨congrFun (mI_sCn (fun e => hb (by rw [e]; exact h))) j, rfl⟩⟩
theorem cP_t {β : Type} {M : Mem} {a b n : Nat} {K : Mem → Option β} (ha : mT M a = (2, n)) (hb : mT M b = (2, n)) (hn : n < 2 ^ 31) : cP M (some a) 0 (some b) 0 (nI n) K = K (sC M b (va_cpy (mI M a) (mI M b) 0 0 n)) := by
  simp only [cP, ha, hb]
  rw [nI_clamp hn]
  have h0 : (0 : Int32).toNatClampNeg = 0 := rfl
  rw [h0, if_pos ⟨trivial, trivial, Int32.le_refl _, Int32.le_refl _, nI_ge0 hn, by omega, by omega⟩]
section IMAGE
variable {w h L nt : Nat} {s s' : Std} {τ : Nat → Txt} {tp : Nat → Nat} {ln : Nat} {fl fp : Int32} {M : Mem}
theorem x_stake {d e : Nat} (hb : Bs w h L nt τ M) (hde : (d = 13 ∧ e = 9) ∨ (d = 9 ∧ e = 13)) (hX : StX e s M) : ∃ M', f_X7_take (some d) (some e) M = some ((), M') ∧ Fx [d + 1, d + 2, d + 3] [(d, 3), (d, 4), (d, 5)] M M' ∧ StX d s M' := by
  have hl := hb.lay
  obtain ⟨x1, x2, x3, x4, x5, x6, x7⟩ := hX
  have go : ∀ (d e : Nat), (d ≠ e ∧ d + 1 ≠ e ∧ d + 2 ≠ e ∧ d + 3 ≠ e ∧ d + 1 ≠ e + 2 ∧ d + 2 ≠ e + 2 ∧ d + 3 ≠ e + 2 ∧ d + 2 ≠ e + 3 ∧ d + 3 ≠ e + 3 ∧ d + 1 ≠ e + 3 ∧ d + 2 ≠ e + 1 ∧ d + 3 ≠ e + 1 ∧ d + 1 ≠ e + 1 ∧ d ≠ e + 1 ∧ d ≠ e + 2 ∧ d ≠ e + 3) → mT M d = (1, 7) → mT M e = (1, 7) → mT M (d + 1) = (1, 4) → mT M (d + 2) = (2, 2) → mT M (e + 2) = (2, 2) → mT M (d + 3) = (2, 200) → mT M (e + 3) = (2, 200) → mR M d 0 = some (d + 1) → mR M e 0 = some (e + 1) → mR M d 1 = some (d + 2) → mR M e 1 = some (e + 2) → mR M d 2 = some (d + 3) → mR M e 2 = some (e + 3) → PosAt (e + 1) (stP s) M → mI M (e + 2) 0 = oI (stW0 s) → mI M (e + 2) 1 = oI (stW1 s) → (∀ i, i < 200 → mI M (e + 3) i = nI (stG s i)) → mI M e 3 = nI (stK s) → mI M e 4 = nI (stN s) → mI M e 5 = oI (stB s) → ∃ M', f_X7_take (some d) (some e) M = some ((), M') ∧ Fx [d + 1, d + 2, d + 3] [(d, 3), (d, 4), (d, 5)] M M' ∧ StX d s M' := by
    intro d e ne td te td1 td2 te2 td3 te3 rd0 re0 rd1 re1 rd2 re2 y1 y2 y3 y4 y5 y6 y7
    obtain ⟨n1, n2, n3, n4, n5, n6, n7, n8, n9, n10, n11, n12, n13, n14, n15, n16⟩ := ne
    have ht := x_take y1 td1
    generalize hM1 : sI (sI (sL M (d + 1) 0 (lN (enc 4 (stP s).1 12))) (d + 1) 1 (nI (enc 2 (stP s).2.1 8))) (d + 1) 2 (nI (stP s).2.2) = M1 at ht
    have f1 : Fx [d + 1, d + 2, d + 3] [(d, 3), (d, 4), (d, 5)] M M1 := by rw [← hM1]; exact ((Fx.wL (Or.inl (by simp))).I (Or.inl (by simp))).I (Or.inl (by simp))
    have p1 : PosAt (d + 1) (stP s) M1 := by rw [← hM1]; exact PosAt.took td1
    have g1 : Fx [d + 1] [] M M1 := by rw [← hM1]; exact ((Fx.wL (Or.inl (by simp))).I (Or.inl (by simp))).I (Or.inl (by simp))
    have kI : ∀ {b : Nat}, b ≠ d + 1 → mI M1 b = mI M b := fun hb => g1.ib ⟨by simpa using hb, by simp⟩
    have hT : mT M1 = mT M := f1.1
    have hR : mR M1 = mR M := f1.2.2.1
    unfold f_X7_take
    rw [gR_t td, rd0, gR_t te, re0, cR_t td1, ht, cA_s, gR_t (by rw [hT]; exact td), hR, rd1, gR_t (by rw [hT]; exact te), hR, re1, show (0 : Int32) = nI 0 from rfl, aI_t (by rw [hT]; exact te2) (by decide) (by decide), kI (fun q => n5 q.symm), y2, wI_t (by rw [hT]; exact td2) (by decide) (by decide)]
    rw [gR_t (by show mT M1 d = _; rw [hT]; exact td), show mR (sI M1 (d + 2) 0 (oI (stW0 s))) d 1 = some (d + 2) by rw [mR_sI, hR]; exact rd1, gR_t (by show mT M1 e = _; rw [hT]; exact te), show mR (sI M1 (d + 2) 0 (oI (stW0 s))) e 1 = some (e + 2) by rw [mR_sI, hR]; exact re1, show (1 : Int32) = nI 1 from rfl, aI_t (by show mT M1 (e + 2) = _; rw [hT]; exact te2) (by decide) (by decide), mI_na (fun q => n6 q.symm), kI (fun q => n5 q.symm), y3, wI_t (by show mT M1 (d + 2) = _; rw [hT]; exact td2) (by decide) (by decide)]
    generalize hM2 : sI (sI M1 (d + 2) 0 (oI (stW0 s))) (d + 2) 1 (oI (stW1 s)) = M2
    have f2 : Fx [d + 1, d + 2, d + 3] [(d, 3), (d, 4), (d, 5)] M M2 := by rw [← hM2]; exact (f1.I (Or.inl (by simp))).I (Or.inl (by simp))
    have g2 : Fx [d + 1, d + 2] [] M M2 := by rw [← hM2]; exact ((g1.mono (by simp) (by simp)).I (Or.inl (by simp))).I (Or.inl (by simp))
    have hT2 : mT M2 = mT M := f2.1
    have hR2 : mR M2 = mR M := f2.2.2.1
    rw [gR_t (by rw [hT2]; exact te), hR2, re2, gR_t (by rw [hT2]; exact td), hR2, rd2, gR_t (by rw [hT2]; exact td), hR2, rd2, aN_t (t := 2) (n := 200) (by rw [hT2]; exact td3) (by decide) (by decide) (by decide), show nI 0 = (0 : Int32) from rfl, cP_t (by rw [hT2]; exact te3) (by rw [hT2]; exact td3) (by decide)]
    generalize hM3 : sC M2 (d + 3) (va_cpy (mI M2 (e + 3)) (mI M2 (d + 3)) 0 0 200) = M3
    have f3 : Fx [d + 1, d + 2, d + 3] [(d, 3), (d, 4), (d, 5)] M M3 := by rw [← hM3]; exact f2.tr (Fx.wC (by simp))
    have g3 : Fx [d + 1, d + 2, d + 3] [] M M3 := by rw [← hM3]; exact (g2.mono (by intro q hq; simp at hq ⊢; omega) (by simp)).tr (Fx.wC (by simp))
    have hT3 : mT M3 = mT M := f3.1
    have eI : ∀ {b : Nat}, b ≠ d + 1 → b ≠ d + 2 → b ≠ d + 3 → mI M3 b = mI M b := fun h1 h2 h3 => g3.ib ⟨by simp; omega, by simp⟩
    rw [gI_t (by rw [hT3]; exact te), eI (fun q => n2 q.symm) (fun q => n3 q.symm) (fun q => n4 q.symm), y5, pI_t (by rw [hT3]; exact td), gI_t (by show mT M3 e = _; rw [hT3]; exact te), mI_na (fun q => n1 q.symm), eI (fun q => n2 q.symm) (fun q => n3 q.symm) (fun q => n4 q.symm), y6, pI_t (by show mT M3 d = _; rw [hT3]; exact td), gI_t (by show mT M3 e = _; rw [hT3]; exact te), mI_na (fun q => n1 q.symm), mI_na (fun q => n1 q.symm), eI (fun q => n2 q.symm) (fun q => n3 q.symm) (fun q => n4 q.symm), y7, pI_t (by show mT M3 d = _; rw [hT3]; exact td)]
    have f6 : Fx [d + 1, d + 2, d + 3] [(d, 3), (d, 4), (d, 5)] M (sI (sI (sI M3 d 3 (nI (stK s))) d 4 (nI (stN s))) d 5 (oI (stB s))) := ((f3.I (Or.inr (by simp))).I (Or.inr (by simp))).I (Or.inr (by simp))
    have off : ∀ {b : Nat}, b ≠ d → mI (sI (sI (sI M3 d 3 (nI (stK s))) d 4 (nI (stN s))) d 5 (oI (stB s))) b = mI M3 b := fun hb => by rw [mI_na hb, mI_na hb, mI_na hb]
    refine ⟨_, rfl, f6, ?_, ?_, ?_, ?_, ?_, ?_, ?_⟩
    · have q2 : PosAt (d + 1) (stP s) M2 := by
        rw [← hM2]
        exact (p1.fx (Fx.wI (A := [d + 2]) (F := []) (Or.inl (by simp))) ⟨by simp, by simp⟩).fx (Fx.wI (A := [d + 2]) (F := []) (Or.inl (by simp))) ⟨by simp, by simp⟩
      have q3 : PosAt (d + 1) (stP s) M3 := by
        rw [← hM3]
        exact q2.fx (Fx.wC (A := [d + 3]) (F := []) (by simp)) ⟨by simp, by simp⟩
      exact q3.fx (((Fx.wI (A := [d]) (F := []) (Or.inl (by simp))).I (Or.inl (by simp))).I (Or.inl (by simp))) ⟨by simp, by simp⟩
    · rw [off (by omega), ← hM3, mI_sCn (by omega), ← hM2, mI_nk (by decide), mI_e]
    · rw [off (by omega), ← hM3, mI_sCn (by omega), ← hM2, mI_e]
    · intro i hi
      rw [off (by omega), ← hM3, mI_sC]
      show (if 0 ≤ i ∧ i < 0 + 200 then mI M2 (e + 3) (0 + (i - 0)) else _) = _
      rw [if_pos ⟨Nat.zero_le _, by omega⟩, Nat.zero_add, Nat.sub_zero, g2.ib ⟨by simp; omega, by simp⟩]
      exact y4 i hi
    · rw [mI_nk (by decide), mI_nk (by decide), mI_e]
    · rw [mI_nk (by decide), mI_e]
    · rw [mI_e]
  rcases hde with ⟨rfl, rfl⟩ | ⟨rfl, rfl⟩
  · exact go 13 9 (by decide) (ly_t13 hl) (ly_t9 hl) (ly_t14 hl) (ly_t15 hl) (ly_t11 hl) (ly_t16 hl) (ly_t12 hl) (ly_r13_0 hl) (ly_r9_0 hl) (ly_r13_1 hl) (ly_r9_1 hl) (ly_r13_2 hl) (ly_r9_2 hl) x1 x2 x3 x4 x5 x6 x7
  · exact go 9 13 (by decide) (ly_t9 hl) (ly_t13 hl) (ly_t10 hl) (ly_t11 hl) (ly_t15 hl) (ly_t12 hl) (ly_t16 hl) (ly_r9_0 hl) (ly_r13_0 hl) (ly_r9_1 hl) (ly_r13_1 hl) (ly_r9_2 hl) (ly_r13_2 hl) x1 x2 x3 x4 x5 x6 x7
theorem y_copies_l {d e : Nat} {b : Int32} (hde : (b = 1 ∧ d = 232 ∧ e = 231) ∨ (b = 0 ∧ d = 231 ∧ e = 232)) {M0 : Mem} : ∀ (k n i : Nat) (M : Mem), i + k = 240 → k < n → Bs w h L nt τ M → Fx [d] [] M0 M → (∀ j, j < i → mI M d j = mI M0 e j) → ∃ M', f_X12_copies_2 n (some 230) b (nI i) M = some ((), M') ∧ Fx [d] [] M0 M' ∧ ∀ j, j < 240 → mI M' d j = mI M0 e j
  | k, 0, i, M => fun _ z => absurd z (by omega)
  | 0, n + 1, i, M => by
    intro hi _ hb fr hc
    obtain rfl : i = 240 := by omega
    refine ⟨M, ?_, fr, hc⟩
    rw [u_X12_copies_2]
    unfold b_X12_copies_2
    rw [if_pos (by decide)]
  | k + 1, n + 1, i, M => by
    intro hi hn hb fr hc
    have hl := hb.lay
    have hne : e ≠ d := by rcases hde with ⟨-, rfl, rfl⟩ | ⟨-, rfl, rfl⟩ <;> decide
    have okd : okA [d] = true := by rcases hde with ⟨-, rfl, rfl⟩ | ⟨-, rfl, rfl⟩ <;> decide
    have hv : mI M e i = mI M0 e i := by rw [fr.ib ⟨by simpa using hne, by simp⟩]
    have f1 : Fx [d] [] M (sI M d i (mI M0 e i)) := Fx.wI (Or.inl (by simp))
    obtain ⟨M', z1, z2, z3⟩ := y_copies_l (b := b) hde k n (i + 1) (sI M d i (mI M0 e i)) (by omega) (by omega) (hb.fx f1 okd (by decide)) (fr.tr f1) (fun j hj => by
      by_cases q : j = i
      · subst q; rw [mI_e]
      · rw [mI_nk q]; exact hc j (by omega))
    refine ⟨M', ?_, z2, z3⟩
    rw [u_X12_copies_2]
    unfold b_X12_copies_2
    rw [if_neg (show ¬ (240 : Int32) ≤ nI i from nI_ge (b := 240) (by omega) (by decide))]
    rcases hde with ⟨rfl, rfl, rfl⟩ | ⟨rfl, rfl, rfl⟩
    · rw [if_neg (by decide), gR_t (ly_t230 hl), ly_r230_4 hl, gR_t (ly_t230 hl), ly_r230_3 hl, aI_t (ly_t231 hl) (by omega) (by decide), hv, wI_t (ly_t232 hl) (by omega) (by decide), nI_1]
      exact z1
    · rw [if_pos rfl, gR_t (ly_t230 hl), ly_r230_3 hl, gR_t (ly_t230 hl), ly_r230_4 hl, aI_t (ly_t232 hl) (by omega) (by decide), hv, wI_t (ly_t231 hl) (by omega) (by decide), nI_1]
      exact z1
theorem StM.copy {d e : Nat} {M' : Mem} (hS : StM e s M) (hc : ∀ j, j < 240 → mI M' d j = mI M e j) : StM d s M' := by
  obtain ⟨a0, a1, a2, a3, a4, a5, a6, a7, a8⟩ := hS
  exact ⟨by rw [hc _ (by omega)]; exact a0, by rw [hc _ (by omega)]; exact a1, by rw [hc _ (by omega)]; exact a2, by rw [hc _ (by omega)]; exact a3, by rw [hc _ (by omega)]; exact a4, by rw [hc _ (by omega)]; exact a5, fun i hi => by rw [hc _ (by omega)]; exact a6 i hi, fun i hi => by rw [hc _ (by omega)]; exact a7 i hi, fun i hi => by rw [hc _ (by omega)]; exact a8 i hi⟩
theorem x_pn (hp : Pre w h L s τ M) : f_X11_piecesNow (some 8) M = some (nI (cntS (stP s).1 0 12 + cntS (stP s).1 1 12), M) := by
  have hl := hp.1.lay
  have h0 := x_pieces (s := 0) hp.2.2.1.1 hp.2.1.1.1 (by decide)
  have h1 := x_pieces (s := 1) hp.2.2.1.1 hp.2.1.1.1 (by decide)
  unfold f_X11_piecesNow
  rw [gR_t (ly_t8 hl), ly_r8_2 hl, gR_t (ly_t9 hl), ly_r9_0 hl, cR_t (ly_t10 hl), show (0 : Int32) = nI 0 from rfl, h0, cA_s, gR_t (ly_t8 hl), ly_r8_2 hl, gR_t (ly_t9 hl), ly_r9_0 hl, cR_t (ly_t10 hl), show (1 : Int32) = nI 1 from rfl, h1, cA_s, nI_add]
theorem y_pn (hb : Bs w h L nt τ M) (hS : StM 231 s M) (ok : okN w h (stP s)) : ∃ M', f_X12_pieces (some 230) M = some (nI (cntS (stP s).1 0 12 + cntS (stP s).1 1 12), M') ∧ Fx pA pF M M' := by
  obtain ⟨M1, a1, a2, a3⟩ := y_now hb hS
  have hb1 := hb.fx a2 (by decide) (by decide)
  refine ⟨M1, ?_, a2⟩
  unfold f_X12_pieces
  rw [cR_t (ly_t230 hb.lay), a1, cA_s, cR_t (ly_t230 hb1.lay), show (0 : Int32) = nI 0 from rfl, y_pieces hb1 a3 ok (by decide), cA_s, cR_t (ly_t230 hb1.lay), show (1 : Int32) = nI 1 from rfl, y_pieces hb1 a3 ok (by decide), cA_s, nI_add]
theorem c_image (hr : Rel0 w h L s s' τ tp ln fl fp M) : End w h L s τ M (f_X11_image (some 8)) (f_X12_image (some 230)) := by
  have hp := hr.1
  have hl := hp.1.lay
  obtain ⟨-, r2, r3, r4, r5, r6, r7, r8, r9, r10, r11, r12, r13⟩ := id hr
  obtain ⟨M1, a1, a2, a3⟩ := x_stake (d := 13) (e := 9) hp.1 (Or.inl ⟨rfl, rfl⟩) hp.2.2.1
  have hp1 : Pre w h L s τ M1 := hp.fx2 a2 (by decide)
  obtain ⟨M2, b1, b2, b3⟩ := y_copies_l (d := 232) (e := 231) (b := 1) (Or.inl ⟨rfl, rfl, rfl⟩) 240 FU 0 M1 (by omega) (by decide) hp1.1 Fx.rf (fun j hj => absurd hj (by omega))
  have hp2 : Pre w h L s τ M2 := hp1.fx2 b2 (by decide)
  obtain ⟨M3, c1, c2⟩ := y_pn hp2.1 hp2.2.2.2 hp.2.1.1
  have fr : Fx BA BF M M3 := ((a2.mono (by decide) (by decide)).tr (b2.mono (by decide) (by decide))).tr (c2.mono (by decide) (by decide))
  have fy : Fx [232, 254, 255] [(230, 45)] M1 M3 := (b2.mono (by decide) (by decide)).tr (c2.mono (by decide) (by decide))
  have fa : Fx [14, 15, 16, 232, 254, 255] [(13, 3), (13, 4), (13, 5), (230, 45)] M M3 := (a2.mono (by decide) (by decide)).tr (fy.mono (by decide) (by decide))
  refine ⟨nI (cntS (stP s).1 0 12 + cntS (stP s).1 1 12), M1, M3, s, s, tp, ln, fl, fp, ?_, ?_, ⟨hp2.fx2 c2 (by decide), hp.2.1, Nat.le_refl _, a3.fx fy (by decide) (by decide) (by decide) (by decide), (hp1.2.2.2.copy b3).fx c2 (by decide), r6, by rw [fa.i (by decide) (by decide)]; exact r7, by rw [fa.i (by decide) (by decide)]; exact r8, fun i hi => by rw [fa.ib (by decide), fa.ib (by decide)]; exact r9 i hi, by rw [fa.i (by decide) (by decide)]; exact r10, by rw [fa.i (by decide) (by decide)]; exact r11, by rw [fa.i (by decide) (by decide)]; exact r12, by rw [fa.i (by decide) (by decide)]; exact r13⟩, fr, rfl⟩
  · unfold f_X11_image
    rw [gR_t (ly_t8 hl), ly_r8_3 hl, gR_t (ly_t8 hl), ly_r8_2 hl, cR_t (ly_t13 hl), a1, cA_s, cR_t (ly_t8 hp1.1.lay), x_pn hp1, cA_s]
  · unfold f_X12_image
    have b1 : f_X12_copies (some 230) 1 M1 = some ((), M2) := b1
    rw [cR_t (ly_t230 hp1.1.lay), b1, cA_s, cR_t (ly_t230 hp2.1.lay), c1, cA_s]
end IMAGE
