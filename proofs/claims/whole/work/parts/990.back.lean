/-! ===== back ===== -/
theorem mR_n11 {M : Mem} {v : Option Nat} {b j : Nat} (h : ¬ (b = 211 ∧ j = 11)) : mR (sR M 211 11 v) b j = mR M b j := by rw [mR_s, if_neg h]
theorem xr_n11 : ∀ q ∈ xrefs, ¬ (q.1 = 211 ∧ q.2.1 = 11) := by decide
theorem ra_lt {r : Nat} (hr : isRA r) : r ≤ 175 := by
  rcases hr with rfl | ⟨t, ht, rfl⟩
  · decide
  · unfold rA; omega
theorem Lay.r11 {pl L : Nat} {M : Mem} {v : Option Nat} (hl : Lay pl L M) : Lay pl L (sR M 211 11 v) := by
  obtain ⟨l1, l2, l3, l4, l5, l6, l7, l8, l9, l10, l11, l12, l13⟩ := hl
  refine ⟨l1, l2, fun q hq => by rw [mR_n11 (xr_n11 q hq)]; exact l3 q hq, fun t ht => by rw [mR_n11 (by omega)]; exact l4 t ht, fun r hr => ?_, l6, by rw [mR_n11 (by omega)]; exact l7, by rw [mR_n11 (by omega)]; exact l8, l9, l10, l11, l12, l13⟩
  have := ra_lt hr
  obtain ⟨a, b, c, d, e⟩ := l5 r hr
  exact ⟨by rw [mR_n11 (by omega)]; exact a, by rw [mR_n11 (by omega)]; exact b, by rw [mR_n11 (by omega)]; exact c, by rw [mR_n11 (by omega)]; exact d, fun i hi => by rw [mR_n11 (by omega)]; exact e i hi⟩
theorem RulesAt.r11 {r : Nat} {T : Txt} {M : Mem} {v : Option Nat} (hr : isRA r) (hT : T.length ≤ 20) (h : RulesAt r T M) : RulesAt r T (sR M 211 11 v) := by
  have hle := ra_lt hr
  obtain ⟨r1, r2, r3, r4⟩ := h
  refine ⟨r1, fun i c hc => ?_, fun m hm => by rw [mR_n11 (by omega)]; exact r3 m hm, fun y hy => by rw [mR_n11 (by omega)]; exact r4 y hy⟩
  have hi : i < T.length := (List.getElem?_eq_some_iff.mp hc).1
  obtain ⟨q1, q2, cs, c1, c2, c3, c4, c5, c6, c7, c8⟩ := r2 i c hc
  refine ⟨q1, fun h0 => ?_, cs, c1, by rw [mR_n11 (by omega)]; exact c2, c3, c4, c5, c6, c7, c8⟩
  obtain ⟨f2, f3, f4, f5, f8⟩ := q2 h0
  exact ⟨f2, f3, f4, f5, by rw [mR_n11 (by omega)]; exact f8⟩
theorem Bs.r11 {w h L nt : Nat} {τ : Nat → Txt} {M : Mem} {v : Option Nat} (hb : Bs w h L nt τ M) : Bs w h L nt τ (sR M 211 11 v) := by
  obtain ⟨b1, b2, b3, b4, b5, b6⟩ := hb
  exact ⟨b1, b2.r11, b3, b4.r11 (Or.inl rfl) (by simp), b5, fun t ht => ⟨(b6 t ht).1, (b6 t ht).2.1.r11 (Or.inr ⟨t, by omega, rfl⟩) (b6 t ht).1.1, (b6 t ht).2.2⟩⟩
theorem Bs.le {w h L nt nt' : Nat} {τ : Nat → Txt} {M : Mem} (hb : Bs w h L nt τ M) (hn : nt' ≤ nt) : Bs w h L nt' τ M := by
  obtain ⟨b1, b2, b3, b4, b5, b6⟩ := hb
  exact ⟨b1, b2, b3, b4, by omega, fun t ht => b6 t (by omega)⟩
section BACK
variable {w h L : Nat} {s s' : Std} {τ : Nat → Txt} {tp : Nat → Nat} {ln : Nat} {fl fp : Int32} {M : Mem}
theorem c_back (hr : Rel0 w h L s s' τ tp ln fl fp M) : ∃ r M1 M2, f_X11_back (some 8) M = some (r, M1) ∧ f_X12_back (some 230) M1 = some (r, M2) ∧ Rel0 w h L s' s' τ tp ln fl fp M2 ∧ mR M2 211 11 = none := by
  have hp := hr.1
  have hl := hp.1.lay
  obtain ⟨-, r2, r3, r4, r5, r6, r7, r8, r9, r10, r11, r12, r13⟩ := id hr
  obtain ⟨M1, a1, a2, a3⟩ := x_stake (d := 9) (e := 13) hp.1 (Or.inr ⟨rfl, rfl⟩) r4
  have hb1 := hp.1.fx a2 (by decide) (by decide)
  have hbF : Bs w h L (stN s) τ (sR M1 211 11 none) := hb1.r11
  obtain ⟨M2, b1, b2, b3⟩ := y_copies_l (d := 231) (e := 232) (b := 0) (Or.inr ⟨rfl, rfl, rfl⟩) 240 FU 0 (sR M1 211 11 none) (by omega) (by decide) hbF Fx.rf (fun j hj => absurd hj (by omega))
  have hb2 := hbF.fx b2 (by decide) (by decide)
  have h232 : StM 232 s' (sR M1 211 11 none) := by
    have q := r5.fx a2 (by decide)
    exact q
  have hS2 : StM 231 s' M2 := h232.copy b3
  obtain ⟨M3, c1, c2⟩ := y_pn hb2 hS2 r2.1
  have fy : Fx [231, 254, 255] [(230, 45)] (sR M1 211 11 none) M3 := (b2.mono (by decide) (by decide)).tr (c2.mono (by decide) (by decide))
  have hX1 : StX 9 s' (sR M1 211 11 none) := a3
  have hPx : Pre w h L s' τ M3 := ⟨(hb2.fx c2 (by decide) (by decide)).le r3, r2, hX1.fx fy (by decide) (by decide) (by decide) (by decide), hS2.fx c2 (by decide)⟩
  have hK1 : StX 13 s' (sR M1 211 11 none) := by
    have q := r4.fx a2 (by decide) (by decide) (by decide) (by decide)
    exact q
  have hpn : f_X11_piecesNow (some 8) (sR M1 211 11 none) = some (nI (cntS (stP s').1 0 12 + cntS (stP s').1 1 12), sR M1 211 11 none) := by
    have hlF := hbF.lay
    have h0 := x_pieces (s := 0) hX1.1 r2.1.1 (by decide)
    have h1 := x_pieces (s := 1) hX1.1 r2.1.1 (by decide)
    unfold f_X11_piecesNow
    rw [gR_t (ly_t8 hlF), ly_r8_2 hlF, gR_t (ly_t9 hlF), ly_r9_0 hlF, cR_t (ly_t10 hlF), show (0 : Int32) = nI 0 from rfl, h0, cA_s, gR_t (ly_t8 hlF), ly_r8_2 hlF, gR_t (ly_t9 hlF), ly_r9_0 hlF, cR_t (ly_t10 hlF), show (1 : Int32) = nI 1 from rfl, h1, cA_s, nI_add]
  have rI : ∀ {b j : Nat}, b ∉ [231, 254, 255] → (b, j) ∉ [(230, 45)] → b ∉ [10, 11, 12] → (b, j) ∉ [(9, 3), (9, 4), (9, 5)] → mI M3 b j = mI M b j := fun h1 h2 h3 h4 => by
    rw [fy.i h1 h2, mI_sR, a2.i h3 h4]
  refine ⟨nI (cntS (stP s').1 0 12 + cntS (stP s').1 1 12), sR M1 211 11 none, M3, ?_, ?_, ⟨hPx, r2, Nat.le_refl _, hK1.fx fy (by decide) (by decide) (by decide) (by decide), h232.fx fy (by decide), r6, by rw [rI (by decide) (by decide) (by decide) (by decide)]; exact r7, by rw [rI (by decide) (by decide) (by decide) (by decide)]; exact r8, fun i hi => ?_, by rw [rI (by decide) (by decide) (by decide) (by decide)]; exact r10, by rw [rI (by decide) (by decide) (by decide) (by decide)]; exact r11, by rw [rI (by decide) (by decide) (by decide) (by decide)]; exact r12, by rw [rI (by decide) (by decide) (by decide) (by decide)]; exact r13⟩, ?_⟩
  · unfold f_X11_back f_X8_forget
    rw [gR_t (ly_t8 hl), ly_r8_2 hl, gR_t (ly_t8 hl), ly_r8_3 hl, cR_t (ly_t9 hl), a1, cA_s, gR_t (ly_t8 hb1.lay), ly_r8_10 hb1.lay, cR_t (ly_t211 hb1.lay), pR_t (ly_t211 hb1.lay), cA_s, cR_t (ly_t8 hbF.lay), hpn, cA_s]
  · unfold f_X12_back
    have b1 : f_X12_copies (some 230) 0 (sR M1 211 11 none) = some ((), M2) := b1
    rw [cR_t (ly_t230 hbF.lay), b1, cA_s, cR_t (ly_t230 hb2.lay), c1, cA_s]
  · have e1 : mI M3 44 = mI M 44 := by rw [fy.ib (by decide), mI_sR, a2.ib (by decide)]
    have e2 : mI M3 233 = mI M 233 := by rw [fy.ib (by decide), mI_sR, a2.ib (by decide)]
    rw [e1, e2]
    exact r9 i hi
  · rw [fy.2.2.1, mR_s]; simp
end BACK
