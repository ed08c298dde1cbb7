/-! ===== games by ways, in both ===== -/
theorem mem3_q : ∀ q ∈ TQ, mem3.filter (tch q) = [qx q, qy q, qz q] := by decide +kernel
section GOES
variable {w h L nt : Nat} {τ : Nat → Txt} {π : Pos}
theorem y_gstep {M : Mem} {f : Nat → Int} {q n j : Nat} {v : Int32} {b : Option Nat} (hb : Bs w h L nt τ M) (hW : ∀ i, i < 8 → mL M 259 i = i64 (f i)) (hf : ∀ i, i < 8 → vl (f i)) (hq : q < 512) (hj : j < 3) (hb8 : ∀ r, b = some r → r < 8) : f_X12_greatest_5 (n + 1) (some 230) (nI q) v (oI b) (nI j) M = f_X12_greatest_5 n (some 230) (nI q) v (oI (if nI (q / 2 ^ (3 * j) % 8) = v then b else upG f b (q / 2 ^ (3 * j) % 8))) (nI j + -1) M := by
  have hl := hb.lay
  have hm8 : q / 2 ^ (3 * j) % 8 < 8 := Nat.mod_lt _ (by decide)
  have e : (nI q >>> (((3 : Int32) * nI j) &&& 31)) &&& (7 : Int32) = nI (q / 2 ^ (3 * j) % 8) := by
    rw [show (3 : Int32) * nI j = nI (3 * j) from pk_mul 3 j, pk_shrN (by omega) _ (3 * j) (s_l _ (by omega)), nI_mask _ 3 (by decide) (by decide)]
  rw [u_X12_greatest_5]
  unfold b_X12_greatest_5
  rw [if_neg (nI_pos (by omega)), e]
  generalize q / 2 ^ (3 * j) % 8 = m at *
  by_cases hv : nI m = v
  · rw [if_pos hv, if_pos hv]
  · rw [if_neg hv, if_neg hv]
    cases b with
    | none => rw [oI_n, if_pos (show m1 = -1 from rfl)]; rfl
    | some r =>
      have hr := hb8 r rfl
      rw [oI_s, if_neg (show ¬ nI r = -1 from fun z => (nI_nm1 (by omega)).mp z), gR_t (ly_t230 hl), ly_r230_54 hl, aL_t (ly_t259 hl) hm8 (by decide), hW m hm8, gR_t (ly_t230 hl), ly_r230_54 hl, aL_t (ly_t259 hl) hr (by decide), hW r hr]
      unfold upG
      dsimp only
      by_cases hlt : f r < f m
      · rw [if_neg (fun z => by have := (i64_le (hf m hm8).sm.bg (hf r hr).sm.bg).mp ((lg_cmp_le _ _).mp z); omega), if_pos hlt, oI_s]
      · rw [if_pos ((lg_cmp_le _ _).mpr ((i64_le (hf m hm8).sm.bg (hf r hr).sm.bg).mpr (by omega))), if_neg hlt, oI_s]
theorem y_great {M : Mem} {f : Nat → Int} {q : Nat} {v : Int32} (hb : Bs w h L nt τ M) (hW : ∀ i, i < 8 → mL M 259 i = i64 (f i)) (hf : ∀ i, i < 8 → vl (f i)) (hq : q < 512) : f_X12_greatest (some 230) (nI q) v M = some (oI (grt f (fun m => !decide (nI m = v)) [qx q, qy q, qz q] none), M) := by
  have ex : q / 2 ^ (3 * 2) % 8 = qx q := by unfold qx; omega
  have ey : q / 2 ^ (3 * 1) % 8 = qy q := by unfold qy; omega
  have ez : q / 2 ^ (3 * 0) % 8 = qz q := by unfold qz; omega
  have lt : ∀ {b : Option Nat} {m : Nat}, m < 8 → (∀ r, b = some r → r < 8) → ∀ r, (if nI m = v then b else upG f b m) = some r → r < 8 := by
    intro b m hm hb r e
    split at e
    · exact hb r e
    · rcases upG_mem e with rfl | e
      · exact hm
      · exact hb r e
  have hx8 : qx q < 8 := by unfold qx; omega
  have hy8 : qy q < 8 := by unfold qy; omega
  have hz8 : qz q < 8 := by unfold qz; omega
  have h1 : ∀ r, (if nI (qx q) = v then none else upG f none (qx q)) = some r → r < 8 := lt hx8 (fun r e => by cases e)
  have h2 := lt hy8 h1
  unfold f_X12_greatest
  rw [show FU = 999999996 + 1 + 1 + 1 + 1 from rfl, show (-1 : Int32) = oI none from rfl, show (2 : Int32) = nI 2 from rfl, y_gstep hb hW hf hq (by decide) (fun r e => by cases e), ex]
  rw [show nI 2 + -1 = nI 1 by decide, y_gstep hb hW hf hq (by decide) h1, ey, show nI 1 + -1 = nI 0 by decide, y_gstep hb hW hf hq (by decide) h2, ez, u_X12_greatest_5]
  unfold b_X12_greatest_5
  rw [if_pos (by decide), grt_u, grt_u, grt_u]
  have sw : ∀ {b : Option Nat} {m : Nat}, (if (!decide (nI m = v)) = true then upG f b m else b) = if nI m = v then b else upG f b m := by
    intro b m
    by_cases e : nI m = v <;> simp [e]
  rw [sw, sw, sw]
  rfl
theorem grt_no {T V : Txt} {q : Nat} (hq : q ∈ TQ) (hin : inq (ablS w h T π) q = true) : grt (wgS w h T V π 14) (fun m => !decide (nI m = m1)) [qx q, qy q, qz q] none = some (wayN w h T V π q) := by
  rw [← (wayN_ok (w := w) (h := h) (T := T) (V := V) (π := π) hq).1]
  have h1 : grt (wgX w h T V π 14) (tch q) mem3 none = grt (wgX w h T V π 14) (fun _ => true) [qx q, qy q, qz q] none := by
    rw [← mem3_q q hq, grt_filter]
    simp
  rw [h1]
  obtain ⟨h3, h4⟩ := TQ_tri q hq
  obtain ⟨h5, h6, h7⟩ := tri_lt h4 h3
  have hmem : ∀ m, m ∈ [qx q, qy q, qz q] → tch q m = true := fun m hm => by
    unfold tch
    simp only [List.mem_cons, List.not_mem_nil, or_false] at hm
    rcases hm with rfl | rfl | rfl <;> simp
  apply grt_congr
  · intro m hm
    have := tch_lt hq (hmem m hm)
    have hn : ¬ nI m = m1 := fun z => (nI_nm1 (by omega)).mp z
    simp [hn]
  · intro m hm _
    unfold wgX
    rw [if_pos (inq_at hin (hmem m hm))]
  · intro r e
    cases e
theorem grt_dn {T W : Txt} {q n : Nat} (hq : q ∈ TQ) (hin : inq (ablS w h T π) q = true) (hn : n < 8) : grt (wgS w h T W π 15) (fun m => !decide (nI m = nI n)) [qx q, qy q, qz q] none = some (wayD w h T W π q n) := by
  rw [← (wayD_ok (w := w) (h := h) (T := T) (W := W) (π := π) (n := n) hq).1]
  have h1 : grt (wgX w h T W π 15) (fun m => tch q m && !(m == n)) mem3 none = grt (wgX w h T W π 15) (fun m => !(m == n)) [qx q, qy q, qz q] none := by
    rw [← mem3_q q hq, grt_filter]
  rw [h1]
  have hmem : ∀ m, m ∈ [qx q, qy q, qz q] → tch q m = true := fun m hm => by
    unfold tch
    simp only [List.mem_cons, List.not_mem_nil, or_false] at hm
    rcases hm with rfl | rfl | rfl <;> simp
  apply grt_congr
  · intro m hm
    have h8 := tch_lt hq (hmem m hm)
    by_cases e : m = n
    · subst e; simp
    · have : ¬ nI m = nI n := nIne (by omega) (by omega) e
      simp [e, this]
  · intro m hm _
    unfold wgX
    rw [if_pos (inq_at hin (hmem m hm))]
  · intro r e
    cases e
abbrev goA : List Nat := [252, 253, 254, 255, 259]
abbrev goF : List (Nat × Nat) := [(230, 45), (230, 46), (230, 47)]
theorem y_byWays {M : Mem} {x y z : Option Nat} (hb : Bs w h L nt τ M) (hM : MPos π M) (ok : okN w h π) (hx : okX nt x) (hy : okX nt y) (hz : okX nt z) (hB : mI M 231 2 = oI x) (hO : mI M 231 (3 + π.2.2) = oI y) (hT : mI M 231 (4 - π.2.2) = oI z) (hL : LaidAt (canS w h (tT τ x) π) (ablS w h (tT τ x) π) 8 M) (ho : ¬ popC (ablS w h (tT τ x) π) 8 < 3) : ∃ M', f_X12_goesByWays (some 230) M = some ((), M') ∧ Fx goA goF M M' ∧ MPos (sucS w h (tT τ x) π (wPN w h (tT τ x) (tT τ y) (tT τ z) π) (wPD w h (tT τ x) (tT τ y) (tT τ z) π)) M' := by
  have hl := hb.lay
  have ht := ok.1.2.2.2
  have hs := hM.2.2
  obtain ⟨v, q1, q2, q3⟩ := wayQ_ok (W := tT τ y) ho
  have q4 : inq (ablS w h (tT τ x) π) (wayQ w h (tT τ x) (tT τ y) π) = true := by
    unfold inq at q3 ⊢
    simp only [Bool.and_eq_true] at q3 ⊢
    exact ⟨⟨alw_abl q3.1.1, alw_abl q3.1.2⟩, alw_abl q3.2⟩
  have hq := (TQ_tri _ q2).1
  obtain ⟨w1, w2, w3, w4⟩ := wP_ok (W := tT τ y) (V := tT τ z) ho
  obtain ⟨M1, a1, a2⟩ := y_offerBy hb hM ok hx hy hL ho
  have hb1 := hb.fx a2 (by decide) (by decide)
  have hM1 := hM.fx a2 (by decide) (by decide)
  have hL1 := hL.fx a2 (by decide) (by decide)
  obtain ⟨M2, b1, b2, b3⟩ := y_worth hb1 hM1 ok hx hz (k := 14) (by decide) hL1
  have hb2 := hb1.fx b2 (by decide) (by decide)
  have hM2 := hM1.fx b2 (by decide) (by decide)
  have hL2 := hL1.fx b2 (by decide) (by decide)
  have c1 := y_great (v := m1) hb2 b3 (fun i hi => wgS_vl hb.1 (hb.okT hx) (hb.okT hz) ok.1 hi (by decide)) hq
  rw [grt_no q2 q4, oI_s] at c1
  have c1 : f_X12_greatest (some 230) (nI (wayQ w h (tT τ x) (tT τ y) π)) m1 M2 = some (nI (wPN w h (tT τ x) (tT τ y) (tT τ z) π), M2) := c1
  obtain ⟨M3, d1, d2, d3⟩ := y_worth hb2 hM2 ok hx hy (k := 15) (by decide) hL2
  have hb3 := hb2.fx d2 (by decide) (by decide)
  have hM3 := hM2.fx d2 (by decide) (by decide)
  have hL3 := hL2.fx d2 (by decide) (by decide)
  have e1 := y_great (v := nI (wPN w h (tT τ x) (tT τ y) (tT τ z) π)) hb3 d3 (fun i hi => wgS_vl hb.1 (hb.okT hx) (hb.okT hy) ok.1 hi (by decide)) hq
  rw [grt_dn q2 q4 w1, oI_s] at e1
  have e1 : f_X12_greatest (some 230) (nI (wayQ w h (tT τ x) (tT τ y) π)) (nI (wPN w h (tT τ x) (tT τ y) (tT τ z) π)) M3 = some (nI (wPD w h (tT τ x) (tT τ y) (tT τ z) π), M3) := e1
  obtain ⟨g1, bb, g2⟩ := abl_can w4
  obtain ⟨f1, f2, f3⟩ := hL3.2 _ w2
  have fr : Fx goA goF M M3 := ((a2.mono (by decide) (by decide)).tr (b2.mono (by decide) (by decide))).tr (d2.mono (by decide) (by decide))
  obtain ⟨M4, p1, p2, p3⟩ := y_plays hb3 hM3 ok hx (by rw [fr.ib (by decide)]; exact hB) w1 w2 w3 g1 g2 f1 f2 f3
  refine ⟨M4, ?_, fr.tr (p2.mono (by decide) (by decide)), p3⟩
  unfold f_X12_goesByWays
  rw [gR_t (ly_t230 hl), ly_r230_3 hl, gI_t (ly_t230 hl), hs, show (3 : Int32) = nI 3 from rfl, nI_add, aI_t (ly_t231 hl) (by omega) (by decide), hO, cR_t (ly_t230 hl), a1, cA_s]
  rw [gR_t (ly_t230 hb1.lay), ly_r230_3 hb1.lay, gI_t (ly_t230 hb1.lay), hM1.2.2, show (4 : Int32) = nI 4 from rfl, pk_sub (by omega), aI_t (ly_t231 hb1.lay) (by omega) (by decide), a2.ib (by decide), hT, cR_t (ly_t230 hb1.lay), show nI 3 = nI (mwd 14) from rfl, b1, cA_s, cR_t (ly_t230 hb2.lay), show (-1 : Int32) = m1 from rfl, c1, cA_s]
  rw [gR_t (ly_t230 hb2.lay), ly_r230_3 hb2.lay, gI_t (ly_t230 hb2.lay), hM2.2.2, show nI (mwd 14) = nI 3 from rfl, nI_add, aI_t (ly_t231 hb2.lay) (by omega) (by decide), b2.ib (by decide), a2.ib (by decide), hO, cR_t (ly_t230 hb2.lay), show nI 4 = nI (mwd 15) from rfl, d1, cA_s, cR_t (ly_t230 hb3.lay), e1, cA_s, cR_t (ly_t230 hb3.lay), p1, cA_s]
end GOES
