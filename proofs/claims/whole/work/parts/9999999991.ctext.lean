/-! ===== text: both ===== -/
/-- what stands behind text(): new numbers, new references -/
def TP (nt b j : Nat) : Prop := IQ (rA nt) b j ∨ (b = 9 ∧ j = 4) ∨ TQ2 nt b j
def Gq (nt : Nat) (M M' : Mem) : Prop := mT M' = mT M ∧ mZ M' = mZ M ∧ (∀ b j, ¬ RQ (rA nt) b j → mR M' b j = mR M b j) ∧ ∀ b j, ¬ TP nt b j → mI M' b j = mI M b j ∧ mL M' b j = mL M b j
section GQ
variable {nt : Nat} {M M' M'' : Mem}
theorem Gq.tr (h : Gq nt M M') (h' : Gq nt M' M'') : Gq nt M M'' := ⟨h'.1.trans h.1, h'.2.1.trans h.2.1, fun b j hb => (h'.2.2.1 b j hb).trans (h.2.2.1 b j hb), fun b j hb => ⟨((h'.2.2.2 b j hb).1).trans (h.2.2.2 b j hb).1, ((h'.2.2.2 b j hb).2).trans (h.2.2.2 b j hb).2⟩⟩
theorem Fg.gq (h : Fg (rA nt) M M') : Gq nt M M' := ⟨h.1, h.2.1, h.2.2.1, fun b j hb => h.2.2.2 b j (fun z => hb (Or.inl z))⟩
theorem Fq.gq {P : Nat → Nat → Prop} (h : Fq P M M') (hs : ∀ b j, P b j → TP nt b j) : Gq nt M M' := ⟨h.1, h.2.1, fun b j _ => by rw [h.2.2.1], fun b j hb => h.2.2.2 b j (fun z => hb (hs b j z))⟩
theorem tq_b {b j : Nat} (h : TQ2 nt b j) : (243 ≤ b ∧ b ≤ 251) ∨ (b = 230 ∧ 6 ≤ j) ∨ (b = 231 ∧ j = 1) ∨ KT nt b j := by
  rcases h with h | h | h | h
  · simp only [List.mem_cons, List.not_mem_nil, or_false] at h
    omega
  · simp only [List.mem_cons, List.not_mem_nil, or_false, Prod.mk.injEq] at h
    omega
  · exact Or.inr (Or.inr (Or.inl h))
  · exact Or.inr (Or.inr (Or.inr h))
theorem tp_b {b j : Nat} (h : TP nt b j) : (b = 43 ∧ 1 ≤ j ∧ j ≤ 8) ∨ (50 + 25 * nt ≤ b ∧ b < 75 + 25 * nt) ∨ (b = 9 ∧ j = 4) ∨ (243 ≤ b ∧ b ≤ 251) ∨ (b = 230 ∧ 6 ≤ j) ∨ (b = 231 ∧ j = 1) ∨ KT nt b j := by
  rcases h with h | h | h
  · unfold IQ rA at h
    omega
  · omega
  · rcases tq_b h with h | h | h | h
    · omega
    · omega
    · omega
    · exact Or.inr (Or.inr (Or.inr (Or.inr (Or.inr (Or.inr h)))))
theorem rq_b {b j : Nat} (h : RQ (rA nt) b j) : (b = 43 ∧ j = 4) ∨ (50 + 25 * nt ≤ b ∧ b < 75 + 25 * nt) := by
  unfold RQ rA at h
  omega
theorem Gq.i (g : Gq nt M M') {b j : Nat} (hb : ¬ ((b = 43 ∧ 1 ≤ j ∧ j ≤ 8) ∨ (50 + 25 * nt ≤ b ∧ b < 75 + 25 * nt) ∨ (b = 9 ∧ j = 4) ∨ (243 ≤ b ∧ b ≤ 251) ∨ (b = 230 ∧ 6 ≤ j) ∨ (b = 231 ∧ j = 1) ∨ KT nt b j)) : mI M' b j = mI M b j := (g.2.2.2 b j (fun z => hb (tp_b z))).1
theorem Gq.l (g : Gq nt M M') {b j : Nat} (hb : ¬ ((b = 43 ∧ 1 ≤ j ∧ j ≤ 8) ∨ (50 + 25 * nt ≤ b ∧ b < 75 + 25 * nt) ∨ (b = 9 ∧ j = 4) ∨ (243 ≤ b ∧ b ≤ 251) ∨ (b = 230 ∧ 6 ≤ j) ∨ (b = 231 ∧ j = 1) ∨ KT nt b j)) : mL M' b j = mL M b j := (g.2.2.2 b j (fun z => hb (tp_b z))).2
theorem Gq.r (g : Gq nt M M') {b j : Nat} (hb : ¬ ((b = 43 ∧ j = 4) ∨ (50 + 25 * nt ≤ b ∧ b < 75 + 25 * nt))) : mR M' b j = mR M b j := g.2.2.1 b j (fun z => hb (rq_b z))
/-- a block that stays -/
theorem Gq.ib (g : Gq nt M M') {b : Nat} (hb : (10 ≤ b ∧ b < 43) ∨ (44 ≤ b ∧ b < 50 + 25 * nt) ∨ (200 ≤ b ∧ b < 230) ∨ b = 232 ∨ b = 233 ∨ 252 ≤ b ∨ b < 9) (hn : nt < 6) : mI M' b = mI M b := by
  funext j
  exact g.i (by unfold KT; omega)
theorem RulesAt.gq {r : Nat} {T : Txt} (hT : T.length ≤ 20) (h : RulesAt r T M) (eT : mT M' = mT M) (eI : ∀ i, i < 25 → mI M' (r + i) = mI M (r + i)) (eR : ∀ i, i < 25 → mR M' (r + i) = mR M (r + i)) : RulesAt r T M' := by
  obtain ⟨r1, r2, r3, r4⟩ := h
  refine ⟨by rw [show r = r + 0 from rfl, eI 0 (by decide)]; exact r1, fun i c hc => ?_, by rw [eR 2 (by decide)]; exact r3, by rw [eR 3 (by decide)]; exact r4⟩
  have hi : i < T.length := (List.getElem?_eq_some_iff.mp hc).1
  have e1 : mI M' (r + 5 + i) = mI M (r + 5 + i) := by
    rw [show r + 5 + i = r + (5 + i) by omega]
    exact eI _ (by omega)
  have e3 : mR M' (r + 5 + i) = mR M (r + 5 + i) := by
    rw [show r + 5 + i = r + (5 + i) by omega]
    exact eR _ (by omega)
  have e2 : mI M' (r + 4) = mI M (r + 4) := eI 4 (by decide)
  have e0 : mR M' r = mR M r := eR 0 (by decide)
  rw [e1, e3]
  obtain ⟨q1, q2, cs, c1, c2, c3, c4, c5, c6, c7, c8⟩ := r2 i c hc
  exact ⟨q1, q2, cs, by rw [eT]; exact c1, by rw [e0]; exact c2, by rw [eT]; exact c3, by rw [eT]; exact c4, by rw [e1]; exact c5, by rw [e1]; exact c6, c7, by rw [e2]; exact c8⟩
theorem TextM.gq {t : Nat} {T : Txt} (hT : T.length ≤ 20) (h : TextM t T M) (e4 : mI M' 234 t = mI M 234 t) (e5 : ∀ b k, 235 ≤ b → b ≤ 240 → k < 20 → mI M' b (20 * t + k) = mI M b (20 * t + k)) (e6 : ∀ b j, b = 241 ∨ b = 242 → j < 400 * (t + 1) → mI M' b j = mI M b j) : TextM t T M' := by
  obtain ⟨h1, h2⟩ := h
  refine ⟨by rw [e4]; exact h1, fun k c hc => ?_⟩
  have hk : k < T.length := (List.getElem?_eq_some_iff.mp hc).1
  obtain ⟨q1, q2, q3, q4, q5⟩ := h2 k c hc
  rw [e5 235 k (by decide) (by decide) (by omega), e5 236 k (by decide) (by decide) (by omega), e5 237 k (by decide) (by decide) (by omega), e5 238 k (by decide) (by decide) (by omega), e5 239 k (by decide) (by decide) (by omega), e5 240 k (by decide) (by decide) (by omega)]
  refine ⟨q1, q2, q3, q4, fun z => ?_⟩
  obtain ⟨off, p1, ⟨p2, p3, p4⟩, p5⟩ := q5 z
  exact ⟨off, p1, ⟨p2, fun j hj => by rw [e6 241 _ (Or.inl rfl) (by omega), e6 242 _ (Or.inr rfl) (by omega)]; exact p3 j hj, by rw [e6 241 _ (Or.inl rfl) (by omega)]; exact p4⟩, p5⟩
end GQ
section CTEXT
variable {w h L nt : Nat} {s s' : Std} {τ : Nat → Txt} {tp : Nat → Nat} {ln : Nat} {fl fp : Int32} {M M' : Mem}
theorem Bs.gq (hb : Bs w h L nt τ M) (hn : nt < 6) (g : Gq nt M M') (hl : Lay (w * h) L M') : Bs w h L nt τ M' := by
  obtain ⟨b1, b2, b3, b4, b5, b6⟩ := hb
  have hi : ∀ b, b < 9 ∨ (10 ≤ b ∧ b < 43) ∨ (44 ≤ b ∧ b < 50 + 25 * nt) ∨ (200 ≤ b ∧ b < 230) → mI M' b = mI M b := fun b hb => g.ib (by omega) hn
  have hr : ∀ b, (10 ≤ b ∧ b < 43) ∨ (44 ≤ b ∧ b < 50 + 25 * nt) → mR M' b = mR M b := fun b hb => by
    funext j
    exact g.r (by omega)
  refine ⟨b1, hl, ?_, b4.gq (by simp) g.1 (fun i hi' => hi _ (by omega)) (fun i hi' => hr _ (by omega)), b5, fun t ht => ?_⟩
  · unfold DimAt at *
    rw [hi 8 (by omega), hi 203 (by omega), hi 208 (by omega), hi 46 (by omega), g.i (b := 230) (j := 0) (by unfold KT; omega), g.i (b := 230) (j := 1) (by unfold KT; omega), g.i (b := 230) (j := 2) (by unfold KT; omega)]
    exact b3
  · obtain ⟨t1, t2, t3⟩ := b6 t ht
    refine ⟨t1, t2.gq t1.1 g.1 (fun i hi' => hi _ (by unfold rA; omega)) (fun i hi' => hr _ (by unfold rA; omega)), t3.gq t1.1 (g.i (by unfold KT; omega)) (fun b k h1 h2 hk => g.i (by unfold KT; omega)) (fun b j hb hj => g.i (by unfold KT; omega))⟩
abbrev gqA : List Nat := [9, 43, 50, 51, 52, 53, 54, 55, 56, 57, 58, 59, 60, 61, 62, 63, 64, 65, 66, 67, 68, 69, 70, 71, 72, 73, 74, 75, 76, 77, 78, 79, 80, 81, 82, 83, 84, 85, 86, 87, 88, 89, 90, 91, 92, 93, 94, 95, 96, 97, 98, 99, 100, 101, 102, 103, 104, 105, 106, 107, 108, 109, 110, 111, 112, 113, 114, 115, 116, 117, 118, 119, 120, 121, 122, 123, 124, 125, 126, 127, 128, 129, 130, 131, 132, 133, 134, 135, 136, 137, 138, 139, 140, 141, 142, 143, 144, 145, 146, 147, 148, 149, 150, 151, 152, 153, 154, 155, 156, 157, 158, 159, 160, 161, 162, 163, 164, 165, 166, 167, 168, 169, 170, 171, 172, 173, 174, 175, 176, 177, 178, 179, 180, 181, 182, 183, 184, 185, 186, 187, 188, 189, 190, 191, 192, 193, 194, 195, 196, 197, 198, 199, 230, 231, 234, 235, 236, 237, 238, 239, 240, 241, 242, 243, 244, 245, 246, 247, 248, 249, 250, 251]
theorem gqA_m : ∀ b, b < 252 → (b = 9 ∨ b = 43 ∨ (50 ≤ b ∧ b < 200) ∨ b = 230 ∨ b = 231 ∨ 234 ≤ b) → b ∈ gqA := by decide +kernel
/-- the memory with its old references -/
def oldR (M M' : Mem) : Mem := (M'.1, M'.2.1, M'.2.2.1, M'.2.2.2.1, M.2.2.2.2)
theorem Gq.fx (g : Gq nt M M') (hn : nt < 6) : Fx gqA [] M (oldR M M') := ⟨g.1, g.2.1, rfl, fun b j hb _ => by
  have := g.2.2.2 b j (fun z => hb (by
    have := tp_b z
    unfold KT at this
    exact gqA_m b (by omega) (by omega)))
  exact this⟩
theorem Cch.gq (hc : Cch w h nt τ M) (hn : nt < 6) (g : Gq nt M M') {τ' : Nat → Txt} {nt' : Nat} (hn' : nt ≤ nt') (hτ : ∀ t, t < nt → τ' t = τ t) : Cch w h nt' τ' M' := by
  have e11 : mR M' 211 11 = mR M 211 11 := g.r (by omega)
  rcases hc with q | ⟨x, r, v, q1, q2, q3⟩
  · exact Or.inl (by rw [e11]; exact q)
  · have q4 := q3.fx (g.fx hn) (by decide +kernel)
    refine Or.inr ⟨x, r, v, fun t ht => Nat.lt_of_lt_of_le (q1 t ht) hn', q2, ?_⟩
    have et : tT τ' x = tT τ x := by
      cases x with
      | none => rfl
      | some t => exact hτ t (q1 t rfl)
    unfold Sol at *
    rw [et]
    obtain ⟨z1, z2, z3⟩ := q4
    refine ⟨by rw [e11]; exact q3.1, z2, ?_⟩
    rcases z3 with y | ⟨y1, y2, Q, n, tg, u1, u2, u3, u4, u5, u6⟩
    · exact Or.inl y
    · exact Or.inr ⟨y1, y2, Q, n, tg, u1, u2, u3, u4, fun t ht => chn.ext (M := oldR M M') (M' := M') _ _ (fun _ _ => rfl) (u5 t ht), u6⟩
theorem StX.gq {st : Nat} (hs : StX st s M) (hn : nt < 6) (g : Gq nt M M') (h9 : st = 13) : StX st s M' := by
  subst h9
  obtain ⟨⟨p1, p2, p3, p4⟩, a2, a3, a4, a5, a6, a7⟩ := hs
  have hi : ∀ b, 10 ≤ b ∧ b < 43 → mI M' b = mI M b := fun b hb => g.ib (by omega) hn
  unfold StX PosAt
  rw [hi 13 (by omega), hi (13 + 1) (by omega), hi (13 + 2) (by omega), hi (13 + 3) (by omega), g.1, g.l (by unfold KT; omega)]
  exact ⟨⟨p1, p2, p3, p4⟩, a2, a3, a4, a5, a6, a7⟩
/-- the stand with one text more -/
def upN (s : Std) (n : Nat) : Std := (s.1, s.2.1, s.2.2.1, s.2.2.2.1, n, s.2.2.2.2.2)
theorem StX.gqN {n : Nat} (hs : StX 9 s M) (hn : nt < 6) (g : Gq nt M M') (h4 : mI M' 9 4 = nI n) : StX 9 (upN s n) M' := by
  obtain ⟨⟨p1, p2, p3, p4⟩, a2, a3, a4, a5, a6, a7⟩ := hs
  have hi : ∀ b, 10 ≤ b ∧ b < 43 → mI M' b = mI M b := fun b hb => g.ib (by omega) hn
  unfold StX PosAt
  rw [hi (9 + 1) (by omega), hi (9 + 2) (by omega), hi (9 + 3) (by omega), g.1, g.l (b := 9 + 1) (by unfold KT; omega), g.i (b := 9) (j := 3) (by unfold KT; omega), g.i (b := 9) (j := 5) (by unfold KT; omega)]
  exact ⟨⟨p1, p2, p3, p4⟩, a2, a3, a4, a5, h4, a7⟩
theorem StM.gqN {n : Nat} (hs : StM 231 s M) (hn : nt < 6) (g : Gq nt M M') (h4 : mI M' 231 1 = nI n) : StM 231 (upN s n) M' := by
  obtain ⟨a1, a2, a3, a4, a5, a6, a7, a8, a9⟩ := hs
  have hi : ∀ j, j ≠ 1 → mI M' 231 j = mI M 231 j := fun j hj => g.i (by unfold KT; omega)
  refine ⟨by rw [hi _ (by omega)]; exact a1, h4, by rw [hi _ (by omega)]; exact a3, by rw [hi _ (by omega)]; exact a4, by rw [hi _ (by omega)]; exact a5, by rw [hi _ (by omega)]; exact a6, fun m hm => by rw [hi _ (by omega)]; exact a7 m hm, fun m hm => by rw [hi _ (by omega)]; exact a8 m hm, fun m hm => by rw [hi _ (by omega)]; exact a9 m hm⟩
/-- all behind text() -/
theorem Rel.gq {n : Nat} {τ' : Nat → Txt} {fl2 fp2 : Int32} (hr : Rel w h L s s' τ tp ln fl fp M) (hn : stN s < 6) (g : Gq (stN s) M M') (hl : Lay (w * h) L M') (h9 : mI M' 9 4 = nI n) (h231 : mI M' 231 1 = nI n) (hnn : stN s ≤ n ∧ n ≤ 6) (hτ : ∀ t, t < stN s → τ' t = τ t) (hB : ∀ t, stN s ≤ t → t < n → okT (τ' t) ∧ RulesAt (rA t) (τ' t) M' ∧ TextM t (τ' t) M') (h43 : mI M' 43 1 = nI 0 ∧ mI M' 43 2 = fl2 ∧ mI M' 43 3 = fp2) (h230 : mI M' 230 6 = nI 0 ∧ mI M' 230 7 = fl2 ∧ mI M' 230 8 = fp2) : Rel w h L (upN s n) s' τ' tp 0 fl2 fp2 M' := by
  obtain ⟨⟨⟨hb, oks, hX, hM⟩, r2, r3, r4, r5, r6, r7, r8, r9, r10, r11, r12, r13⟩, hC⟩ := hr
  obtain ⟨o1, o2, o3, o4, o5, o6, o7⟩ := oks
  have hb' := hb.gq hn g hl
  have up : ∀ {x : Option Nat}, okX (stN s) x → okX n x := fun hx t ht => Nat.lt_of_lt_of_le (hx t ht) hnn.1
  refine ⟨⟨⟨⟨hb'.1, hl, hb'.2.2.1, hb'.2.2.2.1, hnn.2, fun t ht => ?_⟩, ⟨o1, up o2, up o3, up o4, hnn.2, o6, o7⟩, hX.gqN hn g h9, hM.gqN hn g h231⟩, r2, Nat.le_trans r3 hnn.1, r4.gq hn g rfl, ?_, by omega, h43.1, h230.1, fun i hi => absurd hi (by omega), h43.2.1, h43.2.2, h230.2.1, h230.2.2⟩, hC.gq hn g hnn.1 hτ⟩
  · by_cases z : t < stN s
    · rw [hτ t z]; exact hb'.2.2.2.2.2 t z
    · exact hB t (by omega) ht
  · unfold StM at *
    rw [g.ib (b := 232) (by omega) hn]
    exact r5
theorem upN_s : upN s (stN s) = s := rfl
theorem c_text (hr : Rel w h L s s' τ tp ln fl fp M) : ∃ r M1 M2 s2 τ2 ln2 fl2 fp2, f_X11_text (some 8) M = some (r, M1) ∧ f_X12_text (some 230) M1 = some (r, M2) ∧ Rel w h L s2 s' τ2 tp ln2 fl2 fp2 M2 ∧ mI M2 0 = mI M 0 ∧ mT M1 = mT M ∧ mI M1 0 = mI M 0 := by
  obtain ⟨⟨hp, r2, r3, r4, r5, r6, r7, r8, r9, r10, r11, r12, r13⟩, hC⟩ := id hr
  have hl := hp.1.lay
  have h6 := hp.2.1.2.2.2.2.1
  have hn := hp.2.2.1.2.2.2.2.2.1
  have hn2 := hp.2.2.2.2.1
  by_cases e6 : stN s = 6
  · refine ⟨-1, M, M, s, τ, ln, fl, fp, ?_, ?_, hr, rfl, rfl, rfl⟩
    · unfold f_X11_text
      rw [gR_t (ly_t8 hl), ly_r8_2 hl, gI_t (ly_t9 hl), hn, if_neg (nI_pos (by omega)), gR_t (ly_t8 hl), ly_r8_2 hl, gI_t (ly_t9 hl), hn, if_neg (show ¬ nI (stN s) < (6 : Int32) from nI_nlt (b := 6) (by omega) (by omega))]
    · unfold f_X12_text
      rw [gR_t (ly_t230 hl), ly_r230_3 hl, show (1 : Int32) = nI 1 from rfl, aI_t (ly_t231 hl) (by decide) (by decide), hn2, if_pos (show nI (stN s) = (6 : Int32) by rw [e6]; rfl)]
  have h6 : stN s < 6 := by omega
  have hra : isRA (rA (stN s)) := Or.inr ⟨stN s, h6, rfl⟩
  have hTX : TpeX tp ln M := ⟨r6, r7, fun i hi => ⟨(r9 i hi).1, (r9 i hi).2.1⟩⟩
  have rd := x_read (pl := w * h) (L := L) (r := rA (stN s)) hra hl hTX
  have r17 : mR M 17 (stN s) = some (rA (stN s)) := hl.2.2.2.1 _ h6
  have start : f_X11_text (some 8) M = cA (f_X5_read (some 43) (some (rA (stN s))) M) fun _ M1 => gR M1 (some 8) 11 6 fun v10 => gI M1 v10 5 2 fun v11 => (if v11 = 0 then gR M1 (some 8) 11 2 fun v12 => gI M1 v12 7 4 fun v13 => pI M1 v12 7 4 (v13 + (1 : Int32)) fun M2 => gR M2 (some 8) 11 2 fun v14 => gI M2 v14 7 4 fun v15 => some ((v15 - (1 : Int32)), M2) else some ((-1 : Int32), M1)) := by
    unfold f_X11_text
    rw [gR_t (ly_t8 hl), ly_r8_2 hl, gI_t (ly_t9 hl), hn, if_neg (nI_pos (by omega)), gR_t (ly_t8 hl), ly_r8_2 hl, gI_t (ly_t9 hl), hn, if_pos (show nI (stN s) < (6 : Int32) from nI_lt (b := 6) (by omega) (by decide)), gR_t (ly_t8 hl), ly_r8_6 hl, gR_t (ly_t8 hl), ly_r8_4 hl, gR_t (ly_t8 hl), ly_r8_2 hl, gI_t (ly_t9 hl), hn, aR_t (ly_t17 hl) h6 (by decide), r17, cR_t (ly_t43 hl)]
  -- what both have in common behind the class's call
  have side : ∀ {M1 : Mem}, Fg (rA (stN s)) M M1 → mI M1 230 6 = nI ln ∧ (∀ i, i < ln → tp i < 256 ∧ mI M1 233 i = b8 (tp i)) ∧ mI M1 231 1 = nI (stN s) ∧ mI M1 9 4 = nI (stN s) := fun {M1} fg => by
    have hq : ∀ b j, 200 ≤ b ∨ b < 18 → mI M1 b j = mI M b j := fun b j hb => (fg.2.2.2 b j (by unfold IQ rA; omega)).1
    exact ⟨by rw [hq _ _ (by omega)]; exact r8, fun i hi => ⟨(r9 i hi).1, by rw [hq _ _ (by omega)]; exact (r9 i hi).2.2⟩, by rw [hq _ _ (by omega)]; exact hn2, by rw [hq _ _ (by omega)]; exact hn⟩
  cases hp2 : pTx tp ln 301 0 [] with
  | inl e =>
    rw [hp2] at rd
    obtain ⟨M1, d1, d2, d3⟩ := rd
    have fg : Fg (rA (stN s)) M (sI M1 43 1 (0 : Int32)) := d2.tr (Fg.wI (Or.inl ⟨rfl, by decide, by decide⟩))
    have hl1 := hl.fg hra fg
    obtain ⟨s1, s2, s3, s4⟩ := side fg
    have yt := y_text h6 hl1 r6 s1 s2 s3
    rw [hp2] at yt
    obtain ⟨M2, y1, y2, y3, y4, y5, y6⟩ := yt
    have g : Gq (stN s) M M2 := fg.gq.tr ((y2.fq (P := TQ2 (stN s)) (fun b j z => z.elim Or.inl (fun y => Or.inr (Or.inl y)))).gq (fun b j z => Or.inr (Or.inr z)))
    have k2 : ∀ b j, b ∉ zA2 → (b, j) ∉ txF → mI M2 b j = mI (sI M1 43 1 (0 : Int32)) b j := fun b j h1 h2 => y2.i h1 h2
    refine ⟨m1, _, M2, upN s (stN s), τ, 0, nI e.1, nI (tSt tp ln e.2), ?_, y1, hr.gq h6 g y3 (by rw [k2 _ _ (by decide) (by decide)]; exact s4) (by rw [k2 _ _ (by decide) (by decide)]; exact s3) ⟨Nat.le_refl _, by omega⟩ (fun _ _ => rfl) (fun t h1 h2 => absurd h1 (by omega)) ⟨by rw [k2 _ _ (by decide) (by decide), mI_e]; rfl, by rw [k2 _ _ (by decide) (by decide), mI_nk (by decide)]; exact d3.2.2.2.2.1, by rw [k2 _ _ (by decide) (by decide), mI_nk (by decide)]; exact d3.2.2.2.2.2.1⟩ ⟨y4, y5, y6⟩, g.ib (by omega) h6, fg.1, fg.gq.ib (by omega) h6⟩
    rw [start, d1, cA_s, gR_t (ly_t8 hl1), ly_r8_6 hl1, gI_t (ly_t43 hl1), mI_nk (by decide), if_neg d3.nz]
    rfl
  | inr T =>
    rw [hp2] at rd
    obtain ⟨M1, a1, c1, d1, d2, d3, d4, d5⟩ := rd
    obtain ⟨M4, e1, e2, e3, e4⟩ := x_chain hra d3 d4 d5
    have fg4 : Fg (rA (stN s)) M M4 := d2.tr e2
    have hl4 := hl.fg hra fg4
    have fg : Fg (rA (stN s)) M (sI M4 43 1 (0 : Int32)) := fg4.tr (Fg.wI (Or.inl ⟨rfl, by decide, by decide⟩))
    have hl1 := hl.fg hra fg
    obtain ⟨s1, s2, s3, s4⟩ := side fg
    have fq9 : Fq (fun b j => b = 9 ∧ j = 4) (sI M4 43 1 (0 : Int32)) (sI (sI M4 43 1 (0 : Int32)) 9 4 (nI (stN s + 1))) := Fq.w ⟨rfl, rfl⟩
    have fx9 : Fx [] [(9, 4)] (sI M4 43 1 (0 : Int32)) (sI (sI M4 43 1 (0 : Int32)) 9 4 (nI (stN s + 1))) := Fx.wI (Or.inr (by decide))
    have hl6 := hl1.fx fx9 (by decide) (by decide)
    have g6 : Gq (stN s) M (sI (sI M4 43 1 (0 : Int32)) 9 4 (nI (stN s + 1))) := fg.gq.tr (fq9.gq (fun b j z => Or.inr (Or.inl z)))
    have yt := y_text (tp := tp) h6 hl6 r6 (by rw [mI_na (by decide)]; exact s1) (fun i hi => ⟨(s2 i hi).1, by rw [mI_na (by decide)]; exact (s2 i hi).2⟩) (by rw [mI_na (by decide)]; exact s3)
    rw [hp2] at yt
    obtain ⟨M2, y1, y2, y3, y4, y5, y6, y7, y8, y9⟩ := yt
    have g : Gq (stN s) M M2 := g6.tr (y2.gq (fun b j z => Or.inr (Or.inr z)))
    have k2 : ∀ b j, b < 200 → mI M2 b j = mI (sI (sI M4 43 1 (0 : Int32)) 9 4 (nI (stN s + 1))) b j := fun b j hb => y2.i (fun z => by
      have := tq_b z
      unfold KT at this
      omega)
    have hru : RulesAt (rA (stN s)) T M2 := e4.gq d4.1 (by rw [y2.1]; rfl) (fun i hi => by
      funext j
      rw [k2 _ _ (by unfold rA; omega), mI_na (by unfold rA; omega), mI_na (by unfold rA; omega)]) (fun i hi => by
      rw [y2.2.2.1]; rfl)
    refine ⟨nI (stN s), _, M2, upN s (stN s + 1), up1 τ (stN s) T, 0, nI 0, m1, ?_, y1, hr.gq h6 g y3 (by rw [k2 _ _ (by decide), mI_e]) y9 ⟨by omega, by omega⟩ (fun t ht => up1_n (by omega)) (fun t h1 h2 => ?_) ⟨by rw [k2 _ _ (by decide), mI_na (by decide), mI_e]; rfl, by rw [k2 _ _ (by decide), mI_na (by decide), mI_nk (by decide), e3]; exact d3.1.2.2.2.1.1, by rw [k2 _ _ (by decide), mI_na (by decide), mI_nk (by decide), e3]; exact d3.1.2.2.2.1.2⟩ ⟨y6, y7, y8⟩, g.ib (by omega) h6, g6.1, g6.ib (by omega) h6⟩
    · have h43 : mI (sI M4 43 1 (0 : Int32)) 43 2 = nI 0 := by rw [mI_nk (by decide), e3]; exact d3.1.2.2.2.1.1
      rw [start, d1, e1, cA_s, pI_t (ly_t43 hl4), cA_s, gR_t (ly_t8 hl1), ly_r8_6 hl1, gI_t (ly_t43 hl1), h43, if_pos (show nI 0 = (0 : Int32) from rfl), gR_t (ly_t8 hl1), ly_r8_2 hl1, gI_t (ly_t9 hl1), s4, nI_1, pI_t (ly_t9 hl1), gR_t (ly_t8 hl6), ly_r8_2 hl6, gI_t (ly_t9 hl6), mI_e, m1_dn]
    · obtain rfl : t = stN s := by omega
      rw [up1_s]
      exact ⟨y5, hru, y4⟩
end CTEXT
