/-! ===== the reference reads clauses ===== -/
def NwC (k : Nat) (c : Cl) (O : List (Nat × Nat)) (M : Mem) : Prop := mI M 247 k = nI (mwd (cTy c)) ∧ (cTy c = 0 → mI M 249 (4 * k) = nI (cMv c) ∧ mI M 249 (4 * k + 1) = nI (cAc c - 7) ∧ mI M 249 (4 * k + 2) = nI (cKd c) ∧ mI M 249 (4 * k + 3) = nI (cDr c)) ∧ (cCd c = [] → mI M 248 k = m1) ∧ (cCd c ≠ [] → ∃ P Q, O = P ++ (cod (cCd c) ++ [(408, 0)]) ++ Q ∧ mI M 248 k = nI P.length)
def NwM (T : Txt) (O : List (Nat × Nat)) (M : Mem) : Prop := mI M 230 33 = nI T.length ∧ ∀ (k : Nat) (c : Cl), T[k]? = some c → NwC k c O M
theorem NwC.kep {k n : Nat} {c : Cl} {O R : List (Nat × Nat)} {M M' : Mem} (h : NwC k c O M) (kp : (∀ j, j < n → mI M' 247 j = mI M 247 j ∧ mI M' 248 j = mI M 248 j) ∧ ∀ j, j < 4 * n → mI M' 249 j = mI M 249 j) (hk : k < n) : NwC k c (O ++ R) M' := by
  obtain ⟨h1, h2, h3, h4⟩ := h
  obtain ⟨k1, k2⟩ := kp
  refine ⟨by rw [(k1 k hk).1]; exact h1, fun z => ?_, fun z => by rw [(k1 k hk).2]; exact h3 z, fun z => ?_⟩
  · rw [k2 _ (by omega), k2 _ (by omega), k2 _ (by omega), k2 _ (by omega)]; exact h2 z
  · obtain ⟨P, Q, e1, e2⟩ := h4 z
    exact ⟨P, Q ++ R, by rw [e1, List.append_assoc], by rw [(k1 k hk).2]; exact e2⟩
section YCL
variable {pl L : Nat} {tp : Nat → Nat} {ln : Nat}
theorem S_end {l kf a1 n : Nat} {X O : List (Nat × Nat)} {M : Mem} (hl : (l = 0 ∧ kf = 2) ∨ (l = 3 ∧ kf = 1)) (h : CfM pl L tp ln (stE l) a1 0 [(kf, 0)] X O M) (ht : tTk tp ln a1 = 34) (hn : mI M 230 33 = nI n) (hX : ∀ x, x ∈ X → x.2 = 1) (hX2 : X.length ≤ 2) (hO : O.length < 390) (ha : a1 ≤ ln) : ∃ M', Rn 1 M M' ∧ Fx zA2 zF2 M M' ∧ CfM pl L tp ln 4 (tNx tp ln a1) 0 [] [] (O ++ (cod (ops X) ++ [(408, 0)])) M' ∧ mI M' 230 33 = nI (n + 1) ∧ mI M' 247 = mI M 247 ∧ mI M' 248 = mI M 248 ∧ mI M' 249 = mI M 249 := by
  obtain ⟨M1, b1, b2, b3, b4, b5, b6, b7⟩ := y_over h hn hX (by omega) (by simp) (by omega) ha
  refine ⟨M1, ?_, b2, b3, b4, b5, b6, b7⟩
  have hs := y_isSign h (t := 34) (by decide) (by decide)
  rw [decide_eq_true ht] at hs
  rcases hl with ⟨rfl, rfl⟩ | ⟨rfl, rfl⟩
  · have h : CfM pl L tp ln 3 a1 0 [(2, 0)] X O M := h
    refine y_r3 h ?_
    have w18 := y_isWord h (t := 18) (by decide)
    have w17 := y_isWord h (t := 17) (by decide)
    rw [decide_eq_false (by omega)] at w18 w17
    unfold f_X12_asksOn
    rw [cR_t (ly_t230 h.1), show f_X12_isWord (some 230) (11 : Int32) M = _ from w18, cA_s, if_pos (by decide), cR_t (ly_t230 h.1), show f_X12_isWord (some 230) (12 : Int32) M = _ from w17, cA_s, if_pos (by decide), cR_t (ly_t230 h.1), y_top h (by simp), cA_s, if_pos (show nI 2 = (2 : Int32) from rfl), cR_t (ly_t230 h.1), show f_X12_isSign (some 230) (59 : Int32) M = _ from hs, cA_s, if_neg (by decide), cR_t (ly_t230 h.1), b1, cA_s]
  · have h : CfM pl L tp ln 2 a1 0 [(1, 0)] X O M := h
    refine y_r2 h ?_
    rw [y_g65 h (by omega) (by simp)]
    unfold f_X12_goesOn_65
    rw [if_neg (show ¬ nI 1 = (6 : Int32) by decide)]
    unfold f_X12_goesOn_116
    rw [if_neg (show ¬ nI 1 = (4 : Int32) by decide)]
    unfold f_X12_goesOn_181
    rw [if_neg (show ¬ nI 1 = (5 : Int32) by decide), if_pos (show nI 1 = (1 : Int32) from rfl), cR_t (ly_t230 h.1), show f_X12_isSign (some 230) (59 : Int32) M = _ from hs, cA_s, if_neg (by decide), cR_t (ly_t230 h.1), b1, cA_s]
theorem S_endN {l kf a1 : Nat} {X O : List (Nat × Nat)} {M : Mem} (hl : (l = 0 ∧ kf = 2) ∨ (l = 3 ∧ kf = 1)) (h : CfM pl L tp ln (stE l) a1 0 [(kf, 0)] X O M) (ht : tTk tp ln a1 ≠ 34) (hno : noO tp ln l a1) : ∃ M', Rn 1 M M' ∧ Fx zA zF M M' ∧ FlM pl L 1 (tSt tp ln a1) tp ln M' := by
  obtain ⟨M1, b1, b2, b3⟩ := y_errs (k := 1) h (by decide)
  refine ⟨M1, ?_, b2, b3⟩
  have hs := y_isSign h (t := 34) (by decide) (by decide)
  rw [decide_eq_false ht] at hs
  rcases hl with ⟨rfl, rfl⟩ | ⟨rfl, rfl⟩
  · have h : CfM pl L tp ln 3 a1 0 [(2, 0)] X O M := h
    refine y_r3 h ?_
    have w18 := y_isWord h (t := 18) (by decide)
    have w17 := y_isWord h (t := 17) (by decide)
    rw [decide_eq_false (fun z => hno 0 (by decide) (by decide) (by rw [z]; decide))] at w18
    rw [decide_eq_false (fun z => hno 1 (by decide) (by decide) (by rw [z]; decide))] at w17
    unfold f_X12_asksOn
    rw [cR_t (ly_t230 h.1), show f_X12_isWord (some 230) (11 : Int32) M = _ from w18, cA_s, if_pos (by decide), cR_t (ly_t230 h.1), show f_X12_isWord (some 230) (12 : Int32) M = _ from w17, cA_s, if_pos (by decide), cR_t (ly_t230 h.1), y_top h (by simp), cA_s, if_pos (show nI 2 = (2 : Int32) from rfl), cR_t (ly_t230 h.1), show f_X12_isSign (some 230) (59 : Int32) M = _ from hs, cA_s, if_pos (by decide), cR_t (ly_t230 h.1), show f_X12_errs (some 230) (1 : Int32) M = _ from b1, cA_s]
  · have h : CfM pl L tp ln 2 a1 0 [(1, 0)] X O M := h
    refine y_r2 h ?_
    have hop : ¬ (27 ≤ tTk tp ln a1 ∧ tTk tp ln a1 ≤ 30) := fun z => by
      rcases lvO_op z with y | y
      · exact hno 3 (by decide) (by decide) y
      · exact hno 4 (by decide) (by decide) y
    rw [y_g65 h hop (by simp)]
    unfold f_X12_goesOn_65
    rw [if_neg (show ¬ nI 1 = (6 : Int32) by decide)]
    unfold f_X12_goesOn_116
    rw [if_neg (show ¬ nI 1 = (4 : Int32) by decide)]
    unfold f_X12_goesOn_181
    rw [if_neg (show ¬ nI 1 = (5 : Int32) by decide), if_pos (show nI 1 = (1 : Int32) from rfl), cR_t (ly_t230 h.1), show f_X12_isSign (some 230) (59 : Int32) M = _ from hs, cA_s, if_pos (by decide), cR_t (ly_t230 h.1), show f_X12_errs (some 230) (1 : Int32) M = _ from b1, cA_s]
def BdR (pl L : Nat) (tp : Nat → Nat) (ln b n : Nat) (O : List (Nat × Nat)) (M : Mem) (res : (Nat × Nat) ⊕ (Nat × Cl)) : Prop := match res with
  | .inl e => ∃ s M', s + 2 * b ≤ 2 * ln + 3 ∧ Rn s M M' ∧ Fx zA2 zF2 M M' ∧ FlM pl L e.1 (tSt tp ln e.2) tp ln M'
  | .inr q => ∃ s M', s + 2 * b ≤ 2 * q.1 ∧ Rn s M M' ∧ Fx zA2 zF2 M M' ∧ CfM pl L tp ln 4 q.1 0 [] [] (O ++ (cod (cCd q.2) ++ [(408, 0)])) M' ∧ mI M' 230 33 = nI (n + 1) ∧ mI M' 247 = mI M 247 ∧ mI M' 248 = mI M 248 ∧ mI M' 249 = mI M 249
theorem y_body {l kf b n t mv ac kd dr : Nat} {O : List (Nat × Nat)} {M : Mem} (h300 : ln ≤ 300) (hl : (l = 0 ∧ kf = 2) ∨ (l = 3 ∧ kf = 1)) (h : CfM pl L tp ln (st0 l) b 0 [(kf, 0)] [] O M) (hn : mI M 230 33 = nI n) (hb : b ≤ ln) (hO : O.length ≤ b) : BdR pl L tp ln b n O M (pBod tp ln l t mv ac kd dr b) := by
  have hl5 : l ≤ 5 := by omega
  have sim := (y_sim (pl := pl) (L := L) (tp := tp) h300 64).1 l 0 b (kf, 0) [] [] O M hl5 (by rcases hl with ⟨rfl, -⟩ | ⟨rfl, -⟩ <;> decide) (by decide) hb (fun z => ⟨by show kf ≠ 3; omega, by simp⟩) (fun z => by show kf ≠ 7; omega) (by simp) (by simp) (fun w hw => by cases hw) rfl hO h
  unfold pBod
  have hK : kK l ≤ 2 := by unfold kK; split <;> decide
  cases hp : pP tp ln 64 0 l 0 b with
  | inl e =>
    rw [hp] at sim
    obtain ⟨s, M', x1, x2, x3, x4⟩ := sim
    exact ⟨s, M', by omega, x2, x3.zn, x4⟩
  | inr q =>
    obtain ⟨a1, c⟩ := q
    rw [hp] at sim
    obtain ⟨s, M1, x1, x2, x3, x4⟩ := sim
    have x1 : (s : Int) + 1 + 2 * (b : Int) ≤ 2 * (a1 : Int) := x1
    obtain ⟨⟨g1, g2, g3⟩, -⟩ := pP_ok 64 0 l 0 b a1 c hb (by decide) (by decide) hl5 hp
    have hno := (pP_end h300 64 0 l 0 b a1 c hb (by decide) (by decide) hl5 hp).1 rfl
    obtain ⟨X, c1, y1, y2, y3, y4⟩ := x4
    rw [List.append_nil] at y4
    have y3 : c1 ++ ops X = c := y3
    have hx2 : X.length ≤ 2 := by
      have : xb l ≤ 2 := by unfold xb; split <;> omega
      omega
    have hcl : c1.length ≤ c.length := by rw [← y3, List.length_append]; omega
    show BdR pl L tp ln b n O M (pFin tp ln t mv ac kd dr a1 c)
    unfold pFin
    by_cases e : tTk tp ln a1 = 34
    · rw [if_pos e]
      have hxn := tNx_b (tp := tp) g2
      have hlt := hxn.2.2 (by omega)
      obtain ⟨M2, d1, d2, d3, d4, d5, d6, d7⟩ := S_end (n := n) hl y4 e (by rw [x3.i (by decide) (by decide)]; exact hn) (fun x hx => (y2 x hx).1) hx2 (by rw [List.length_append, cod_len]; omega) g2
      refine ⟨s + 1, M2, by show s + 1 + 2 * b ≤ 2 * tNx tp ln a1; omega, x2.tr d1, x3.zn.tr d2, ?_, d4, by rw [d5, x3.ib (by decide)], by rw [d6, x3.ib (by decide)], by rw [d7, x3.ib (by decide)]⟩
      show CfM pl L tp ln 4 (tNx tp ln a1) 0 [] [] (O ++ (cod c ++ [(408, 0)])) M2
      rw [← y3, cod_app]
      simp only [List.append_assoc] at d3 ⊢
      exact d3
    · rw [if_neg e]
      obtain ⟨M2, d1, d2, d3⟩ := S_endN hl y4 e hno
      exact ⟨s + 1, M2, by omega, x2.tr d1, (x3.tr d2).zn, d3⟩
def ClR (pl L : Nat) (tp : Nat → Nat) (ln a : Nat) (T : Txt) (M : Mem) (res : (Nat × Nat) ⊕ (Nat × Cl)) : Prop := match res with
  | .inl e => ∃ s M', s + 2 * a ≤ 2 * ln + 4 ∧ Rn s M M' ∧ Fx zA2 zF2 M M' ∧ FlM pl L e.1 (tSt tp ln e.2) tp ln M'
  | .inr q => ∃ s M' O', s + 2 * a ≤ 2 * q.1 ∧ Rn s M M' ∧ Fx zA2 zF2 M M' ∧ CfM pl L tp ln 4 q.1 0 [] [] O' M' ∧ NwM (T ++ [q.2]) O' M' ∧ O'.length ≤ q.1
theorem NwM.snoc {T : Txt} {c : Cl} {O R : List (Nat × Nat)} {M M' : Mem} (h : NwM T O M) (hn : mI M' 230 33 = nI (T.length + 1)) (kp : (∀ j, j < T.length → mI M' 247 j = mI M 247 j ∧ mI M' 248 j = mI M 248 j) ∧ ∀ j, j < 4 * T.length → mI M' 249 j = mI M 249 j) (hc : NwC T.length c (O ++ R) M') : NwM (T ++ [c]) (O ++ R) M' := by
  refine ⟨by rw [hn]; simp, fun k d hd => ?_⟩
  by_cases z : k < T.length
  · rw [List.getElem?_append_left z] at hd
    exact (h.2 k d hd).kep kp z
  · rw [List.getElem?_append_right (by omega)] at hd
    by_cases y : k = T.length
    · rw [y, Nat.sub_self] at hd
      cases hd
      rw [y]
      exact hc
    · rw [List.getElem?_eq_none (by simp; omega)] at hd; cases hd
theorem y_fin {l kf b a t mv ac kd dr : Nat} {T : Txt} {O : List (Nat × Nat)} {M M5 : Mem} (h300 : ln ≤ 300) (hl : (l = 0 ∧ kf = 2) ∨ (l = 3 ∧ kf = 1)) (h : CfM pl L tp ln (st0 l) b 0 [(kf, 0)] [] O M5) (hR : Rn 1 M M5) (fr : Fx zA2 zF2 M M5) (hN : NwM T O M) (hb : b ≤ ln) (hab : a < b) (hO : O.length ≤ a) (k33 : mI M5 230 33 = nI T.length) (kp : (∀ j, j < T.length → mI M5 247 j = mI M 247 j ∧ mI M5 248 j = mI M 248 j) ∧ ∀ j, j < 4 * T.length → mI M5 249 j = mI M 249 j) (k8 : mI M5 248 T.length = nI O.length) (k7 : mI M5 247 T.length = nI (mwd t)) (k9 : t = 0 → mI M5 249 (4 * T.length) = nI mv ∧ mI M5 249 (4 * T.length + 1) = nI (ac - 7) ∧ mI M5 249 (4 * T.length + 2) = nI kd ∧ mI M5 249 (4 * T.length + 3) = nI dr) : ClR pl L tp ln a T M (pBod tp ln l t mv ac kd dr b) := by
  have hB := y_body (t := t) (mv := mv) (ac := ac) (kd := kd) (dr := dr) h300 hl h k33 hb (by omega)
  cases hp : pBod tp ln l t mv ac kd dr b with
  | inl e =>
    rw [hp] at hB
    obtain ⟨s, M', x1, x2, x3, x4⟩ := hB
    exact ⟨1 + s, M', by omega, hR.tr x2, fr.tr x3, x4⟩
  | inr q =>
    rw [hp] at hB
    obtain ⟨a1, c, -, -, rfl, g1, g2, g3, g4, -, g6⟩ := pBod_ok (by omega) hb hp
    obtain ⟨s, M', x1, x2, x3, x4, x5, x6, x7, x8⟩ := hB
    have x1 : s + 2 * b ≤ 2 * tNx tp ln a1 := x1
    refine ⟨1 + s, M', O ++ (cod c ++ [(408, 0)]), by show 1 + s + 2 * a ≤ 2 * tNx tp ln a1; omega, hR.tr x2, fr.tr x3, x4, hN.snoc x5 ⟨fun j hj => ⟨by rw [x6]; exact (kp.1 j hj).1, by rw [x7]; exact (kp.1 j hj).2⟩, fun j hj => by rw [x8]; exact kp.2 j hj⟩ ⟨by rw [x6]; exact k7, fun z => by rw [x8]; exact k9 z, fun z => absurd z g6, fun _ => ⟨O, [], by simp only [List.append_nil]; rfl, by rw [x7]; exact k8⟩⟩, ?_⟩
    show (O ++ (cod c ++ [(408, 0)])).length ≤ tNx tp ln a1
    simp only [List.length_append, cod_len, List.length_singleton]
    omega
theorem rw_cl : ∀ t, t < 20 → ((t = 0 ∨ (12 ≤ t ∧ t ≤ 16)) ↔ rwT t ≤ 5) ∧ (t = 0 ∨ (12 ≤ t ∧ t ≤ 16) → rwT t = t - 11) := by decide +kernel
theorem y_cl {a : Nat} {T : Txt} {O : List (Nat × Nat)} {M : Mem} (h300 : ln ≤ 300) (h : CfM pl L tp ln 4 a 0 [] [] O M) (hN : NwM T O M) (hT : okT T) (ha : a ≤ ln) (hO : O.length ≤ a) (h35 : tTk tp ln a ≠ 35) : ClR pl L tp ln a T M (pCl tp ln T a) := by
  have hx := tNx_b (tp := tp) ha
  have hlt := hx.2.2 h35
  have hT20 := hT.1
  have ty16 : ∀ (k : Nat) (c : Cl), T[k]? = some c → mI M 247 k = nI (mwd (cTy c)) ∧ cTy c ≤ 16 := fun k c hc => ⟨(hN.2 k c hc).1, by
    rcases hT.2.1 k c hc with q | q | q
    · omega
    · omega
    · omega⟩
  have flt : ∀ k, 0 < k ∧ k < 6 → (∃ M', f_X12_clause (some 230) M = some ((), M') ∧ Fx zA2 zF2 M M' ∧ FlM pl L k (tSt tp ln a) tp ln M') → ClR pl L tp ln a T M (.inl (k, a)) := fun k hk ⟨M', q1, q2, q3⟩ => ⟨1, M', by omega, y_r4 h h35 q1, q2, q3⟩
  unfold pCl
  by_cases e : tTk tp ln a = 0 ∨ (12 ≤ tTk tp ln a ∧ tTk tp ln a ≤ 16)
  · rw [if_pos e]
    have hw20 : tTk tp ln a < 20 := by omega
    obtain ⟨r1, r2⟩ := rw_cl _ hw20
    have hr := r2 e
    have hwd := h.wd hw20
    have f1 : Fx [247, 248, 249] [(230, 33), (230, 34)] M (sI M 230 34 (nI (tTk tp ln a - 11))) := Fx.wI (Or.inr (by decide))
    have c1 := h.nw f1
    have hn1 : mI (sI M 230 34 (nI (tTk tp ln a - 11))) 230 33 = nI T.length := by rw [mI_nk (by decide)]; exact hN.1
    generalize hM1 : sI M 230 34 (nI (tTk tp ln a - 11)) = M1 at f1 c1 hn1
    have h34 : mI M1 230 34 = nI (tTk tp ln a - 11) := by rw [← hM1, mI_e]
    have k247 : mI M1 247 = mI M 247 ∧ mI M1 248 = mI M 248 ∧ mI M1 249 = mI M 249 := by rw [← hM1]; exact ⟨mI_na (by decide), mI_na (by decide), mI_na (by decide)⟩
    -- the head of the clause
    have head : f_X12_clause (some 230) M = cA (f_X12_in (nI (tTk tp ln a - 11)) (1 : Int32) (4 : Int32) M1) (fun v5 M2 => if v5 = 0 then gI M2 (some 230) 12 33 fun v6 => (if v6 = (20 : Int32) then cR M2 (some 230) (1, 12) (cA (f_X12_errs (some 230) (5 : Int32) M2) fun _ M3 => f_X12_clause_75 (some 230) M3) else f_X12_clause_75 (some 230) M2) else gI M2 (some 230) 12 34 fun v7 => cR M2 (some 230) (1, 12) (cA (f_X12_wasTold (some 230) v7 M2) fun v8 M4 => (if v8 = 0 then gI M4 (some 230) 12 33 fun v9 => (if v9 = (20 : Int32) then cR M4 (some 230) (1, 12) (cA (f_X12_errs (some 230) (5 : Int32) M4) fun _ M5 => f_X12_clause_75 (some 230) M5) else f_X12_clause_75 (some 230) M4) else cR M4 (some 230) (1, 12) (cA (f_X12_errs (some 230) (4 : Int32) M4) fun _ M6 => f_X12_clause_75 (some 230) M6)))) := by
      unfold f_X12_clause
      rw [gI_t (ly_t230 h.1), h.srt, if_pos (show nI (srt (tTk tp ln a)) = (1 : Int32) by unfold srt; rw [if_pos hw20]; rfl), gI_t (ly_t230 h.1), hwd, hr, if_pos (show nI (tTk tp ln a - 11) ≤ (5 : Int32) from nI_le (b := 5) (by omega) (by decide)), gI_t (ly_t230 h.1), hwd, hr, pI_t (ly_t230 h.1), hM1, gI_t (ly_t230 c1.1), h34]
    have c75f : ∀ {M' : Mem} {k p : Nat}, FlM pl L k p tp ln M' → f_X12_clause_75 (some 230) M' = some ((), M') := fun {M' k p} hf => by
      unfold f_X12_clause_75
      rw [gI_t (ly_t230 hf.1), hf.2.2.1, if_neg hf.pos.2.2]
    have tail5 : (gI M1 (some 230) 12 33 fun v6 => (if v6 = (20 : Int32) then cR M1 (some 230) (1, 12) (cA (f_X12_errs (some 230) (5 : Int32) M1) fun _ M3 => f_X12_clause_75 (some 230) M3) else f_X12_clause_75 (some 230) M1)) = if T.length = 20 then (cA (f_X12_errs (some 230) (5 : Int32) M1) fun _ M3 => f_X12_clause_75 (some 230) M3) else f_X12_clause_75 (some 230) M1 := by
      rw [gI_t (ly_t230 c1.1), hn1]
      by_cases z : T.length = 20
      · rw [if_pos (show nI T.length = (20 : Int32) by rw [z]; rfl), if_pos z, cR_t (ly_t230 c1.1)]
      · rw [if_neg (show ¬ nI T.length = (20 : Int32) from nIne (b := 20) (by omega) (by decide) z), if_neg z]
    have told : 12 ≤ tTk tp ln a → tTk tp ln a ≤ 15 → f_X12_wasTold (some 230) (nI (tTk tp ln a - 11)) M1 = some (nI ((fTd (tTk tp ln a) T 0).isSome).toNat, M1) := fun z1 z2 => by
      have := y_told0 (T := T) z1 z2 c1.1 hn1 hT20 (fun k c hc => by rw [k247.1]; exact ty16 k c hc) T.length FU 0 false (by omega) (by unfold FU; omega)
      rw [Bool.false_or, List.drop_zero, ← fTd_any T 0] at this
      exact this
    by_cases e4 : 12 ≤ tTk tp ln a ∧ tTk tp ln a ≤ 15 ∧ (fTd (tTk tp ln a) T 0).isSome = true
    · rw [if_pos e4]
      refine flt 4 (by decide) ?_
      obtain ⟨M2, b1, b2, b3⟩ := y_errs (k := 4) c1 (by decide)
      refine ⟨M2, ?_, f1.kn.tr b2.zn, b3⟩
      rw [head, in_ok (show ¬ nI (tTk tp ln a - 11) < (1 : Int32) from nI_nlt (b := 1) (by omega) (by omega)) (show ¬ (4 : Int32) < nI (tTk tp ln a - 11) from nI_nlt (a := 4) (by omega) (by decide)), cA_s, if_neg (by decide), gI_t (ly_t230 c1.1), h34, cR_t (ly_t230 c1.1), told e4.1 e4.2.1, e4.2.2, cA_s, if_neg (by decide), cR_t (ly_t230 c1.1), show f_X12_errs (some 230) (4 : Int32) M1 = _ from b1, cA_s, c75f b3]
    rw [if_neg e4]
    have head2 : f_X12_clause (some 230) M = if T.length = 20 then (cA (f_X12_errs (some 230) (5 : Int32) M1) fun _ M3 => f_X12_clause_75 (some 230) M3) else f_X12_clause_75 (some 230) M1 := by
      rw [head]
      by_cases z : 12 ≤ tTk tp ln a ∧ tTk tp ln a ≤ 15
      · have hf : (fTd (tTk tp ln a) T 0).isSome = false := by
          cases hs : (fTd (tTk tp ln a) T 0).isSome with
          | false => rfl
          | true => exact absurd ⟨z.1, z.2, hs⟩ e4
        rw [in_ok (show ¬ nI (tTk tp ln a - 11) < (1 : Int32) from nI_nlt (b := 1) (by omega) (by omega)) (show ¬ (4 : Int32) < nI (tTk tp ln a - 11) from nI_nlt (a := 4) (by omega) (by decide)), cA_s, if_neg (by decide), gI_t (ly_t230 c1.1), h34, cR_t (ly_t230 c1.1), told z.1 z.2, hf, cA_s, if_pos (by decide), tail5]
      · rcases (show tTk tp ln a = 0 ∨ tTk tp ln a = 16 by omega) with q | q
        · rw [in_lo (show nI (tTk tp ln a - 11) < (1 : Int32) from nI_lt (b := 1) (by omega) (by decide)), cA_s, if_pos (show nI 0 = (0 : Int32) from rfl), tail5]
        · rw [in_hi (show (4 : Int32) < nI (tTk tp ln a - 11) from nI_lt (a := 4) (by omega) (by omega)), cA_s, if_pos (show nI 0 = (0 : Int32) from rfl), tail5]
    by_cases e5 : T.length = 20
    · rw [if_pos e5] at head2 ⊢
      refine flt 5 (by decide) ?_
      obtain ⟨M2, b1, b2, b3⟩ := y_errs (k := 5) c1 (by decide)
      exact ⟨M2, by rw [head2, show f_X12_errs (some 230) (5 : Int32) M1 = _ from b1, cA_s, c75f b3], f1.kn.tr b2.zn, b3⟩
    rw [if_neg e5] at head2 ⊢
    have h38 := c1.2.2.2.2.2.2.2.2.1
    have f2 : Fx [247, 248, 249] [(230, 33), (230, 34)] M1 (sI M1 247 T.length (nI (tTk tp ln a - 11))) := Fx.wI (Or.inl (by decide))
    have f3 : Fx [247, 248, 249] [(230, 33), (230, 34)] M1 (sI (sI M1 247 T.length (nI (tTk tp ln a - 11))) 248 T.length (nI O.length)) := f2.I (Or.inl (by decide))
    have c3 := c1.nw f3
    obtain ⟨M4, d1, d2, d3⟩ := c3.nx ha
    have hl2 := (c1.nw f2).1
    have k3 : mI M4 247 T.length = nI (tTk tp ln a - 11) ∧ mI M4 248 T.length = nI O.length ∧ (∀ j, j < T.length → mI M4 247 j = mI M 247 j ∧ mI M4 248 j = mI M 248 j) ∧ mI M4 249 = mI M 249 ∧ mI M4 230 33 = nI T.length ∧ mI M4 230 34 = nI (tTk tp ln a - 11) := by
      refine ⟨by rw [d2.ib (by decide), mI_na (by decide), mI_e], by rw [d2.ib (by decide), mI_e], fun j hj => ⟨by rw [d2.ib (by decide), mI_na (by decide), mI_nk (by omega), k247.1], by rw [d2.ib (by decide), mI_nk (by omega), mI_na (by decide), k247.2.1]⟩, by rw [d2.ib (by decide), mI_na (by decide), mI_na (by decide), k247.2.2], by rw [d2.i (by decide) (by decide), mI_na (by decide), mI_na (by decide)]; exact hn1, by rw [d2.i (by decide) (by decide), mI_na (by decide), mI_na (by decide)]; exact h34⟩
    obtain ⟨k1, k2, kj, k9, k33, k34⟩ := k3
    have fr4 : Fx zA2 zF2 M M4 := (f1.kn.tr f3.kn).tr d2.zn
    have c75 : f_X12_clause_75 (some 230) M1 = (if nI (tTk tp ln a - 11) = 0 then cR M4 (some 230) (1, 12) (cA (f_X12_readsMove (some 230) M4) fun _ M4 => some ((), M4)) else if nI (tTk tp ln a - 11) = (5 : Int32) then cR M4 (some 230) (1, 12) (cA (f_X12_opensFrame (some 230) (2 : Int32) M4) fun _ M5 => gI M5 (some 230) 12 34 fun v10 => (if v10 = (5 : Int32) then pI M5 (some 230) 12 32 (0 : Int32) fun M6 => some ((), M6) else pI M5 (some 230) 12 32 (1 : Int32) fun M7 => some ((), M7))) else cR M4 (some 230) (1, 12) (cA (f_X12_opensFrame (some 230) (1 : Int32) M4) fun _ M8 => gI M8 (some 230) 12 34 fun v11 => (if v11 = (5 : Int32) then pI M8 (some 230) 12 32 (0 : Int32) fun M9 => some ((), M9) else pI M8 (some 230) 12 32 (1 : Int32) fun M10 => some ((), M10)))) := by
      unfold f_X12_clause_75
      rw [gI_t (ly_t230 c1.1), c1.2.2.2.1.1, if_pos (show nI 0 ≤ (0 : Int32) by decide), gR_t (ly_t230 c1.1), ly_r230_35 c1.1, gI_t (ly_t230 c1.1), hn1, gI_t (ly_t230 c1.1), h34, wI_t (ly_t247 c1.1) (by omega) (by decide), gR_t (ly_t230 hl2), ly_r230_36 hl2, gI_t (ly_t230 hl2), mI_na (by decide), hn1, gI_t (ly_t230 hl2), mI_na (by decide), h38, wI_t (ly_t248 hl2) (by omega) (by decide), cR_t (ly_t230 c3.1), d1, cA_s, gI_t (ly_t230 d3.1), k34, gI_t (ly_t230 d3.1), k34]
    by_cases e0 : tTk tp ln a = 0
    · rw [if_pos e0]
      have hrd := y_reads d3 k33 (by omega) hx.1 (by omega)
      have hcl : ∀ M', f_X12_readsMove (some 230) M4 = some ((), M') → f_X12_clause (some 230) M = some ((), M') := fun M' hM' => by
        rw [head2, c75, e0, if_pos (show nI (0 - 11) = (0 : Int32) from rfl), cR_t (ly_t230 d3.1), hM', cA_s]
      cases hp : pAct tp ln (tNx tp ln a) with
      | inl q =>
        rw [hp] at hrd
        obtain ⟨M', q1, q2, q3⟩ := hrd
        exact ⟨1, M', by omega, y_r4 h h35 (hcl M' q1), fr4.tr q2, q3⟩
      | inr x =>
        obtain ⟨b1, b2, b3, b4, b5, b6, b7⟩ := pAct_ok hx.1 hp
        rw [hp] at hrd
        unfold RmR at hrd
        dsimp only at hrd
        have hxx := tNx_b (tp := tp) b2
        show ClR pl L tp ln a T M (if tTk tp ln x.1 = 11 then _ else _)
        by_cases e34 : tTk tp ln x.1 = 34
        · rw [if_pos e34] at hrd
          obtain ⟨M', q1, q2, q3, q4, q5, q6, q7⟩ := hrd
          have hlt2 := hxx.2.2 (by omega)
          rw [if_neg (by omega)]
          unfold pFin
          rw [if_pos e34]
          refine ⟨1, M', O ++ [(408, 0)], by show 1 + 2 * a ≤ 2 * tNx tp ln x.1; omega, y_r4 h h35 (hcl M' q1), fr4.tr q2, q3, hN.snoc q4 ⟨fun j hj => ⟨by rw [q5.1]; exact (kj j hj).1, by rw [q5.2.1 j (by omega)]; exact (kj j hj).2⟩, fun j hj => by rw [q5.2.2 j hj, k9]⟩ ⟨by rw [q5.1, k1, e0]; rfl, fun _ => q7, fun _ => q6, fun z => absurd rfl z⟩, ?_⟩
          show (O ++ [(408, 0)]).length ≤ tNx tp ln x.1
          simp only [List.length_append, List.length_singleton]
          omega
        · rw [if_neg e34] at hrd
          by_cases e11 : tTk tp ln x.1 = 11
          · rw [if_pos e11] at hrd ⊢
            obtain ⟨M', q1, q2, q3, q4, q5, q6, q7⟩ := hrd
            have hlt2 := hxx.2.2 (by omega)
            exact y_fin h300 (Or.inl ⟨rfl, rfl⟩) q3 (y_r4 h h35 (hcl M' q1)) (fr4.tr q2) hN hxx.1 (by omega) hO q4 ⟨fun j hj => ⟨by rw [q5.1]; exact (kj j hj).1, by rw [q5.2.1 j (by omega)]; exact (kj j hj).2⟩, fun j hj => by rw [q5.2.2 j hj, k9]⟩ (by rw [q6]; exact k2) (by rw [q5.1, k1, e0]; rfl) (fun _ => q7)
          · rw [if_neg e11] at hrd ⊢
            obtain ⟨M', q1, q2, q3⟩ := hrd
            unfold pFin
            rw [if_neg e34]
            exact ⟨1, M', by omega, y_r4 h h35 (hcl M' q1), fr4.tr q2, q3⟩
    · rw [if_neg e0]
      have z0 : ¬ nI (tTk tp ln a - 11) = (0 : Int32) := ne_0 (by omega) (by omega)
      by_cases e16 : tTk tp ln a = 16
      · obtain ⟨M5, p1, p2, p3⟩ := y_push (k := 2) d3 (by simp) (by decide)
        have f6 : Fx zA zF M4 (sI M5 230 32 (nI 0)) := p2.I (Or.inr (by decide))
        rw [if_pos e16]
        refine y_fin h300 (Or.inl ⟨rfl, rfl⟩) (p3.chS 0) (y_r4 h h35 ?_) (fr4.tr f6.zn) hN hx.1 hlt hO (by rw [f6.i (by decide) (by decide)]; exact k33) ⟨fun j hj => ⟨by rw [f6.ib (by decide)]; exact (kj j hj).1, by rw [f6.ib (by decide)]; exact (kj j hj).2⟩, fun j hj => by rw [f6.ib (by decide), k9]⟩ (by rw [f6.ib (by decide)]; exact k2) (by rw [f6.ib (by decide)]; exact k1) (fun z => absurd z e0)
        have h5 : nI (tTk tp ln a - 11) = (5 : Int32) := by rw [e16]; rfl
        rw [head2, c75, if_neg z0, if_pos h5, cR_t (ly_t230 d3.1), show f_X12_opensFrame (some 230) (2 : Int32) M4 = _ from p1, cA_s, gI_t (ly_t230 p3.1), p2.i (by decide) (by decide), k34, if_pos h5, pI_t (ly_t230 p3.1)]
        rfl
      · obtain ⟨M5, p1, p2, p3⟩ := y_push (k := 1) d3 (by simp) (by decide)
        have f6 : Fx zA zF M4 (sI M5 230 32 (nI 1)) := p2.I (Or.inr (by decide))
        rw [if_neg e16]
        refine y_fin h300 (Or.inr ⟨rfl, rfl⟩) (p3.chS 1) (y_r4 h h35 ?_) (fr4.tr f6.zn) hN hx.1 hlt hO (by rw [f6.i (by decide) (by decide)]; exact k33) ⟨fun j hj => ⟨by rw [f6.ib (by decide)]; exact (kj j hj).1, by rw [f6.ib (by decide)]; exact (kj j hj).2⟩, fun j hj => by rw [f6.ib (by decide), k9]⟩ (by rw [f6.ib (by decide)]; exact k2) (by rw [f6.ib (by decide)]; exact k1) (fun z => absurd z e0)
        have h5 : ¬ nI (tTk tp ln a - 11) = (5 : Int32) := nIne (b := 5) (by omega) (by decide) (by omega)
        rw [head2, c75, if_neg z0, if_neg h5, cR_t (ly_t230 d3.1), show f_X12_opensFrame (some 230) (1 : Int32) M4 = _ from p1, cA_s, gI_t (ly_t230 p3.1), p2.i (by decide) (by decide), k34, if_neg h5, pI_t (ly_t230 p3.1)]
        rfl
  · rw [if_neg e]
    refine flt 1 (by decide) ?_
    obtain ⟨M2, b1, b2, b3⟩ := y_errs (k := 1) h (by decide)
    refine ⟨M2, ?_, b2.zn, b3⟩
    unfold f_X12_clause
    rw [gI_t (ly_t230 h.1), h.srt]
    by_cases q : tTk tp ln a < 20
    · obtain ⟨r1, r2⟩ := rw_cl _ q
      have hb := rw_b _ q
      rw [if_pos (show nI (srt (tTk tp ln a)) = (1 : Int32) by unfold srt; rw [if_pos q]; rfl), gI_t (ly_t230 h.1), h.wd q, if_neg (show ¬ nI (rwT (tTk tp ln a)) ≤ (5 : Int32) from nI_ge (a := 5) (Nat.lt_of_not_le (fun y => e (r1.mpr y))) (by omega)), cR_t (ly_t230 h.1), show f_X12_errs (some 230) (1 : Int32) M = _ from b1, cA_s]
    · rw [if_neg (show ¬ nI (srt (tTk tp ln a)) = (1 : Int32) from nIne (b := 1) (by have := srt_b (t := tTk tp ln a); omega) (by decide) (srt_n1 q)), cR_t (ly_t230 h.1), show f_X12_errs (some 230) (1 : Int32) M = _ from b1, cA_s]
end YCL
