/-! ===== the line of the reference ===== -/
section YLINE
variable {w h L nt : Nat} {τ : Nat → Txt} {n : Nat} {op : Nat → Chi} {tg : Nat → Nat} {O : Pos → Chi} {S : Pos → Nat → Nat → Pos} {Q : Nat → Pos} {R U : Pos → Nat}
/-- what the reference has decided -/
def VlM (O : Pos → Chi) (S : Pos → Nat → Nat → Pos) (Q : Nat → Pos) (n : Nat) (op : Nat → Chi) (tg : Nat → Nat) (R U : Pos → Nat) (M : Mem) : Prop := Grf O S Q n op tg ∧ FoM n op tg M ∧ RsM n (fun i => R (Q i)) (fun i => U (Q i)) M ∧ n ≤ 2000 ∧ (∀ π, R π ≤ 2) ∧ ∀ π, U π ≤ 2000
theorem VlM.fx {M M' : Mem} {A : List Nat} {F : List (Nat × Nat)} (hV : VlM O S Q n op tg R U M) (fr : Fx A F M M') (h1 : 263 ∉ A ∧ ∀ q ∈ F, q.1 ≠ 263) (h2 : 264 ∉ A ∧ ∀ q ∈ F, q.1 ≠ 264) (h3 : 265 ∉ A ∧ ∀ q ∈ F, q.1 ≠ 265) (h4 : 266 ∉ A ∧ ∀ q ∈ F, q.1 ≠ 266) : VlM O S Q n op tg R U M' := by
  obtain ⟨a1, a2, a3, a4⟩ := hV
  refine ⟨a1, a2.fx fr h1 h2, ?_, a4⟩
  unfold RsM at *
  rw [fr.ib h3, fr.ib h4]
  exact a3
/-- three open moves of a state -/
def opT (op : Nat → Chi) (i no a b : Nat) : Prop := no < 8 ∧ a < 8 ∧ b < 8 ∧ no ≠ a ∧ no ≠ b ∧ op i no = true ∧ op i a = true ∧ op i b = true
theorem opT.v {i no a b : Nat} (ho : opT op i no a b) : vEx op (64 * i + 8 * no + a) = true ∧ vEx op (64 * i + 8 * no + b) = true := by
  obtain ⟨o1, o2, o3, o4, o5, o6, o7, o8⟩ := ho
  constructor
  · rw [vEx_eg o1 o2]; unfold eg; rw [o6, o7]; simp [o4]
  · rw [vEx_eg o1 o3]; unfold eg; rw [o6, o8]; simp [o5]
theorem opT.s {i no a b : Nat} {M : Mem} (ho : opT op i no a b) (hV : VlM O S Q n op tg R U M) (hi : i < n) : Q (tg (64 * i + 8 * no + a)) = S (Q i) no a ∧ Q (tg (64 * i + 8 * no + b)) = S (Q i) no b := by
  obtain ⟨v1, v2⟩ := ho.v
  obtain ⟨o1, o2, o3, -⟩ := ho
  have h1 := (hV.1.2.1 _ (by omega) v1).2
  have h2 := (hV.1.2.1 _ (by omega) v2).2
  rw [show (64 * i + 8 * no + a) / 64 = i by omega, show (64 * i + 8 * no + a) / 8 % 8 = no by omega, show (64 * i + 8 * no + a) % 8 = a by omega] at h1
  rw [show (64 * i + 8 * no + b) / 64 = i by omega, show (64 * i + 8 * no + b) / 8 % 8 = no by omega, show (64 * i + 8 * no + b) % 8 = b by omega] at h2
  exact ⟨h1, h2⟩
theorem y_lbP {i no a b : Nat} {M : Mem} (hb : Bs w h L nt τ M) (hV : VlM O S Q n op tg R U M) (hi : i < n) (ho : opT op i no a b) : f_X12_lostBy (some 230) (nI i) (nI no) (nI a) (nI b) M = some (nI (lbP S R U (Q i) no a b), M) := by
  obtain ⟨v1, v2⟩ := ho.v
  obtain ⟨s1, s2⟩ := ho.s hV hi
  rw [y_lostBy hb hV.2.1 hV.2.2.1 hV.2.2.2.1 hi ho.1 ho.2.1 ho.2.2.1 v1 v2]
  unfold lbP
  rw [← s1, ← s2]
  rfl
theorem y_wbP {i no a b : Nat} {M : Mem} (hb : Bs w h L nt τ M) (hV : VlM O S Q n op tg R U M) (hi : i < n) (ho : opT op i no a b) : f_X12_wonBy (some 230) (nI i) (nI no) (nI a) (nI b) M = some (nI (wbP S R U (Q i) no a b), M) := by
  obtain ⟨v1, v2⟩ := ho.v
  obtain ⟨s1, s2⟩ := ho.s hV hi
  rw [y_wonBy hb hV.2.1 hV.2.2.1 hV.2.2.2.1 hi ho.1 ho.2.1 ho.2.2.1 v1 v2]
  unfold wbP
  rw [← s1, ← s2]
  rfl
/-- the three noes of an offer -/
theorem op3_T {i q : Nat} (hq : q ∈ TQ) (ho : inq (op i) q = true) : opT op i (qx q) (qy q) (qz q) ∧ opT op i (qy q) (qx q) (qz q) ∧ opT op i (qz q) (qx q) (qy q) := by
  obtain ⟨hq1, hq2⟩ := TQ_tri q hq
  obtain ⟨o1, o2, o3, o4, o5, o6, o7, o8, o9⟩ := op3_q (op := op) (i := i) hq1 hq2 ho
  exact ⟨⟨o1, o2, o3, o4, o5, o7, o8, o9⟩, ⟨o2, o1, o3, o4.symm, o6, o8, o7, o9⟩, ⟨o3, o1, o2, o5.symm, o6.symm, o9, o7, o8⟩⟩
theorem y_wiP {i q : Nat} {M : Mem} (hb : Bs w h L nt τ M) (hV : VlM O S Q n op tg R U M) (hi : i < n) (hq : q ∈ TQ) (ho : inq (op i) q = true) : f_X12_winsBy (some 230) (nI i) (nI (qx q)) (nI (qy q)) (nI (qz q)) M = some (nI (wiP S R U (Q i) q), M) := by
  obtain ⟨hq1, hq2⟩ := TQ_tri q hq
  obtain ⟨h1, h2, h3⟩ := op3_T hq ho
  rw [y_winsBy hb hV.2.1 hV.2.2.1 hV.2.2.2.1 hi (op3_q hq1 hq2 ho)]
  unfold wiP lbP wiN
  rw [← (h1.s hV hi).1, ← (h1.s hV hi).2, ← (h2.s hV hi).1, ← (h2.s hV hi).2, ← (h3.s hV hi).1, ← (h3.s hV hi).2]
  rfl
theorem y_loP {i q : Nat} {M : Mem} (hb : Bs w h L nt τ M) (hV : VlM O S Q n op tg R U M) (hi : i < n) (hq : q ∈ TQ) (ho : inq (op i) q = true) : f_X12_losesBy (some 230) (nI i) (nI (qx q)) (nI (qy q)) (nI (qz q)) M = some (nI (loP S R U (Q i) q), M) := by
  obtain ⟨hq1, hq2⟩ := TQ_tri q hq
  obtain ⟨h1, h2, h3⟩ := op3_T hq ho
  rw [y_losesBy hb hV.2.1 hV.2.2.1 hV.2.2.2.1 hi (op3_q hq1 hq2 ho)]
  unfold loP wbP loN
  rw [← (h1.s hV hi).1, ← (h1.s hV hi).2, ← (h2.s hV hi).1, ← (h2.s hV hi).2, ← (h3.s hV hi).1, ← (h3.s hV hi).2]
  rfl
def pk3 (q k : Nat) : Nat := if k = 0 then qx q else if k = 1 then qy q else qz q
theorem y_partOf {q k : Nat} {M : Mem} (hq : q < 512) (hk : k < 3) : f_X12_partOf (nI q) (nI k) M = some (nI (pk3 q k), M) := by
  have n64 : ∀ {X : Option (Int32 × Mem)}, nzI (64 : Int32) X = X := nz_y (y := 64) (by decide)
  have n8 : ∀ {X : Option (Int32 × Mem)}, nzI (8 : Int32) X = X := nz_y (y := 8) (by decide)
  have d1 : nI q / (64 : Int32) = nI (qx q) := pk_div (d := 64) (by omega) (by decide) (by decide)
  have d2 : nI q / (8 : Int32) = nI (q / 8) := pk_div (d := 8) (by omega) (by decide) (by decide)
  have d3 : nI (q / 8) - nI (q / 8) / (8 : Int32) * (8 : Int32) = nI (qy q) := pk_rem (d := 8) (by omega) (by decide) (by decide)
  have d4 : nI q - nI (q / 8) * (8 : Int32) = nI (qz q) := nI_remN (d := 8) (by omega) (by decide) (by decide)
  unfold f_X12_partOf pk3
  rcases (show k = 0 ∨ k = 1 ∨ k = 2 by omega) with rfl | rfl | rfl
  · rw [if_pos (by decide), n64, d1, if_pos rfl]
  · rw [if_neg (by decide), if_pos (by decide), n8, n8, d2, d3, if_neg (by decide), if_pos rfl]
  · rw [if_neg (by decide), if_neg (by decide), n8, d2, d4, if_neg (by decide), if_neg (by decide)]
/-- the k-th no, and the others -/
def nkO (q k no a b : Nat) : Prop := (k = 0 ∧ no = qx q ∧ a = qy q ∧ b = qz q) ∨ (k = 1 ∧ no = qy q ∧ a = qx q ∧ b = qz q) ∨ (k = 2 ∧ no = qz q ∧ a = qx q ∧ b = qy q)
theorem nkO.o {i q k no a b : Nat} (hk : nkO q k no a b) (hq : q ∈ TQ) (ho : inq (op i) q = true) : opT op i no a b := by
  obtain ⟨h1, h2, h3⟩ := op3_T hq ho
  rcases hk with ⟨-, rfl, rfl, rfl⟩ | ⟨-, rfl, rfl, rfl⟩ | ⟨-, rfl, rfl, rfl⟩
  · exact h1
  · exact h2
  · exact h3
theorem y_w83 {i q k no a b f : Nat} {lg : Int32} {M : Mem} (hb : Bs w h L nt τ M) (hV : VlM O S Q n op tg R U M) (hi : i < n) (hq : q ∈ TQ) (ho : inq (op i) q = true) (hk : nkO q k no a b) (h66 : mI M 230 66 = nI q) : f_X12_winsOn_83 (f + 1) (some 230) (nI i) lg (nI k) M = if nI (lbP S R U (Q i) no a b) ≤ lg then f_X12_winsOn_83 f (some 230) (nI i) lg (nI (k + 1)) M else f_X12_winsOn_83 f (some 230) (nI i) (nI (lbP S R U (Q i) no a b)) (nI (k + 1)) (sI (sI M 230 67 (nI no)) 230 68 (nI (if R (S (Q i) no a) = 2 ∧ U (S (Q i) no a) = lbP S R U (Q i) no a b then a else b))) := by
  have hl := hb.lay
  have hT := hk.o hq ho
  obtain ⟨hq1, hq2⟩ := TQ_tri q hq
  obtain ⟨v1, v2⟩ := hT.v
  obtain ⟨s1, s2⟩ := hT.s hV hi
  have f1 : Fx [] [(230, 67)] M (sI M 230 67 (nI no)) := Fx.wI (Or.inr (by decide))
  have hb1 := hb.fx f1 (by decide) (by decide)
  have hl1 := hb1.lay
  have hn := hV.2.2.2.1
  have hT' := id hT
  obtain ⟨o1, o2, o3, -⟩ := hT'
  have hle : lbP S R U (Q i) no a b < 2 ^ 31 := by
    have := lbV_bd (ra := R (S (Q i) no a)) (rb := R (S (Q i) no b)) (hV.2.2.2.2.2 (S (Q i) no a)) (hV.2.2.2.2.2 (S (Q i) no b))
    unfold lbP
    omega
  have s130 : f_X12_winsOn_130 (f_X12_winsOn_83 f) (some 230) (nI i) lg (nI k) (nI no) (nI a) (nI q) (nI (if k = 2 then 1 else 2)) M = if nI (lbP S R U (Q i) no a b) ≤ lg then f_X12_winsOn_83 f (some 230) (nI i) lg (nI (k + 1)) M else f_X12_winsOn_83 f (some 230) (nI i) (nI (lbP S R U (Q i) no a b)) (nI (k + 1)) (sI (sI M 230 67 (nI no)) 230 68 (nI (if R (S (Q i) no a) = 2 ∧ U (S (Q i) no a) = lbP S R U (Q i) no a b then a else b))) := by
    have hp : pk3 q (if k = 2 then 1 else 2) = b := by
      unfold pk3
      rcases hk with ⟨rfl, -, -, rfl⟩ | ⟨rfl, -, -, rfl⟩ | ⟨rfl, -, -, rfl⟩ <;> rfl
    unfold f_X12_winsOn_130
    rw [y_partOf hq1 (by split <;> decide), cA_s, hp, cR_t (ly_t230 hl), y_lbP hb hV hi hT, cA_s, nI_1]
    by_cases z : nI (lbP S R U (Q i) no a b) ≤ lg
    · rw [if_pos z, if_pos z]
    · obtain ⟨g1, g2⟩ := (hV.2.1.2 (64 * i + 8 * no + a) (by omega)).1 v1
      obtain ⟨k1, k2, k3⟩ := hV.2.2.1 _ g1
      have k1 : mI M 265 (tg (64 * i + 8 * no + a)) = nI (R (S (Q i) no a)) := by rw [k1]; show nI (R (Q _)) = _; rw [s1]
      have hr2 := hV.2.2.2.2.1 (S (Q i) no a)
      rw [if_neg z, if_neg z, pI_t (ly_t230 hl), gR_t (ly_t230 hl1), ly_r230_61 hl1, e_64, aI_t (ly_t264 hl1) (by omega) (by decide), mI_na (by decide), g2, gR_t (ly_t230 hl1), ly_r230_62 hl1, aI_t (ly_t265 hl1) (by omega) (by decide), mI_na (show 265 ≠ 230 by decide), k1]
      by_cases y : R (S (Q i) no a) = 2
      · have k4 := (k3 (by show R (Q _) ≠ 0; rw [s1]; omega)).1
        have k4 : mI M 266 (tg (64 * i + 8 * no + a)) = nI (U (S (Q i) no a)) := by rw [k4]; show nI (U (Q _)) = _; rw [s1]
        have hu2 := hV.2.2.2.2.2 (S (Q i) no a)
        rw [if_pos (by rw [y]; rfl), gR_t (ly_t230 hl1), ly_r230_63 hl1, aI_t (ly_t266 hl1) (by omega) (by decide), mI_na (show 266 ≠ 230 by decide), k4]
        by_cases x : U (S (Q i) no a) = lbP S R U (Q i) no a b
        · rw [if_pos (by rw [x]), pI_t (ly_t230 hl1), if_pos (show R (S (Q i) no a) = 2 ∧ U (S (Q i) no a) = lbP S R U (Q i) no a b from ⟨y, x⟩)]
        · rw [if_neg (nIne (by omega) hle x), pI_t (ly_t230 hl1), if_neg (show ¬ (R (S (Q i) no a) = 2 ∧ U (S (Q i) no a) = lbP S R U (Q i) no a b) from fun t => x t.2)]
      · rw [if_neg (ne_2 (by omega) y), pI_t (ly_t230 hl1), if_neg (show ¬ (R (S (Q i) no a) = 2 ∧ U (S (Q i) no a) = lbP S R U (Q i) no a b) from fun t => y t.1)]
  rw [← s130, u_X12_winsOn_83]
  unfold b_X12_winsOn_83
  rcases hk with ⟨rfl, rfl, rfl, rfl⟩ | ⟨rfl, rfl, rfl, rfl⟩ | ⟨rfl, rfl, rfl, rfl⟩
  · rw [if_neg (by decide), gI_t (ly_t230 hl), h66, y_partOf hq1 (by decide), cA_s, gI_t (ly_t230 hl), h66, if_pos (by decide), show f_X12_partOf (nI q) (1 : Int32) M = _ from y_partOf (k := 1) hq1 (by decide), cA_s, gI_t (ly_t230 hl), h66, if_neg (by decide)]
    rfl
  · rw [if_neg (by decide), gI_t (ly_t230 hl), h66, y_partOf hq1 (by decide), cA_s, gI_t (ly_t230 hl), h66, if_neg (by decide), show f_X12_partOf (nI q) (0 : Int32) M = _ from y_partOf (k := 0) hq1 (by decide), cA_s, gI_t (ly_t230 hl), h66, if_neg (by decide)]
    rfl
  · rw [if_neg (by decide), gI_t (ly_t230 hl), h66, y_partOf hq1 (by decide), cA_s, gI_t (ly_t230 hl), h66, if_neg (by decide), show f_X12_partOf (nI q) (0 : Int32) M = _ from y_partOf (k := 0) hq1 (by decide), cA_s, gI_t (ly_t230 hl), h66, if_pos (by decide)]
    rfl
theorem y_l78 {i q k no a b f : Nat} {sh : Nat} {M : Mem} (hb : Bs w h L nt τ M) (hV : VlM O S Q n op tg R U M) (hi : i < n) (hq : q ∈ TQ) (ho : inq (op i) q = true) (hk : nkO q k no a b) (h66 : mI M 230 66 = nI q) (hsh : sh ≤ 100000) : f_X12_losesOn_78 (f + 1) (some 230) (nI i) (nI sh) (nI k) M = if sh ≤ wbP S R U (Q i) no a b then f_X12_losesOn_78 f (some 230) (nI i) (nI sh) (nI (k + 1)) M else f_X12_losesOn_78 f (some 230) (nI i) (nI (wbP S R U (Q i) no a b)) (nI (k + 1)) (sI (sI M 230 67 (nI no)) 230 68 (nI (if U (S (Q i) no a) = wbP S R U (Q i) no a b then a else b))) := by
  have hl := hb.lay
  have hT := hk.o hq ho
  obtain ⟨hq1, hq2⟩ := TQ_tri q hq
  obtain ⟨v1, v2⟩ := hT.v
  obtain ⟨s1, s2⟩ := hT.s hV hi
  have f1 : Fx [] [(230, 67)] M (sI M 230 67 (nI no)) := Fx.wI (Or.inr (by decide))
  have hb1 := hb.fx f1 (by decide) (by decide)
  have hl1 := hb1.lay
  have hn := hV.2.2.2.1
  have hT' := id hT
  obtain ⟨o1, o2, o3, -⟩ := hT'
  have hle : wbP S R U (Q i) no a b ≤ 100000 := by
    have := wbV_bd (ra := R (S (Q i) no a)) (rb := R (S (Q i) no b)) (hV.2.2.2.2.2 (S (Q i) no a)) (hV.2.2.2.2.2 (S (Q i) no b))
    unfold wbP
    omega
  have s129 : f_X12_losesOn_129 (f_X12_losesOn_78 f) (some 230) (nI i) (nI sh) (nI k) (nI no) (nI a) (nI q) (nI (if k = 2 then 1 else 2)) M = if sh ≤ wbP S R U (Q i) no a b then f_X12_losesOn_78 f (some 230) (nI i) (nI sh) (nI (k + 1)) M else f_X12_losesOn_78 f (some 230) (nI i) (nI (wbP S R U (Q i) no a b)) (nI (k + 1)) (sI (sI M 230 67 (nI no)) 230 68 (nI (if U (S (Q i) no a) = wbP S R U (Q i) no a b then a else b))) := by
    have hp : pk3 q (if k = 2 then 1 else 2) = b := by
      unfold pk3
      rcases hk with ⟨rfl, -, -, rfl⟩ | ⟨rfl, -, -, rfl⟩ | ⟨rfl, -, -, rfl⟩ <;> rfl
    unfold f_X12_losesOn_129
    rw [y_partOf hq1 (by split <;> decide), cA_s, hp, cR_t (ly_t230 hl), y_wbP hb hV hi hT, cA_s, nI_1]
    by_cases z : sh ≤ wbP S R U (Q i) no a b
    · rw [if_pos (nI_le z (by omega)), if_pos z]
    · obtain ⟨g1, g2⟩ := (hV.2.1.2 (64 * i + 8 * no + a) (by omega)).1 v1
      obtain ⟨k1, k2, k3⟩ := hV.2.2.1 _ g1
      have hw := (wbV_lt (ra := R (S (Q i) no a)) (ta := U (S (Q i) no a)) (rb := R (S (Q i) no b)) (tb := U (S (Q i) no b)) (B := 100000) (Nat.le_refl _)).mp (by show wbP S R U (Q i) no a b < 100000; omega)
      have k4 := (k3 (by show R (Q _) ≠ 0; rw [s1]; omega)).1
      have k4 : mI M 266 (tg (64 * i + 8 * no + a)) = nI (U (S (Q i) no a)) := by rw [k4]; show nI (U (Q _)) = _; rw [s1]
      have hu2 := hV.2.2.2.2.2 (S (Q i) no a)
      rw [if_neg (nI_ge (by omega) (by omega)), if_neg z, pI_t (ly_t230 hl), gR_t (ly_t230 hl1), ly_r230_61 hl1, e_64, aI_t (ly_t264 hl1) (by omega) (by decide), mI_na (by decide), g2, gR_t (ly_t230 hl1), ly_r230_63 hl1, aI_t (ly_t266 hl1) (by omega) (by decide), mI_na (show 266 ≠ 230 by decide), k4]
      by_cases x : U (S (Q i) no a) = wbP S R U (Q i) no a b
      · rw [if_pos (by rw [x]), pI_t (ly_t230 hl1), if_pos x]
      · rw [if_neg (nIne (by omega) (by omega) x), pI_t (ly_t230 hl1), if_neg x]
  rw [← s129, u_X12_losesOn_78]
  unfold b_X12_losesOn_78
  rcases hk with ⟨rfl, rfl, rfl, rfl⟩ | ⟨rfl, rfl, rfl, rfl⟩ | ⟨rfl, rfl, rfl, rfl⟩
  · rw [if_neg (by decide), gI_t (ly_t230 hl), h66, y_partOf hq1 (by decide), cA_s, gI_t (ly_t230 hl), h66, if_pos (by decide), show f_X12_partOf (nI q) (1 : Int32) M = _ from y_partOf (k := 1) hq1 (by decide), cA_s, gI_t (ly_t230 hl), h66, if_neg (by decide)]
    rfl
  · rw [if_neg (by decide), gI_t (ly_t230 hl), h66, y_partOf hq1 (by decide), cA_s, gI_t (ly_t230 hl), h66, if_neg (by decide), show f_X12_partOf (nI q) (0 : Int32) M = _ from y_partOf (k := 0) hq1 (by decide), cA_s, gI_t (ly_t230 hl), h66, if_neg (by decide)]
    rfl
  · rw [if_neg (by decide), gI_t (ly_t230 hl), h66, y_partOf hq1 (by decide), cA_s, gI_t (ly_t230 hl), h66, if_neg (by decide), show f_X12_partOf (nI q) (0 : Int32) M = _ from y_partOf (k := 0) hq1 (by decide), cA_s, gI_t (ly_t230 hl), h66, if_pos (by decide)]
    rfl
end YLINE
