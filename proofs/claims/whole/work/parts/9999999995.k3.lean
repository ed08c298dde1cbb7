/-! written by wip/gen/mkk0.py -/
section K03
variable {M0 : Mem}
theorem k_f_X12_hasPiece {r0 : Option Nat} {i1 : Int32} {M : Mem}  (hM : G0 M0 M) : K0 M0 (f_X12_hasPiece r0 i1 M) := by
  unfold f_X12_hasPiece
  exact (k_if (k_tv (k_some hM)) (k_gR fun _ => (k_aI fun _ => (k_if (k_tv (k_some hM)) (k_tv (k_some hM))))))
theorem k_f_X12_isEmpty {r0 : Option Nat} {i1 : Int32} {M : Mem}  (hM : G0 M0 M) : K0 M0 (f_X12_isEmpty r0 i1 M) := by
  unfold f_X12_isEmpty
  exact (k_if (k_tv (k_some hM)) (k_gR fun _ => (k_aI fun _ => (k_if (k_tv (k_some hM)) (k_tv (k_some hM))))))
theorem k_f_X12_actTo {r0 : Option Nat} {i1 : Int32} {i2 : Int32} {M : Mem}  (hM : G0 M0 M) : K0 M0 (f_X12_actTo r0 i1 i2 M) := by
  unfold f_X12_actTo
  exact (k_gR fun _ => (k_aI fun _ => (k_gR fun _ => (k_aI fun _ => (k_gR fun _ => (k_aI fun _ => (k_gI fun _ => (k_if (k_cR (k_cA (k_f_X12_beside  hM) fun _ M1 hM1 => (k_cR (k_cA (k_f_X12_beside  hM1) fun _ M2 hM2 => (k_gR fun _ => (k_aI fun _ => (k_if (k_cR (k_cA (k_f_X12_isEmpty  hM2) fun _ M7 hM7 => (k_if (k_some hM7) (k_some hM7)))) (k_if (k_cR (k_cA (k_f_X12_hasPiece  hM2) fun _ M5 hM5 => (k_if (k_some hM5) (k_cR (k_cA (k_f_X12_isEmpty  hM5) fun _ M6 hM6 => (k_if (k_some hM6) (k_some hM6))))))) (k_if (k_cR (k_cA (k_f_X12_hasPiece  hM2) fun _ M3 hM3 => (k_if (k_some hM3) (k_cR (k_cA (k_f_X12_isEmpty  hM3) fun _ M4 hM4 => (k_if (k_some hM4) (k_some hM4))))))) (k_gR fun _ => (k_aI fun _ => (k_if (k_some hM2) (k_some hM2))))))))))))) (k_some hM)))))))))
theorem k_b_X12_piecesOf_4 {q4 : Option Nat → Int32 → Int32 → Int32 → Mem → Option (Int32 × Mem)} {r0 : Option Nat} {i1 : Int32} {i2 : Int32} {i3 : Int32} {M : Mem} (hq4 : ∀ (x0 : Option Nat) (x1 : Int32) (x2 : Int32) (x3 : Int32) (x4 : Mem), G0 M0 x4 → K0 M0 (q4 x0 x1 x2 x3 x4)) (hM : G0 M0 M) : K0 M0 (b_X12_piecesOf_4 q4 r0 i1 i2 i3 M) := by
  unfold b_X12_piecesOf_4
  exact (k_gI fun _ => (k_if (k_some hM) (k_gR fun _ => (k_aI fun _ => (k_if (hq4 _ _ _ _ _ hM) (k_gR fun _ => (k_aI fun _ => (k_nzI (k_if (hq4 _ _ _ _ _ hM) (hq4 _ _ _ _ _ hM))))))))))
theorem k_f_X12_piecesOf_4   : ∀ (n : Nat) (x0 : Option Nat) (x1 : Int32) (x2 : Int32) (x3 : Int32) (x4 : Mem), G0 M0 x4 → K0 M0 (f_X12_piecesOf_4  n x0 x1 x2 x3 x4)
  | 0 => fun _ _ _ _ _ _ => k_none
  | n + 1 => fun _ _ _ _ _ h => k_b_X12_piecesOf_4  (k_f_X12_piecesOf_4  n) h
theorem k_f_X12_piecesOf {r0 : Option Nat} {i1 : Int32} {M : Mem}  (hM : G0 M0 M) : K0 M0 (f_X12_piecesOf r0 i1 M) := by
  unfold f_X12_piecesOf
  exact (k_f_X12_piecesOf_4  _ _ _ _ _ _ hM)
theorem k_f_X12_names {r0 : Option Nat} {i1 : Int32} {i2 : Int32} {i3 : Int32} {M : Mem}  (hM : G0 M0 M) : K0 M0 (f_X12_names r0 i1 i2 i3 M) := by
  unfold f_X12_names
  exact (k_gR fun _ => (k_wI (by decide) hM fun M1 hM1 => (k_gR fun _ => (k_gR fun _ => (k_aI fun _ => (k_wI (by decide) hM1 fun M2 hM2 => (k_gR fun _ => (k_wI (by decide) hM2 fun M3 hM3 => (k_gR fun _ => (k_wI (by decide) hM3 fun M4 hM4 => (k_gR fun _ => (k_gI fun _ => (k_cR (k_cA (k_f_X12_piecesOf  hM4) fun _ M5 hM5 => (k_wI (by decide) hM5 fun M6 hM6 => (k_gR fun _ => (k_gI fun _ => (k_cR (k_cA (k_f_X12_piecesOf  hM6) fun _ M7 hM7 => (k_wI (by decide) hM7 fun M8 hM8 => (k_gR fun _ => (k_gI fun _ => (k_wI (by decide) hM8 fun M9 hM9 => (k_some hM9))))))))))))))))))))))))
theorem k_f_X12_bound {l0 : Int64} {M : Mem}  (hM : G0 M0 M) : K0 M0 (f_X12_bound l0 M) := by
  unfold f_X12_bound
  exact (k_if (k_if (k_some hM) (k_some hM)) (k_some hM))
theorem k_f_X12_worked {i0 : Int32} {l1 : Int64} {l3 : Int64} {M : Mem}  (hM : G0 M0 M) : K0 M0 (f_X12_worked i0 l1 l3 M) := by
  unfold f_X12_worked
  exact (k_if (k_if (k_some hM) (k_some hM)) (k_if (k_cA (k_f_X12_bound  hM) fun _ M3 hM3 => (k_some hM3)) (k_if (k_cA (k_f_X12_bound  hM) fun _ M2 hM2 => (k_some hM2)) (k_if (k_cA (k_f_X12_bound  hM) fun _ M1 hM1 => (k_some hM1)) (k_if (k_if (k_some hM) (k_nzL (k_some hM))) (k_if (k_if (k_some hM) (k_some hM)) (k_if (k_if (k_some hM) (k_some hM)) (k_if (k_if (k_some hM) (k_some hM)) (k_if (k_if (k_some hM) (k_some hM)) (k_if (k_if (k_some hM) (k_some hM)) (k_if (k_some hM) (k_if (k_some hM) (k_some hM)))))))))))))
theorem k_f_X12_saysOf_40 {q4 : Option Nat → Int32 → Int32 → Mem → Option (Int64 × Mem)} {r0 : Option Nat} {i2 : Int32} {i3 : Int32} {i4 : Int32} {M : Mem} (hq4 : ∀ (x0 : Option Nat) (x1 : Int32) (x2 : Int32) (x3 : Mem), G0 M0 x3 → K0 M0 (q4 x0 x1 x2 x3)) (hM : G0 M0 M) : K0 M0 (f_X12_saysOf_40 q4 r0 i2 i3 i4 M) := by
  unfold f_X12_saysOf_40
  exact (k_gR fun _ => (k_if (k_gR fun _ => (k_aI fun _ => (k_wL hM fun M1 hM1 => (hq4 _ _ _ _ hM1)))) (k_gR fun _ => (k_gR fun _ => (k_aI fun _ => (k_aI fun _ => (k_wL hM fun M2 hM2 => (hq4 _ _ _ _ hM2))))))))
theorem k_b_X12_saysOf_4 {q4 : Option Nat → Int32 → Int32 → Mem → Option (Int64 × Mem)} {r0 : Option Nat} {i2 : Int32} {i3 : Int32} {M : Mem} (hq4 : ∀ (x0 : Option Nat) (x1 : Int32) (x2 : Int32) (x3 : Mem), G0 M0 x3 → K0 M0 (q4 x0 x1 x2 x3)) (hM : G0 M0 M) : K0 M0 (b_X12_saysOf_4 q4 r0 i2 i3 M) := by
  unfold b_X12_saysOf_4
  exact (k_gR fun _ => (k_aI fun _ => (k_if (k_gR fun _ => (k_aL fun _ => (k_some hM))) (k_gR fun _ => (k_aI fun _ => (k_if (k_f_X12_saysOf_40 hq4 hM) (k_if (k_f_X12_saysOf_40 hq4 hM) (k_if (k_gR fun _ => (k_gR fun _ => (k_aL fun _ => (k_wL hM fun M1 hM1 => (hq4 _ _ _ _ hM1))))) (k_if (k_gR fun _ => (k_gR fun _ => (k_aL fun _ => (k_wL hM fun M2 hM2 => (hq4 _ _ _ _ hM2))))) (k_gR fun _ => (k_gR fun _ => (k_aL fun _ => (k_gR fun _ => (k_aL fun _ => (k_cA (k_f_X12_worked  hM) fun _ M3 hM3 => (k_wL hM3 fun M4 hM4 => (hq4 _ _ _ _ hM4)))))))))))))))))
theorem k_f_X12_saysOf_4   : ∀ (n : Nat) (x0 : Option Nat) (x1 : Int32) (x2 : Int32) (x3 : Mem), G0 M0 x3 → K0 M0 (f_X12_saysOf_4  n x0 x1 x2 x3)
  | 0 => fun _ _ _ _ _ => k_none
  | n + 1 => fun _ _ _ _ h => k_b_X12_saysOf_4  (k_f_X12_saysOf_4  n) h
theorem k_f_X12_saysOf {r0 : Option Nat} {i1 : Int32} {M : Mem}  (hM : G0 M0 M) : K0 M0 (f_X12_saysOf r0 i1 M) := by
  unfold f_X12_saysOf
  exact (k_f_X12_saysOf_4  _ _ _ _ _ hM)
theorem k_f_X12_toBy {r0 : Option Nat} {i1 : Int32} {i2 : Int32} {i3 : Int32} {M : Mem}  (hM : G0 M0 M) : K0 M0 (f_X12_toBy r0 i1 i2 i3 M) := by
  unfold f_X12_toBy
  exact (k_cR (k_cA (k_f_X12_actTo  hM) fun _ M1 hM1 => (k_if (k_some hM1) (k_gR fun _ => (k_aI fun _ => (k_if (k_some hM1) (k_cR (k_cA (k_f_X12_names  hM1) fun _ M2 hM2 => (k_gR fun _ => (k_aI fun _ => (k_cR (k_cA (k_f_X12_saysOf  hM2) fun _ M3 hM3 => (k_if (k_some hM3) (k_some hM3))))))))))))))
theorem k_b_X12_clauseFor_2 {q2 : Option Nat → Int32 → Int32 → Int32 → Mem → Option (Int32 × Mem)} {r0 : Option Nat} {i1 : Int32} {i2 : Int32} {i3 : Int32} {M : Mem} (hq2 : ∀ (x0 : Option Nat) (x1 : Int32) (x2 : Int32) (x3 : Int32) (x4 : Mem), G0 M0 x4 → K0 M0 (q2 x0 x1 x2 x3 x4)) (hM : G0 M0 M) : K0 M0 (b_X12_clauseFor_2 q2 r0 i1 i2 i3 M) := by
  unfold b_X12_clauseFor_2
  exact (k_gR fun _ => (k_gR fun _ => (k_aI fun _ => (k_aI fun _ => (k_if (k_some hM) (k_gR fun _ => (k_aI fun _ => (k_gR fun _ => (k_aI fun _ => (k_if (k_cR (k_cA (k_f_X12_toBy  hM) fun _ M1 hM1 => (k_pI hM1 fun M2 hM2 => (k_gI fun _ => (k_if (hq2 _ _ _ _ _ hM2) (k_some hM2)))))) (hq2 _ _ _ _ _ hM)))))))))))
theorem k_f_X12_clauseFor_2   : ∀ (n : Nat) (x0 : Option Nat) (x1 : Int32) (x2 : Int32) (x3 : Int32) (x4 : Mem), G0 M0 x4 → K0 M0 (f_X12_clauseFor_2  n x0 x1 x2 x3 x4)
  | 0 => fun _ _ _ _ _ _ => k_none
  | n + 1 => fun _ _ _ _ _ h => k_b_X12_clauseFor_2  (k_f_X12_clauseFor_2  n) h
theorem k_f_X12_clauseFor {r0 : Option Nat} {i1 : Int32} {i2 : Int32} {M : Mem}  (hM : G0 M0 M) : K0 M0 (f_X12_clauseFor r0 i1 i2 M) := by
  unfold f_X12_clauseFor
  exact (k_f_X12_clauseFor_2  _ _ _ _ _ _ hM)
theorem k_b_X12_sumOf_6 {q6 : Option Nat → Int32 → Int32 → Int32 → Int64 → Int32 → Mem → Option (Int64 × Mem)} {r0 : Option Nat} {i1 : Int32} {i2 : Int32} {i3 : Int32} {l4 : Int64} {i6 : Int32} {M : Mem} (hq6 : ∀ (x0 : Option Nat) (x1 : Int32) (x2 : Int32) (x3 : Int32) (x4 : Int64) (x5 : Int32) (x6 : Mem), G0 M0 x6 → K0 M0 (q6 x0 x1 x2 x3 x4 x5 x6)) (hM : G0 M0 M) : K0 M0 (b_X12_sumOf_6 q6 r0 i1 i2 i3 l4 i6 M) := by
  unfold b_X12_sumOf_6
  exact (k_if (k_some hM) (k_gR fun _ => (k_aI fun _ => (k_if (k_some hM) (k_gR fun _ => (k_aI fun _ => (k_if (k_gI fun _ => (k_gI fun _ => (k_cR (k_cA (k_f_X12_names  hM) fun _ M1 hM1 => (k_gR fun _ => (k_aI fun _ => (k_cR (k_cA (k_f_X12_saysOf  hM1) fun _ M2 hM2 => (hq6 _ _ _ _ _ _ _ hM2))))))))) (hq6 _ _ _ _ _ _ _ hM))))))))
theorem k_f_X12_sumOf_6   : ∀ (n : Nat) (x0 : Option Nat) (x1 : Int32) (x2 : Int32) (x3 : Int32) (x4 : Int64) (x5 : Int32) (x6 : Mem), G0 M0 x6 → K0 M0 (f_X12_sumOf_6  n x0 x1 x2 x3 x4 x5 x6)
  | 0 => fun _ _ _ _ _ _ _ _ => k_none
  | n + 1 => fun _ _ _ _ _ _ _ h => k_b_X12_sumOf_6  (k_f_X12_sumOf_6  n) h
theorem k_f_X12_sumOf {r0 : Option Nat} {i1 : Int32} {i2 : Int32} {i3 : Int32} {M : Mem}  (hM : G0 M0 M) : K0 M0 (f_X12_sumOf r0 i1 i2 i3 M) := by
  unfold f_X12_sumOf
  exact (k_f_X12_sumOf_6  _ _ _ _ _ _ _ _ hM)
theorem k_f_X12_canDo_102 {r0 : Option Nat} {i2 : Int32} {i3 : Int32} {i4 : Int32} {M : Mem}  (hM : G0 M0 M) : K0 M0 (f_X12_canDo_102 r0 i2 i3 i4 M) := by
  unfold f_X12_canDo_102
  exact (k_pI hM fun M1 hM1 => (k_pI hM1 fun M2 hM2 => (k_pI hM2 fun M3 hM3 => (k_if (k_tv (k_some hM3)) (k_tv (k_some hM3))))))
theorem k_b_X12_canDo_13 {q13 : Option Nat → Int32 → Int32 → Int32 → Int32 → Int64 → Int32 → Mem → Option (Int32 × Mem)} {r0 : Option Nat} {i1 : Int32} {i2 : Int32} {i3 : Int32} {i4 : Int32} {l5 : Int64} {i7 : Int32} {M : Mem} (hq13 : ∀ (x0 : Option Nat) (x1 : Int32) (x2 : Int32) (x3 : Int32) (x4 : Int32) (x5 : Int64) (x6 : Int32) (x7 : Mem), G0 M0 x7 → K0 M0 (q13 x0 x1 x2 x3 x4 x5 x6 x7)) (hM : G0 M0 M) : K0 M0 (b_X12_canDo_13 q13 r0 i1 i2 i3 i4 l5 i7 M) := by
  unfold b_X12_canDo_13
  exact (k_gI fun _ => (k_if (k_f_X12_canDo_102  hM) (k_gR fun _ => (k_aI fun _ => (k_if (k_f_X12_canDo_102  hM) (k_cR (k_cA (k_f_X12_clauseFor  hM) fun _ M1 hM1 => (k_if (hq13 _ _ _ _ _ _ _ _ hM1) (k_pI hM1 fun M2 hM2 => (k_gR fun _ => (k_aI fun _ => (k_cR (k_cA (k_f_X12_sumOf  hM2) fun _ M3 hM3 => (k_if (k_gI fun _ => (hq13 _ _ _ _ _ _ _ _ hM3)) (k_if (hq13 _ _ _ _ _ _ _ _ hM3) (k_gI fun _ => (hq13 _ _ _ _ _ _ _ _ hM3)))))))))))))))))
theorem k_f_X12_canDo_13   : ∀ (n : Nat) (x0 : Option Nat) (x1 : Int32) (x2 : Int32) (x3 : Int32) (x4 : Int32) (x5 : Int64) (x6 : Int32) (x7 : Mem), G0 M0 x7 → K0 M0 (f_X12_canDo_13  n x0 x1 x2 x3 x4 x5 x6 x7)
  | 0 => fun _ _ _ _ _ _ _ _ _ => k_none
  | n + 1 => fun _ _ _ _ _ _ _ _ h => k_b_X12_canDo_13  (k_f_X12_canDo_13  n) h
theorem k_f_X12_canDo {r0 : Option Nat} {i1 : Int32} {M : Mem}  (hM : G0 M0 M) : K0 M0 (f_X12_canDo r0 i1 M) := by
  unfold f_X12_canDo
  exact (k_f_X12_canDo_13  _ _ _ _ _ _ _ _ _ hM)
theorem k_b_X12_laysMoves_7 {q7 : Option Nat → Int32 → Mem → Option (Unit × Mem)} {r0 : Option Nat} {i1 : Int32} {M : Mem} (hq7 : ∀ (x0 : Option Nat) (x1 : Int32) (x2 : Mem), G0 M0 x2 → K0 M0 (q7 x0 x1 x2)) (hM : G0 M0 M) : K0 M0 (b_X12_laysMoves_7 q7 r0 i1 M) := by
  unfold b_X12_laysMoves_7
  exact (k_if (k_some hM) (k_cR (k_cA (k_f_X12_canDo  hM) fun _ M1 hM1 => (k_gR fun _ => (k_gI fun _ => (k_wI (by decide) hM1 fun M2 hM2 => (k_gR fun _ => (k_gI fun _ => (k_wI (by decide) hM2 fun M3 hM3 => (k_gR fun _ => (k_gI fun _ => (k_wI (by decide) hM3 fun M4 hM4 => (k_if (k_gI fun _ => (k_pI hM4 fun M5 hM5 => (hq7 _ _ _ hM5))) (k_gR fun _ => (k_aI fun _ => (k_if (k_gI fun _ => (k_pI hM4 fun M6 hM6 => (hq7 _ _ _ hM6))) (k_gI fun _ => (k_pI hM4 fun M7 hM7 => (hq7 _ _ _ hM7)))))))))))))))))))
theorem k_f_X12_laysMoves_7   : ∀ (n : Nat) (x0 : Option Nat) (x1 : Int32) (x2 : Mem), G0 M0 x2 → K0 M0 (f_X12_laysMoves_7  n x0 x1 x2)
  | 0 => fun _ _ _ _ => k_none
  | n + 1 => fun _ _ _ h => k_b_X12_laysMoves_7  (k_f_X12_laysMoves_7  n) h
theorem k_f_X12_laysMoves {r0 : Option Nat} {M : Mem}  (hM : G0 M0 M) : K0 M0 (f_X12_laysMoves r0 M) := by
  unfold f_X12_laysMoves
  exact (k_pI hM fun M1 hM1 => (k_f_X12_laysMoves_7  _ _ _ _ hM1))
theorem k_b_X12_laysNow_31 {q31 : Option Nat → Int32 → Mem → Option (Unit × Mem)} {r0 : Option Nat} {i1 : Int32} {M : Mem} (hq31 : ∀ (x0 : Option Nat) (x1 : Int32) (x2 : Mem), G0 M0 x2 → K0 M0 (q31 x0 x1 x2)) (hM : G0 M0 M) : K0 M0 (b_X12_laysNow_31 q31 r0 i1 M) := by
  unfold b_X12_laysNow_31
  exact (k_if (k_gR fun _ => (k_aI fun _ => (k_pI hM fun M1 hM1 => (k_some hM1)))) (k_gR fun _ => (k_gR fun _ => (k_aI fun _ => (k_wI (by decide) hM fun M2 hM2 => (hq31 _ _ _ hM2))))))
theorem k_f_X12_laysNow_31   : ∀ (n : Nat) (x0 : Option Nat) (x1 : Int32) (x2 : Mem), G0 M0 x2 → K0 M0 (f_X12_laysNow_31  n x0 x1 x2)
  | 0 => fun _ _ _ _ => k_none
  | n + 1 => fun _ _ _ h => k_b_X12_laysNow_31  (k_f_X12_laysNow_31  n) h
theorem k_b_X12_laysNow_2 {q2 : Option Nat → Int32 → Mem → Option (Unit × Mem)} {r0 : Option Nat} {i1 : Int32} {M : Mem} (hq2 : ∀ (x0 : Option Nat) (x1 : Int32) (x2 : Mem), G0 M0 x2 → K0 M0 (q2 x0 x1 x2)) (hM : G0 M0 M) : K0 M0 (b_X12_laysNow_2 q2 r0 i1 M) := by
  unfold b_X12_laysNow_2
  exact (k_if (k_f_X12_laysNow_31  _ _ _ _ hM) (k_gR fun _ => (k_gR fun _ => (k_aI fun _ => (k_wI (by decide) hM fun M1 hM1 => (hq2 _ _ _ hM1))))))
theorem k_f_X12_laysNow_2   : ∀ (n : Nat) (x0 : Option Nat) (x1 : Int32) (x2 : Mem), G0 M0 x2 → K0 M0 (f_X12_laysNow_2  n x0 x1 x2)
  | 0 => fun _ _ _ _ => k_none
  | n + 1 => fun _ _ _ h => k_b_X12_laysNow_2  (k_f_X12_laysNow_2  n) h
theorem k_f_X12_laysNow {r0 : Option Nat} {M : Mem}  (hM : G0 M0 M) : K0 M0 (f_X12_laysNow r0 M) := by
  unfold f_X12_laysNow
  exact (k_f_X12_laysNow_2  _ _ _ _ hM)
theorem k_f_X12_plays_203 {r0 : Option Nat} {i4 : Int32} {i5 : Int32} {i7 : Int32} {M : Mem}  (hM : G0 M0 M) : K0 M0 (f_X12_plays_203 r0 i4 i5 i7 M) := by
  unfold f_X12_plays_203
  exact (k_gR fun _ => (k_wI (by decide) hM fun M1 hM1 => (k_gR fun _ => (k_wI (by decide) hM1 fun M2 hM2 => (k_gI fun _ => (k_pI hM2 fun M3 hM3 => (k_some hM3)))))))
theorem k_f_X12_plays_173 {r0 : Option Nat} {i3 : Int32} {i4 : Int32} {i5 : Int32} {i6 : Int32} {i7 : Int32} {i8 : Int32} {M : Mem}  (hM : G0 M0 M) : K0 M0 (f_X12_plays_173 r0 i3 i4 i5 i6 i7 i8 M) := by
  unfold f_X12_plays_173
  exact (k_gR fun _ => (k_aI fun _ => (k_if (k_gR fun _ => (k_cR (k_cA (k_f_X12_beside  hM) fun _ M1 hM1 => (k_gR fun _ => (k_aI fun _ => (k_wI (by decide) hM1 fun M2 hM2 => (k_f_X12_plays_203  hM2))))))) (k_f_X12_plays_203  hM))))
theorem k_f_X12_plays_117 {r0 : Option Nat} {i3 : Int32} {i4 : Int32} {i5 : Int32} {i6 : Int32} {i7 : Int32} {M : Mem}  (hM : G0 M0 M) : K0 M0 (f_X12_plays_117 r0 i3 i4 i5 i6 i7 M) := by
  unfold f_X12_plays_117
  exact (k_cR (k_cA (k_f_X12_beside  hM) fun _ M1 hM1 => (k_gR fun _ => (k_aI fun _ => (k_if (k_gR fun _ => (k_gR fun _ => (k_aI fun _ => (k_nzI (k_gI fun _ => (k_if (k_gR fun _ => (k_aI fun _ => (k_wI (by decide) hM1 fun M2 hM2 => (k_f_X12_plays_173  hM2)))) (k_wI (by decide) hM1 fun M3 hM3 => (k_f_X12_plays_173  hM3)))))))) (k_f_X12_plays_173  hM1))))))
theorem k_f_X12_plays_27 {r0 : Option Nat} {i2 : Int32} {sr0 : Option Nat} {si1 : Int32} {si2 : Int32} {M : Mem}  (hM : G0 M0 M) : K0 M0 (f_X12_plays_27 r0 i2 sr0 si1 si2 M) := by
  unfold f_X12_plays_27
  exact (k_wI (by decide) hM fun M1 hM1 => (k_gR fun _ => (k_aI fun _ => (k_wI (by decide) hM1 fun M2 hM2 => (k_gR fun _ => (k_aI fun _ => (k_gR fun _ => (k_aI fun _ => (k_gR fun _ => (k_aI fun _ => (k_gR fun _ => (k_aI fun _ => (k_gR fun _ => (k_aI fun _ => (k_gR fun _ => (k_aI fun _ => (k_gR fun _ => (k_aI fun _ => (k_if (k_f_X12_plays_117  hM2) (k_gR fun _ => (k_aI fun _ => (k_if (k_f_X12_plays_117  hM2) (k_gR fun _ => (k_aI fun _ => (k_if (k_f_X12_plays_117  hM2) (k_gR fun _ => (k_gI fun _ => (k_wI (by decide) hM2 fun M3 hM3 => (k_gI fun _ => (k_pI hM3 fun M4 hM4 => (k_some hM4)))))))))))))))))))))))))))))))
theorem k_f_X12_plays {r0 : Option Nat} {i1 : Int32} {i2 : Int32} {M : Mem}  (hM : G0 M0 M) : K0 M0 (f_X12_plays r0 i1 i2 M) := by
  unfold f_X12_plays
  exact (k_gR fun _ => (k_gR fun _ => (k_aI fun _ => (k_if (k_f_X12_plays_27  hM) (k_gR fun _ => (k_aI fun _ => (k_f_X12_plays_27  hM)))))))
theorem k_b_X12_judges_26 {q26 : Option Nat → Int32 → Mem → Option (Int32 × Mem)} {r0 : Option Nat} {i1 : Int32} {M : Mem} (hq26 : ∀ (x0 : Option Nat) (x1 : Int32) (x2 : Mem), G0 M0 x2 → K0 M0 (q26 x0 x1 x2)) (hM : G0 M0 M) : K0 M0 (b_X12_judges_26 q26 r0 i1 M) := by
  unfold b_X12_judges_26
  exact (k_gR fun _ => (k_aI fun _ => (k_if (k_some hM) (k_cR (k_cA (k_f_X12_laysMoves  hM) fun _ M1 hM1 => (k_gR fun _ => (k_aI fun _ => (k_gR fun _ => (k_aI fun _ => (k_gR fun _ => (k_aI fun _ => (k_gR fun _ => (k_aI fun _ => (k_gR fun _ => (k_aI fun _ => (k_cR (k_cA (k_f_X12_canPly  hM1) fun _ M2 hM2 => (k_if (k_some hM2) (k_gR fun _ => (k_aI fun _ => (k_gR fun _ => (k_aI fun _ => (k_cR (k_cA (k_f_X12_plays  hM2) fun _ M3 hM3 => (k_gR fun _ => (k_cR (k_cA (k_f_X12_boardCode  hM3) fun _ M4 hM4 => (k_wL hM4 fun M5 hM5 => (k_gR fun _ => (k_cR (k_cA (k_f_X12_heapCode  hM5) fun _ M6 hM6 => (k_wI (by decide) hM6 fun M7 hM7 => (hq26 _ _ _ hM7)))))))))))))))))))))))))))))))))
theorem k_f_X12_judges_26   : ∀ (n : Nat) (x0 : Option Nat) (x1 : Int32) (x2 : Mem), G0 M0 x2 → K0 M0 (f_X12_judges_26  n x0 x1 x2)
  | 0 => fun _ _ _ _ => k_none
  | n + 1 => fun _ _ _ h => k_b_X12_judges_26  (k_f_X12_judges_26  n) h
theorem k_f_X12_judges {r0 : Option Nat} {M : Mem}  (hM : G0 M0 M) : K0 M0 (f_X12_judges r0 M) := by
  unfold f_X12_judges
  exact (k_cR (k_cA (k_f_X12_laysNow  hM) fun _ M1 hM1 => (k_gR fun _ => (k_cR (k_cA (k_f_X12_boardCode  hM1) fun _ M2 hM2 => (k_wL hM2 fun M3 hM3 => (k_gR fun _ => (k_cR (k_cA (k_f_X12_heapCode  hM3) fun _ M4 hM4 => (k_wI (by decide) hM4 fun M5 hM5 => (k_f_X12_judges_26  _ _ _ _ hM5)))))))))))
theorem k_b_X12_again_31 {q23 : Option Nat → Int32 → Int32 → Mem → Option (Int32 × Mem)} {q31 : Option Nat → Int32 → Int32 → Int32 → Mem → Option (Int32 × Mem)} {r0 : Option Nat} {i2 : Int32} {i3 : Int32} {i4 : Int32} {M : Mem} (hq23 : ∀ (x0 : Option Nat) (x1 : Int32) (x2 : Int32) (x3 : Mem), G0 M0 x3 → K0 M0 (q23 x0 x1 x2 x3)) (hq31 : ∀ (x0 : Option Nat) (x1 : Int32) (x2 : Int32) (x3 : Int32) (x4 : Mem), G0 M0 x4 → K0 M0 (q31 x0 x1 x2 x3 x4)) (hM : G0 M0 M) : K0 M0 (b_X12_again_31 q23 q31 r0 i2 i3 i4 M) := by
  unfold b_X12_again_31
  exact (k_if (hq23 _ _ _ _ hM) (k_gR fun _ => (k_aL fun _ => (k_gR fun _ => (k_aL fun _ => (k_if (k_gR fun _ => (k_aI fun _ => (k_gR fun _ => (k_aI fun _ => (k_if (hq31 _ _ _ _ _ hM) (k_some hM)))))) (hq31 _ _ _ _ _ hM)))))))
theorem k_f_X12_again_31 {q23 : Option Nat → Int32 → Int32 → Mem → Option (Int32 × Mem)} (hq23 : ∀ (x0 : Option Nat) (x1 : Int32) (x2 : Int32) (x3 : Mem), G0 M0 x3 → K0 M0 (q23 x0 x1 x2 x3)) : ∀ (n : Nat) (x0 : Option Nat) (x1 : Int32) (x2 : Int32) (x3 : Int32) (x4 : Mem), G0 M0 x4 → K0 M0 (f_X12_again_31 q23 n x0 x1 x2 x3 x4)
  | 0 => fun _ _ _ _ _ _ => k_none
  | n + 1 => fun _ _ _ _ _ h => k_b_X12_again_31 hq23 (k_f_X12_again_31 hq23 n) h
theorem k_b_X12_again_23 {q23 : Option Nat → Int32 → Int32 → Mem → Option (Int32 × Mem)} {r0 : Option Nat} {i2 : Int32} {i3 : Int32} {M : Mem} (hq23 : ∀ (x0 : Option Nat) (x1 : Int32) (x2 : Int32) (x3 : Mem), G0 M0 x3 → K0 M0 (q23 x0 x1 x2 x3)) (hM : G0 M0 M) : K0 M0 (b_X12_again_23 q23 r0 i2 i3 M) := by
  unfold b_X12_again_23
  exact (k_if (k_some hM) (k_f_X12_again_31 hq23 _ _ _ _ _ _ hM))
theorem k_f_X12_again_23   : ∀ (n : Nat) (x0 : Option Nat) (x1 : Int32) (x2 : Int32) (x3 : Mem), G0 M0 x3 → K0 M0 (f_X12_again_23  n x0 x1 x2 x3)
  | 0 => fun _ _ _ _ _ => k_none
  | n + 1 => fun _ _ _ _ h => k_b_X12_again_23  (k_f_X12_again_23  n) h
theorem k_f_X12_again {r0 : Option Nat} {M : Mem}  (hM : G0 M0 M) : K0 M0 (f_X12_again r0 M) := by
  unfold f_X12_again
  exact (k_cR (k_cA (k_f_X12_judges  hM) fun _ M1 hM1 => (k_if (k_gR fun _ => (k_aI fun _ => (k_f_X12_again_23  _ _ _ _ _ hM1))) (k_f_X12_again_23  _ _ _ _ _ hM1))))
theorem k_b_X12_copies_2 {q2 : Option Nat → Int32 → Int32 → Mem → Option (Unit × Mem)} {r0 : Option Nat} {i1 : Int32} {i2 : Int32} {M : Mem} (hq2 : ∀ (x0 : Option Nat) (x1 : Int32) (x2 : Int32) (x3 : Mem), G0 M0 x3 → K0 M0 (q2 x0 x1 x2 x3)) (hM : G0 M0 M) : K0 M0 (b_X12_copies_2 q2 r0 i1 i2 M) := by
  unfold b_X12_copies_2
  exact (k_if (k_some hM) (k_if (k_gR fun _ => (k_gR fun _ => (k_aI fun _ => (k_wI (by decide) hM fun M1 hM1 => (hq2 _ _ _ _ hM1))))) (k_gR fun _ => (k_gR fun _ => (k_aI fun _ => (k_wI (by decide) hM fun M2 hM2 => (hq2 _ _ _ _ hM2)))))))
theorem k_f_X12_copies_2   : ∀ (n : Nat) (x0 : Option Nat) (x1 : Int32) (x2 : Int32) (x3 : Mem), G0 M0 x3 → K0 M0 (f_X12_copies_2  n x0 x1 x2 x3)
  | 0 => fun _ _ _ _ _ => k_none
  | n + 1 => fun _ _ _ _ h => k_b_X12_copies_2  (k_f_X12_copies_2  n) h
theorem k_f_X12_copies {r0 : Option Nat} {i1 : Int32} {M : Mem}  (hM : G0 M0 M) : K0 M0 (f_X12_copies r0 i1 M) := by
  unfold f_X12_copies
  exact (k_f_X12_copies_2  _ _ _ _ _ hM)
theorem k_f_X12_pieces {r0 : Option Nat} {M : Mem}  (hM : G0 M0 M) : K0 M0 (f_X12_pieces r0 M) := by
  unfold f_X12_pieces
  exact (k_cR (k_cA (k_f_X12_laysNow  hM) fun _ M1 hM1 => (k_cR (k_cA (k_f_X12_piecesOf  hM1) fun _ M2 hM2 => (k_cR (k_cA (k_f_X12_piecesOf  hM2) fun _ M3 hM3 => (k_some hM3)))))))
theorem k_f_X12_back {r0 : Option Nat} {M : Mem}  (hM : G0 M0 M) : K0 M0 (f_X12_back r0 M) := by
  unfold f_X12_back
  exact (k_cR (k_cA (k_f_X12_copies  hM) fun _ M1 hM1 => (k_cR (k_cA (k_f_X12_pieces  hM1) fun _ M2 hM2 => (k_some hM2)))))
theorem k_b_X12_cellOf_30 {q30 : Option Nat → Int64 → Int32 → Mem → Option (Int32 × Mem)} {r0 : Option Nat} {l1 : Int64} {i3 : Int32} {M : Mem} (hq30 : ∀ (x0 : Option Nat) (x1 : Int64) (x2 : Int32) (x3 : Mem), G0 M0 x3 → K0 M0 (q30 x0 x1 x2 x3)) (hM : G0 M0 M) : K0 M0 (b_X12_cellOf_30 q30 r0 l1 i3 M) := by
  unfold b_X12_cellOf_30
  exact (k_gR fun _ => (k_aI fun _ => (k_if (k_some hM) (k_gR fun _ => (k_gR fun _ => (k_aI fun _ => (k_aL fun _ => (k_if (k_some hM) (k_nzI (hq30 _ _ _ _ hM))))))))))
theorem k_f_X12_cellOf_30   : ∀ (n : Nat) (x0 : Option Nat) (x1 : Int64) (x2 : Int32) (x3 : Mem), G0 M0 x3 → K0 M0 (f_X12_cellOf_30  n x0 x1 x2 x3)
  | 0 => fun _ _ _ _ _ => k_none
  | n + 1 => fun _ _ _ _ h => k_b_X12_cellOf_30  (k_f_X12_cellOf_30  n) h
theorem k_f_X12_cellOf {r0 : Option Nat} {l1 : Int64} {M : Mem}  (hM : G0 M0 M) : K0 M0 (f_X12_cellOf r0 l1 M) := by
  unfold f_X12_cellOf
  exact (k_nzL (k_if (k_f_X12_cellOf_30  _ _ _ _ _ hM) (k_f_X12_cellOf_30  _ _ _ _ _ hM)))
theorem k_f_X12_codeOf {r0 : Option Nat} {M : Mem}  (hM : G0 M0 M) : K0 M0 (f_X12_codeOf r0 M) := by
  unfold f_X12_codeOf
  exact (k_cR (k_cA (k_f_X12_boardCode  hM) fun _ M1 hM1 => (k_cR (k_cA (k_f_X12_heapCode  hM1) fun _ M2 hM2 => (k_some hM2)))))
theorem k_b_X12_bits_4 {q4 : Int32 → Int32 → Int32 → Mem → Option (Int32 × Mem)} {i0 : Int32} {i1 : Int32} {i2 : Int32} {M : Mem} (hq4 : ∀ (x0 : Int32) (x1 : Int32) (x2 : Int32) (x3 : Mem), G0 M0 x3 → K0 M0 (q4 x0 x1 x2 x3)) (hM : G0 M0 M) : K0 M0 (b_X12_bits_4 q4 i0 i1 i2 M) := by
  unfold b_X12_bits_4
  exact (k_if (k_some hM) (hq4 _ _ _ _ hM))
theorem k_f_X12_bits_4   : ∀ (n : Nat) (x0 : Int32) (x1 : Int32) (x2 : Int32) (x3 : Mem), G0 M0 x3 → K0 M0 (f_X12_bits_4  n x0 x1 x2 x3)
  | 0 => fun _ _ _ _ _ => k_none
  | n + 1 => fun _ _ _ _ h => k_b_X12_bits_4  (k_f_X12_bits_4  n) h
theorem k_f_X12_bits {i0 : Int32} {M : Mem}  (hM : G0 M0 M) : K0 M0 (f_X12_bits i0 M) := by
  unfold f_X12_bits
  exact (k_f_X12_bits_4  _ _ _ _ _ hM)
theorem k_f_X12_isOver {r0 : Option Nat} {M : Mem}  (hM : G0 M0 M) : K0 M0 (f_X12_isOver r0 M) := by
  unfold f_X12_isOver
  exact (k_gI fun _ => (k_cA (k_f_X12_bits  hM) fun _ M1 hM1 => (k_if (k_tv (k_some hM1)) (k_tv (k_some hM1)))))
theorem k_b_X12_laysState_44 {q44 : Option Nat → Int64 → Int32 → Mem → Option (Unit × Mem)} {r0 : Option Nat} {l3 : Int64} {i5 : Int32} {M : Mem} (hq44 : ∀ (x0 : Option Nat) (x1 : Int64) (x2 : Int32) (x3 : Mem), G0 M0 x3 → K0 M0 (q44 x0 x1 x2 x3)) (hM : G0 M0 M) : K0 M0 (b_X12_laysState_44 q44 r0 l3 i5 M) := by
  unfold b_X12_laysState_44
  exact (k_if (k_pI hM fun M1 hM1 => (k_some hM1)) (k_gR fun _ => (k_nzL (k_wI (by decide) hM fun M2 hM2 => (k_nzL (hq44 _ _ _ _ hM2))))))
theorem k_f_X12_laysState_44   : ∀ (n : Nat) (x0 : Option Nat) (x1 : Int64) (x2 : Int32) (x3 : Mem), G0 M0 x3 → K0 M0 (f_X12_laysState_44  n x0 x1 x2 x3)
  | 0 => fun _ _ _ _ _ => k_none
  | n + 1 => fun _ _ _ _ h => k_b_X12_laysState_44  (k_f_X12_laysState_44  n) h
theorem k_b_X12_laysState_6 {q6 : Option Nat → Int64 → Int32 → Mem → Option (Unit × Mem)} {r0 : Option Nat} {l3 : Int64} {i5 : Int32} {M : Mem} (hq6 : ∀ (x0 : Option Nat) (x1 : Int64) (x2 : Int32) (x3 : Mem), G0 M0 x3 → K0 M0 (q6 x0 x1 x2 x3)) (hM : G0 M0 M) : K0 M0 (b_X12_laysState_6 q6 r0 l3 i5 M) := by
  unfold b_X12_laysState_6
  exact (k_if (k_gI fun _ => (k_f_X12_laysState_44  _ _ _ _ _ hM)) (k_gR fun _ => (k_nzL (k_wI (by decide) hM fun M1 hM1 => (k_nzL (hq6 _ _ _ _ hM1))))))
theorem k_f_X12_laysState_6   : ∀ (n : Nat) (x0 : Option Nat) (x1 : Int64) (x2 : Int32) (x3 : Mem), G0 M0 x3 → K0 M0 (f_X12_laysState_6  n x0 x1 x2 x3)
  | 0 => fun _ _ _ _ _ => k_none
  | n + 1 => fun _ _ _ _ h => k_b_X12_laysState_6  (k_f_X12_laysState_6  n) h
theorem k_f_X12_laysState {r0 : Option Nat} {l1 : Int64} {M : Mem}  (hM : G0 M0 M) : K0 M0 (f_X12_laysState r0 l1 M) := by
  unfold f_X12_laysState
  exact (k_f_X12_laysState_6  _ _ _ _ _ hM)
theorem k_f_X12_laysStates_245 {q59 : Option Nat → Int32 → Mem → Option (Int32 × Mem)} {q106 : Option Nat → Int32 → Int32 → Int32 → Mem → Option (Int32 × Mem)} {r0 : Option Nat} {i1 : Int32} {i2 : Int32} {i3 : Int32} {i6 : Int32} {M : Mem} (hq59 : ∀ (x0 : Option Nat) (x1 : Int32) (x2 : Mem), G0 M0 x2 → K0 M0 (q59 x0 x1 x2)) (hq106 : ∀ (x0 : Option Nat) (x1 : Int32) (x2 : Int32) (x3 : Int32) (x4 : Mem), G0 M0 x4 → K0 M0 (q106 x0 x1 x2 x3 x4)) (hM : G0 M0 M) : K0 M0 (f_X12_laysStates_245 q59 q106 r0 i1 i2 i3 i6 M) := by
  unfold f_X12_laysStates_245
  exact (k_gR fun _ => (k_gR fun _ => (k_aI fun _ => (k_wI (by decide) hM fun M1 hM1 => (hq106 _ _ _ _ _ hM1)))))
theorem k_b_X12_laysStates_106 {q59 : Option Nat → Int32 → Mem → Option (Int32 × Mem)} {q106 : Option Nat → Int32 → Int32 → Int32 → Mem → Option (Int32 × Mem)} {r0 : Option Nat} {i1 : Int32} {i2 : Int32} {i3 : Int32} {M : Mem} (hq59 : ∀ (x0 : Option Nat) (x1 : Int32) (x2 : Mem), G0 M0 x2 → K0 M0 (q59 x0 x1 x2)) (hq106 : ∀ (x0 : Option Nat) (x1 : Int32) (x2 : Int32) (x3 : Int32) (x4 : Mem), G0 M0 x4 → K0 M0 (q106 x0 x1 x2 x3 x4)) (hM : G0 M0 M) : K0 M0 (b_X12_laysStates_106 q59 q106 r0 i1 i2 i3 M) := by
  unfold b_X12_laysStates_106
  exact (k_if (hq59 _ _ _ hM) (k_gR fun _ => (k_wI (by decide) hM fun M1 hM1 => (k_nzI (k_nzI (k_if (hq106 _ _ _ _ _ hM1) (k_nzI (k_nzI (k_if (k_gR fun _ => (k_aL fun _ => (k_cR (k_cA (k_f_X12_laysState  hM1) fun _ M2 hM2 => (k_nzI (k_nzI (k_cR (k_cA (k_f_X12_plays  hM2) fun _ M3 hM3 => (k_cR (k_cA (k_f_X12_codeOf  hM3) fun _ M4 hM4 => (k_cR (k_cA (k_f_X12_cellOf  hM4) fun _ M5 hM5 => (k_gR fun _ => (k_aI fun _ => (k_if (k_gI fun _ => (k_if (k_tv (k_some hM5)) (k_gR fun _ => (k_gI fun _ => (k_wI (by decide) hM5 fun M6 hM6 => (k_gR fun _ => (k_gI fun _ => (k_wL hM6 fun M7 hM7 => (k_gI fun _ => (k_pI hM7 fun M8 hM8 => (k_f_X12_laysStates_245 hq59 hq106 hM8))))))))))) (k_f_X12_laysStates_245 hq59 hq106 hM5)))))))))))))))) (hq106 _ _ _ _ _ hM1))))))))))
theorem k_f_X12_laysStates_106 {q59 : Option Nat → Int32 → Mem → Option (Int32 × Mem)} (hq59 : ∀ (x0 : Option Nat) (x1 : Int32) (x2 : Mem), G0 M0 x2 → K0 M0 (q59 x0 x1 x2)) : ∀ (n : Nat) (x0 : Option Nat) (x1 : Int32) (x2 : Int32) (x3 : Int32) (x4 : Mem), G0 M0 x4 → K0 M0 (f_X12_laysStates_106 q59 n x0 x1 x2 x3 x4)
  | 0 => fun _ _ _ _ _ _ => k_none
  | n + 1 => fun _ _ _ _ _ h => k_b_X12_laysStates_106 hq59 (k_f_X12_laysStates_106 hq59 n) h
theorem k_b_X12_laysStates_59 {q59 : Option Nat → Int32 → Mem → Option (Int32 × Mem)} {r0 : Option Nat} {i1 : Int32} {M : Mem} (hq59 : ∀ (x0 : Option Nat) (x1 : Int32) (x2 : Mem), G0 M0 x2 → K0 M0 (q59 x0 x1 x2)) (hM : G0 M0 M) : K0 M0 (b_X12_laysStates_59 q59 r0 i1 M) := by
  unfold b_X12_laysStates_59
  exact (k_gI fun _ => (k_if (k_tv (k_some hM)) (k_gR fun _ => (k_aL fun _ => (k_cR (k_cA (k_f_X12_laysState  hM) fun _ M1 hM1 => (k_cR (k_cA (k_f_X12_laysMoves  hM1) fun _ M2 hM2 => (k_cR (k_cA (k_f_X12_isOver  hM2) fun _ M3 hM3 => (k_if (k_gI fun _ => (k_gR fun _ => (k_wI (by decide) hM3 fun M4 hM4 => (k_f_X12_laysStates_106 hq59 _ _ _ _ _ _ hM4)))) (k_gR fun _ => (k_wI (by decide) hM3 fun M5 hM5 => (k_f_X12_laysStates_106 hq59 _ _ _ _ _ _ hM5))))))))))))))
theorem k_f_X12_laysStates_59   : ∀ (n : Nat) (x0 : Option Nat) (x1 : Int32) (x2 : Mem), G0 M0 x2 → K0 M0 (f_X12_laysStates_59  n x0 x1 x2)
  | 0 => fun _ _ _ _ => k_none
  | n + 1 => fun _ _ _ h => k_b_X12_laysStates_59  (k_f_X12_laysStates_59  n) h
theorem k_b_X12_laysStates_2 {q2 : Option Nat → Int32 → Mem → Option (Int32 × Mem)} {r0 : Option Nat} {i1 : Int32} {M : Mem} (hq2 : ∀ (x0 : Option Nat) (x1 : Int32) (x2 : Mem), G0 M0 x2 → K0 M0 (q2 x0 x1 x2)) (hM : G0 M0 M) : K0 M0 (b_X12_laysStates_2 q2 r0 i1 M) := by
  unfold b_X12_laysStates_2
  exact (k_if (k_cR (k_cA (k_f_X12_laysNow  hM) fun _ M1 hM1 => (k_gR fun _ => (k_cR (k_cA (k_f_X12_codeOf  hM1) fun _ M2 hM2 => (k_wL hM2 fun M3 hM3 => (k_gR fun _ => (k_gR fun _ => (k_aL fun _ => (k_cR (k_cA (k_f_X12_cellOf  hM3) fun _ M4 hM4 => (k_wI (by decide) hM4 fun M5 hM5 => (k_pI hM5 fun M6 hM6 => (k_f_X12_laysStates_59  _ _ _ _ hM6)))))))))))))) (k_gR fun _ => (k_wI (by decide) hM fun M7 hM7 => (hq2 _ _ _ hM7))))
theorem k_f_X12_laysStates_2   : ∀ (n : Nat) (x0 : Option Nat) (x1 : Int32) (x2 : Mem), G0 M0 x2 → K0 M0 (f_X12_laysStates_2  n x0 x1 x2)
  | 0 => fun _ _ _ _ => k_none
  | n + 1 => fun _ _ _ h => k_b_X12_laysStates_2  (k_f_X12_laysStates_2  n) h
theorem k_f_X12_laysStates {r0 : Option Nat} {M : Mem}  (hM : G0 M0 M) : K0 M0 (f_X12_laysStates r0 M) := by
  unfold f_X12_laysStates
  exact (k_f_X12_laysStates_2  _ _ _ _ hM)
theorem k_f_X12_isOfferOf {i0 : Int32} {i1 : Int32} {M : Mem}  (hM : G0 M0 M) : K0 M0 (f_X12_isOfferOf i0 i1 M) := by
  unfold f_X12_isOfferOf
  exact (k_nzI (k_nzI (k_nzI (k_nzI (k_if (k_tv (k_some hM)) (k_if (k_tv (k_some hM)) (k_if (k_tv (k_some hM)) (k_tv (k_some hM)))))))))
theorem k_f_X12_wonBy {r0 : Option Nat} {i1 : Int32} {i2 : Int32} {i3 : Int32} {i4 : Int32} {M : Mem}  (hM : G0 M0 M) : K0 M0 (f_X12_wonBy r0 i1 i2 i3 i4 M) := by
  unfold f_X12_wonBy
  exact (k_gR fun _ => (k_aI fun _ => (k_gR fun _ => (k_aI fun _ => (k_gR fun _ => (k_aI fun _ => (k_if (k_gR fun _ => (k_aI fun _ => (k_if (k_gR fun _ => (k_aI fun _ => (k_gR fun _ => (k_aI fun _ => (k_if (k_gR fun _ => (k_aI fun _ => (k_some hM))) (k_gR fun _ => (k_aI fun _ => (k_some hM)))))))) (k_some hM)))) (k_some hM))))))))
theorem k_f_X12_losesBy {r0 : Option Nat} {i1 : Int32} {i2 : Int32} {i3 : Int32} {i4 : Int32} {M : Mem}  (hM : G0 M0 M) : K0 M0 (f_X12_losesBy r0 i1 i2 i3 i4 M) := by
  unfold f_X12_losesBy
  exact (k_cR (k_cA (k_f_X12_wonBy  hM) fun _ M1 hM1 => (k_cR (k_cA (k_f_X12_wonBy  hM1) fun _ M2 hM2 => (k_cR (k_cA (k_f_X12_wonBy  hM2) fun _ M3 hM3 => (k_if (k_if (k_some hM3) (k_some hM3)) (k_if (k_some hM3) (k_some hM3)))))))))
theorem k_f_X12_lostBy_61 {r0 : Option Nat} {i6 : Int32} {si0 : Int32} {M : Mem}  (hM : G0 M0 M) : K0 M0 (f_X12_lostBy_61 r0 i6 si0 M) := by
  unfold f_X12_lostBy_61
  exact (k_gR fun _ => (k_aI fun _ => (k_if (k_gR fun _ => (k_aI fun _ => (k_if (k_some hM) (k_gR fun _ => (k_aI fun _ => (k_some hM)))))) (k_some hM))))
theorem k_f_X12_lostBy {r0 : Option Nat} {i1 : Int32} {i2 : Int32} {i3 : Int32} {i4 : Int32} {M : Mem}  (hM : G0 M0 M) : K0 M0 (f_X12_lostBy r0 i1 i2 i3 i4 M) := by
  unfold f_X12_lostBy
  exact (k_gR fun _ => (k_aI fun _ => (k_gR fun _ => (k_aI fun _ => (k_gR fun _ => (k_aI fun _ => (k_if (k_gR fun _ => (k_aI fun _ => (k_f_X12_lostBy_61  hM))) (k_f_X12_lostBy_61  hM))))))))
theorem k_f_X12_winsBy {r0 : Option Nat} {i1 : Int32} {i2 : Int32} {i3 : Int32} {i4 : Int32} {M : Mem}  (hM : G0 M0 M) : K0 M0 (f_X12_winsBy r0 i1 i2 i3 i4 M) := by
  unfold f_X12_winsBy
  exact (k_cR (k_cA (k_f_X12_lostBy  hM) fun _ M1 hM1 => (k_cR (k_cA (k_f_X12_lostBy  hM1) fun _ M2 hM2 => (k_cR (k_cA (k_f_X12_lostBy  hM2) fun _ M3 hM3 => (k_if (k_if (k_some hM3) (k_some hM3)) (k_if (k_some hM3) (k_some hM3)))))))))
theorem k_f_X12_settles_134 {r0 : Option Nat} {i1 : Int32} {i4 : Int32} {i5 : Int32} {M : Mem}  (hM : G0 M0 M) : K0 M0 (f_X12_settles_134 r0 i1 i4 i5 M) := by
  unfold f_X12_settles_134
  exact (k_if (k_if (k_if (k_if (k_tv (k_some hM)) (k_tv (k_some hM))) (k_tv (k_some hM))) (k_gR fun _ => (k_wI (by decide) hM fun M1 hM1 => (k_if (k_if (k_tv (k_some hM1)) (k_tv (k_some hM1))) (k_tv (k_some hM1)))))) (k_gR fun _ => (k_wI (by decide) hM fun M2 hM2 => (k_if (k_if (k_tv (k_some hM2)) (k_tv (k_some hM2))) (k_tv (k_some hM2))))))
theorem k_f_X12_settles_70 {q16 : Option Nat → Int32 → Int32 → Int32 → Int32 → Int32 → Int32 → Mem → Option (Int32 × Mem)} {r0 : Option Nat} {i1 : Int32} {i2 : Int32} {i3 : Int32} {i5 : Int32} {i6 : Int32} {si0 : Int32} {M : Mem} (hq16 : ∀ (x0 : Option Nat) (x1 : Int32) (x2 : Int32) (x3 : Int32) (x4 : Int32) (x5 : Int32) (x6 : Int32) (x7 : Mem), G0 M0 x7 → K0 M0 (q16 x0 x1 x2 x3 x4 x5 x6 x7)) (hM : G0 M0 M) : K0 M0 (f_X12_settles_70 q16 r0 i1 i2 i3 i5 i6 si0 M) := by
  unfold f_X12_settles_70
  exact (k_if (hq16 _ _ _ _ _ _ _ _ hM) (k_nzI (k_nzI (k_nzI (k_nzI (k_cR (k_cA (k_f_X12_losesBy  hM) fun _ M1 hM1 => (k_if (hq16 _ _ _ _ _ _ _ _ hM1) (hq16 _ _ _ _ _ _ _ _ hM1)))))))))
theorem k_b_X12_settles_16 {q16 : Option Nat → Int32 → Int32 → Int32 → Int32 → Int32 → Int32 → Mem → Option (Int32 × Mem)} {r0 : Option Nat} {i1 : Int32} {i2 : Int32} {i3 : Int32} {i4 : Int32} {i5 : Int32} {i6 : Int32} {M : Mem} (hq16 : ∀ (x0 : Option Nat) (x1 : Int32) (x2 : Int32) (x3 : Int32) (x4 : Int32) (x5 : Int32) (x6 : Int32) (x7 : Mem), G0 M0 x7 → K0 M0 (q16 x0 x1 x2 x3 x4 x5 x6 x7)) (hM : G0 M0 M) : K0 M0 (b_X12_settles_16 q16 r0 i1 i2 i3 i4 i5 i6 M) := by
  unfold b_X12_settles_16
  exact (k_if (k_if (k_if (k_f_X12_settles_134  hM) (k_gR fun _ => (k_wI (by decide) hM fun M1 hM1 => (k_f_X12_settles_134  hM1)))) (k_gR fun _ => (k_wI (by decide) hM fun M2 hM2 => (k_f_X12_settles_134  hM2)))) (k_cA (k_f_X12_isOfferOf  hM) fun _ M3 hM3 => (k_if (hq16 _ _ _ _ _ _ _ _ hM3) (k_if (k_nzI (k_nzI (k_nzI (k_nzI (k_cR (k_cA (k_f_X12_winsBy  hM3) fun _ M4 hM4 => (k_if (k_f_X12_settles_70 hq16 hM4) (k_f_X12_settles_70 hq16 hM4)))))))) (k_f_X12_settles_70 hq16 hM3)))))
theorem k_f_X12_settles_16   : ∀ (n : Nat) (x0 : Option Nat) (x1 : Int32) (x2 : Int32) (x3 : Int32) (x4 : Int32) (x5 : Int32) (x6 : Int32) (x7 : Mem), G0 M0 x7 → K0 M0 (f_X12_settles_16  n x0 x1 x2 x3 x4 x5 x6 x7)
  | 0 => fun _ _ _ _ _ _ _ _ _ => k_none
  | n + 1 => fun _ _ _ _ _ _ _ _ h => k_b_X12_settles_16  (k_f_X12_settles_16  n) h
theorem k_f_X12_settles {r0 : Option Nat} {i1 : Int32} {i2 : Int32} {M : Mem}  (hM : G0 M0 M) : K0 M0 (f_X12_settles r0 i1 i2 M) := by
  unfold f_X12_settles
  exact (k_gR fun _ => (k_aI fun _ => (k_f_X12_settles_16  _ _ _ _ _ _ _ _ _ hM)))
theorem k_b_X12_laysResults_139 {q83 : Option Nat → Int32 → Int32 → Mem → Option (Int32 × Mem)} {q139 : Option Nat → Int32 → Int32 → Int32 → Mem → Option (Int32 × Mem)} {r0 : Option Nat} {i1 : Int32} {i2 : Int32} {i3 : Int32} {M : Mem} (hq83 : ∀ (x0 : Option Nat) (x1 : Int32) (x2 : Int32) (x3 : Mem), G0 M0 x3 → K0 M0 (q83 x0 x1 x2 x3)) (hq139 : ∀ (x0 : Option Nat) (x1 : Int32) (x2 : Int32) (x3 : Int32) (x4 : Mem), G0 M0 x4 → K0 M0 (q139 x0 x1 x2 x3 x4)) (hM : G0 M0 M) : K0 M0 (b_X12_laysResults_139 q83 q139 r0 i1 i2 i3 M) := by
  unfold b_X12_laysResults_139
  exact (k_gI fun _ => (k_if (hq83 _ _ _ _ hM) (k_gR fun _ => (k_gR fun _ => (k_aI fun _ => (k_wI (by decide) hM fun M1 hM1 => (hq139 _ _ _ _ _ hM1)))))))
theorem k_f_X12_laysResults_139 {q83 : Option Nat → Int32 → Int32 → Mem → Option (Int32 × Mem)} (hq83 : ∀ (x0 : Option Nat) (x1 : Int32) (x2 : Int32) (x3 : Mem), G0 M0 x3 → K0 M0 (q83 x0 x1 x2 x3)) : ∀ (n : Nat) (x0 : Option Nat) (x1 : Int32) (x2 : Int32) (x3 : Int32) (x4 : Mem), G0 M0 x4 → K0 M0 (f_X12_laysResults_139 q83 n x0 x1 x2 x3 x4)
  | 0 => fun _ _ _ _ _ _ => k_none
  | n + 1 => fun _ _ _ _ _ h => k_b_X12_laysResults_139 hq83 (k_f_X12_laysResults_139 hq83 n) h
theorem k_b_X12_laysResults_91 {q83 : Option Nat → Int32 → Int32 → Mem → Option (Int32 × Mem)} {q91 : Option Nat → Int32 → Int32 → Int32 → Mem → Option (Int32 × Mem)} {r0 : Option Nat} {i1 : Int32} {i2 : Int32} {i3 : Int32} {M : Mem} (hq83 : ∀ (x0 : Option Nat) (x1 : Int32) (x2 : Int32) (x3 : Mem), G0 M0 x3 → K0 M0 (q83 x0 x1 x2 x3)) (hq91 : ∀ (x0 : Option Nat) (x1 : Int32) (x2 : Int32) (x3 : Int32) (x4 : Mem), G0 M0 x4 → K0 M0 (q91 x0 x1 x2 x3 x4)) (hM : G0 M0 M) : K0 M0 (b_X12_laysResults_91 q83 q91 r0 i1 i2 i3 M) := by
  unfold b_X12_laysResults_91
  exact (k_gI fun _ => (k_if (k_f_X12_laysResults_139 hq83 _ _ _ _ _ _ hM) (k_gR fun _ => (k_aI fun _ => (k_if (k_cR (k_cA (k_f_X12_settles  hM) fun _ M1 hM1 => (k_if (k_if (hq91 _ _ _ _ _ hM1) (hq91 _ _ _ _ _ hM1)) (hq91 _ _ _ _ _ hM1)))) (hq91 _ _ _ _ _ hM))))))
theorem k_f_X12_laysResults_91 {q83 : Option Nat → Int32 → Int32 → Mem → Option (Int32 × Mem)} (hq83 : ∀ (x0 : Option Nat) (x1 : Int32) (x2 : Int32) (x3 : Mem), G0 M0 x3 → K0 M0 (q83 x0 x1 x2 x3)) : ∀ (n : Nat) (x0 : Option Nat) (x1 : Int32) (x2 : Int32) (x3 : Int32) (x4 : Mem), G0 M0 x4 → K0 M0 (f_X12_laysResults_91 q83 n x0 x1 x2 x3 x4)
  | 0 => fun _ _ _ _ _ _ => k_none
  | n + 1 => fun _ _ _ _ _ h => k_b_X12_laysResults_91 hq83 (k_f_X12_laysResults_91 hq83 n) h
theorem k_b_X12_laysResults_83 {q83 : Option Nat → Int32 → Int32 → Mem → Option (Int32 × Mem)} {r0 : Option Nat} {i1 : Int32} {i2 : Int32} {M : Mem} (hq83 : ∀ (x0 : Option Nat) (x1 : Int32) (x2 : Int32) (x3 : Mem), G0 M0 x3 → K0 M0 (q83 x0 x1 x2 x3)) (hM : G0 M0 M) : K0 M0 (b_X12_laysResults_83 q83 r0 i1 i2 M) := by
  unfold b_X12_laysResults_83
  exact (k_if (k_tv (k_some hM)) (k_f_X12_laysResults_91 hq83 _ _ _ _ _ _ hM))
theorem k_f_X12_laysResults_83   : ∀ (n : Nat) (x0 : Option Nat) (x1 : Int32) (x2 : Int32) (x3 : Mem), G0 M0 x3 → K0 M0 (f_X12_laysResults_83  n x0 x1 x2 x3)
  | 0 => fun _ _ _ _ _ => k_none
  | n + 1 => fun _ _ _ _ h => k_b_X12_laysResults_83  (k_f_X12_laysResults_83  n) h
theorem k_f_X12_laysResults_38 {q11 : Option Nat → Int32 → Mem → Option (Int32 × Mem)} {r0 : Option Nat} {i1 : Int32} {sr0 : Option Nat} {si1 : Int32} {si2 : Int32} {M : Mem} (hq11 : ∀ (x0 : Option Nat) (x1 : Int32) (x2 : Mem), G0 M0 x2 → K0 M0 (q11 x0 x1 x2)) (hM : G0 M0 M) : K0 M0 (f_X12_laysResults_38 q11 r0 i1 sr0 si1 si2 M) := by
  unfold f_X12_laysResults_38
  exact (k_wI (by decide) hM fun M1 hM1 => (k_gR fun _ => (k_gR fun _ => (k_aI fun _ => (k_if (k_wI (by decide) hM1 fun M2 hM2 => (k_gR fun _ => (k_gR fun _ => (k_aI fun _ => (k_wI (by decide) hM2 fun M3 hM3 => (hq11 _ _ _ hM3)))))) (k_wI (by decide) hM1 fun M4 hM4 => (k_gR fun _ => (k_gR fun _ => (k_aI fun _ => (k_wI (by decide) hM4 fun M5 hM5 => (hq11 _ _ _ hM5)))))))))))
theorem k_b_X12_laysResults_11 {q11 : Option Nat → Int32 → Mem → Option (Int32 × Mem)} {r0 : Option Nat} {i1 : Int32} {M : Mem} (hq11 : ∀ (x0 : Option Nat) (x1 : Int32) (x2 : Mem), G0 M0 x2 → K0 M0 (q11 x0 x1 x2)) (hM : G0 M0 M) : K0 M0 (b_X12_laysResults_11 q11 r0 i1 M) := by
  unfold b_X12_laysResults_11
  exact (k_gI fun _ => (k_if (k_f_X12_laysResults_83  _ _ _ _ _ hM) (k_gR fun _ => (k_gR fun _ => (k_aI fun _ => (k_if (k_f_X12_laysResults_38 hq11 hM) (k_f_X12_laysResults_38 hq11 hM)))))))
theorem k_f_X12_laysResults_11   : ∀ (n : Nat) (x0 : Option Nat) (x1 : Int32) (x2 : Mem), G0 M0 x2 → K0 M0 (f_X12_laysResults_11  n x0 x1 x2)
  | 0 => fun _ _ _ _ => k_none
  | n + 1 => fun _ _ _ h => k_b_X12_laysResults_11  (k_f_X12_laysResults_11  n) h
theorem k_f_X12_laysResults {r0 : Option Nat} {M : Mem}  (hM : G0 M0 M) : K0 M0 (f_X12_laysResults r0 M) := by
  unfold f_X12_laysResults
  exact (k_cR (k_cA (k_f_X12_laysStates  hM) fun _ M1 hM1 => (k_if (k_tv (k_some hM1)) (k_f_X12_laysResults_11  _ _ _ _ hM1))))
theorem k_b_X12_balanced_24 {q24 : Option Nat → Int32 → Int32 → Int32 → Int32 → Mem → Option (Int32 × Mem)} {r0 : Option Nat} {i1 : Int32} {i2 : Int32} {i3 : Int32} {i4 : Int32} {M : Mem} (hq24 : ∀ (x0 : Option Nat) (x1 : Int32) (x2 : Int32) (x3 : Int32) (x4 : Int32) (x5 : Mem), G0 M0 x5 → K0 M0 (q24 x0 x1 x2 x3 x4 x5)) (hM : G0 M0 M) : K0 M0 (b_X12_balanced_24 q24 r0 i1 i2 i3 i4 M) := by
  unfold b_X12_balanced_24
  exact (k_if (k_gR fun _ => (k_wI (by decide) hM fun M1 hM1 => (k_some hM1))) (k_if (k_gR fun _ => (k_wI (by decide) hM fun M2 hM2 => (k_cR (k_cA (k_f_X12_laysResults  hM2) fun _ M3 hM3 => (k_if (hq24 _ _ _ _ _ _ hM3) (k_gR fun _ => (k_aI fun _ => (k_if (hq24 _ _ _ _ _ _ hM3) (hq24 _ _ _ _ _ _ hM3))))))))) (k_gR fun _ => (k_wI (by decide) hM fun M4 hM4 => (k_some hM4)))))
theorem k_f_X12_balanced_24   : ∀ (n : Nat) (x0 : Option Nat) (x1 : Int32) (x2 : Int32) (x3 : Int32) (x4 : Int32) (x5 : Mem), G0 M0 x5 → K0 M0 (f_X12_balanced_24  n x0 x1 x2 x3 x4 x5)
  | 0 => fun _ _ _ _ _ _ _ => k_none
  | n + 1 => fun _ _ _ _ _ _ h => k_b_X12_balanced_24  (k_f_X12_balanced_24  n) h
theorem k_f_X12_balanced {r0 : Option Nat} {i1 : Int32} {M : Mem}  (hM : G0 M0 M) : K0 M0 (f_X12_balanced r0 i1 M) := by
  unfold f_X12_balanced
  exact (k_cA (k_f_X12_isMove  hM) fun _ M1 hM1 => (k_if (k_some hM1) (k_gR fun _ => (k_aI fun _ => (k_f_X12_balanced_24  _ _ _ _ _ _ _ hM1)))))
theorem k_f_X12_best {r0 : Option Nat} {i1 : Int32} {M : Mem}  (hM : G0 M0 M) : K0 M0 (f_X12_best r0 i1 M) := by
  unfold f_X12_best
  exact (k_cA (k_f_X12_in  hM) fun _ M1 hM1 => (k_if (k_some hM1) (k_cR (k_cA (k_f_X12_laysResults  hM1) fun _ M2 hM2 => (k_if (k_some hM2) (k_if (k_gR fun _ => (k_aI fun _ => (k_some hM2))) (k_gR fun _ => (k_aI fun _ => (k_if (k_some hM2) (k_gR fun _ => (k_aI fun _ => (k_some hM2))))))))))))
theorem k_f_X12_isText {r0 : Option Nat} {i1 : Int32} {M : Mem}  (hM : G0 M0 M) : K0 M0 (f_X12_isText r0 i1 M) := by
  unfold f_X12_isText
  exact (k_if (k_tv (k_some hM)) (k_gR fun _ => (k_aI fun _ => (k_cA (k_f_X12_in  hM) fun _ M1 hM1 => (k_if (k_tv (k_some hM1)) (k_tv (k_some hM1)))))))
theorem k_f_X12_book {r0 : Option Nat} {i1 : Int32} {M : Mem}  (hM : G0 M0 M) : K0 M0 (f_X12_book r0 i1 M) := by
  unfold f_X12_book
  exact (k_cR (k_cA (k_f_X12_isText  hM) fun _ M1 hM1 => (k_if (k_tv (k_some hM1)) (k_gR fun _ => (k_wI (by decide) hM1 fun M2 hM2 => (k_tv (k_some hM2)))))))
theorem k_f_X12_can {r0 : Option Nat} {i1 : Int32} {i2 : Int32} {M : Mem}  (hM : G0 M0 M) : K0 M0 (f_X12_can r0 i1 i2 M) := by
  unfold f_X12_can
  exact (k_cA (k_f_X12_isMove  hM) fun _ M1 hM1 => (k_if (k_some hM1) (k_cA (k_f_X12_in  hM1) fun _ M2 hM2 => (k_if (k_some hM2) (k_cR (k_cA (k_f_X12_laysNow  hM2) fun _ M3 hM3 => (k_cR (k_cA (k_f_X12_canDo  hM3) fun _ M4 hM4 => (k_if (k_some hM4) (k_if (k_gI fun _ => (k_some hM4)) (k_if (k_gI fun _ => (k_some hM4)) (k_gI fun _ => (k_some hM4)))))))))))))
theorem k_f_X12_draw {r0 : Option Nat} {i1 : Int32} {M : Mem}  (hM : G0 M0 M) : K0 M0 (f_X12_draw r0 i1 M) := by
  unfold f_X12_draw
  exact (k_gI fun _ => (k_nzI (k_gI fun _ => (k_nzI (k_pI hM fun M1 hM1 => (k_some hM1))))))
theorem k_b_X12_offerAt_9 {q9 : Option Nat → Int32 → Int32 → Int32 → Mem → Option (Int32 × Mem)} {r0 : Option Nat} {i1 : Int32} {i2 : Int32} {i3 : Int32} {M : Mem} (hq9 : ∀ (x0 : Option Nat) (x1 : Int32) (x2 : Int32) (x3 : Int32) (x4 : Mem), G0 M0 x4 → K0 M0 (q9 x0 x1 x2 x3 x4)) (hM : G0 M0 M) : K0 M0 (b_X12_offerAt_9 q9 r0 i1 i2 i3 M) := by
  unfold b_X12_offerAt_9
  exact (k_if (k_some hM) (k_nzI (k_nzI (k_nzI (k_nzI (k_cR (k_cA (k_f_X12_isOffer  hM) fun _ M1 hM1 => (k_if (hq9 _ _ _ _ _ hM1) (k_gI fun _ => (k_if (k_nzI (k_nzI (k_nzI (k_nzI (k_gI fun _ => (k_pI hM1 fun M2 hM2 => (hq9 _ _ _ _ _ hM2))))))) (k_gI fun _ => (k_pI hM1 fun M3 hM3 => (hq9 _ _ _ _ _ hM3)))))))))))))
theorem k_f_X12_offerAt_9   : ∀ (n : Nat) (x0 : Option Nat) (x1 : Int32) (x2 : Int32) (x3 : Int32) (x4 : Mem), G0 M0 x4 → K0 M0 (f_X12_offerAt_9  n x0 x1 x2 x3 x4)
  | 0 => fun _ _ _ _ _ _ => k_none
  | n + 1 => fun _ _ _ _ _ h => k_b_X12_offerAt_9  (k_f_X12_offerAt_9  n) h
theorem k_f_X12_offerAt {r0 : Option Nat} {i1 : Int32} {M : Mem}  (hM : G0 M0 M) : K0 M0 (f_X12_offerAt r0 i1 M) := by
  unfold f_X12_offerAt
  exact (k_pI hM fun M1 hM1 => (k_f_X12_offerAt_9  _ _ _ _ _ _ hM1))
theorem k_f_X12_drawsPly_92 {i4 : Int32} {i5 : Int32} {i6 : Int32} {i7 : Int32} {sr0 : Option Nat} {si1 : Int32} {M : Mem}  (hM : G0 M0 M) : K0 M0 (f_X12_drawsPly_92 i4 i5 i6 i7 sr0 si1 M) := by
  unfold f_X12_drawsPly_92
  exact (k_if (k_cR (k_cA (k_f_X12_plays  hM) fun _ M1 hM1 => (k_some hM1))) (k_if (k_cR (k_cA (k_f_X12_plays  hM) fun _ M2 hM2 => (k_some hM2))) (k_cR (k_cA (k_f_X12_plays  hM) fun _ M3 hM3 => (k_some hM3)))))
theorem k_f_X12_drawsPly_47 {r0 : Option Nat} {i2 : Int32} {i3 : Int32} {si0 : Int32} {M : Mem}  (hM : G0 M0 M) : K0 M0 (f_X12_drawsPly_47 r0 i2 i3 si0 M) := by
  unfold f_X12_drawsPly_47
  exact (k_nzI (k_nzI (k_nzI (k_nzI (k_if (k_f_X12_drawsPly_92  hM) (k_if (k_f_X12_drawsPly_92  hM) (k_f_X12_drawsPly_92  hM)))))))
theorem k_f_X12_drawsPly {r0 : Option Nat} {M : Mem}  (hM : G0 M0 M) : K0 M0 (f_X12_drawsPly r0 M) := by
  unfold f_X12_drawsPly
  exact (k_cR (k_cA (k_f_X12_offerAt  hM) fun _ M1 hM1 => (k_gI fun _ => (k_cR (k_cA (k_f_X12_draw  hM1) fun _ M2 hM2 => (k_cR (k_cA (k_f_X12_offerAt  hM2) fun _ M3 hM3 => (k_cR (k_cA (k_f_X12_draw  hM3) fun _ M4 hM4 => (k_cR (k_cA (k_f_X12_draw  hM4) fun _ M5 hM5 => (k_if (k_f_X12_drawsPly_47  hM5) (k_f_X12_drawsPly_47  hM5)))))))))))))
theorem k_f_X12_drawn_94 {q49 : Option Nat → Int32 → Int32 → Int32 → Int32 → Mem → Option (Int32 × Mem)} {r0 : Option Nat} {i2 : Int32} {i3 : Int32} {i4 : Int32} {i5 : Int32} {M : Mem} (hq49 : ∀ (x0 : Option Nat) (x1 : Int32) (x2 : Int32) (x3 : Int32) (x4 : Int32) (x5 : Mem), G0 M0 x5 → K0 M0 (q49 x0 x1 x2 x3 x4 x5)) (hM : G0 M0 M) : K0 M0 (f_X12_drawn_94 q49 r0 i2 i3 i4 i5 M) := by
  unfold f_X12_drawn_94
  exact (k_cR (k_cA (k_f_X12_isOver  hM) fun _ M1 hM1 => (k_if (hq49 _ _ _ _ _ _ hM1) (k_gI fun _ => (k_if (hq49 _ _ _ _ _ _ hM1) (hq49 _ _ _ _ _ _ hM1))))))
theorem k_b_X12_drawn_66 {q49 : Option Nat → Int32 → Int32 → Int32 → Int32 → Mem → Option (Int32 × Mem)} {q66 : Option Nat → Int32 → Int32 → Int32 → Int32 → Int32 → Mem → Option (Int32 × Mem)} {r0 : Option Nat} {i2 : Int32} {i3 : Int32} {i4 : Int32} {i5 : Int32} {i6 : Int32} {M : Mem} (hq49 : ∀ (x0 : Option Nat) (x1 : Int32) (x2 : Int32) (x3 : Int32) (x4 : Int32) (x5 : Mem), G0 M0 x5 → K0 M0 (q49 x0 x1 x2 x3 x4 x5)) (hq66 : ∀ (x0 : Option Nat) (x1 : Int32) (x2 : Int32) (x3 : Int32) (x4 : Int32) (x5 : Int32) (x6 : Mem), G0 M0 x6 → K0 M0 (q66 x0 x1 x2 x3 x4 x5 x6)) (hM : G0 M0 M) : K0 M0 (b_X12_drawn_66 q49 q66 r0 i2 i3 i4 i5 i6 M) := by
  unfold b_X12_drawn_66
  exact (k_if (k_f_X12_drawn_94 hq49 hM) (k_cR (k_cA (k_f_X12_isOver  hM) fun _ M1 hM1 => (k_if (k_cR (k_cA (k_f_X12_drawsPly  hM1) fun _ M2 hM2 => (k_cR (k_cA (k_f_X12_laysMoves  hM2) fun _ M3 hM3 => (hq66 _ _ _ _ _ _ _ hM3))))) (k_f_X12_drawn_94 hq49 hM1)))))
theorem k_f_X12_drawn_66 {q49 : Option Nat → Int32 → Int32 → Int32 → Int32 → Mem → Option (Int32 × Mem)} (hq49 : ∀ (x0 : Option Nat) (x1 : Int32) (x2 : Int32) (x3 : Int32) (x4 : Int32) (x5 : Mem), G0 M0 x5 → K0 M0 (q49 x0 x1 x2 x3 x4 x5)) : ∀ (n : Nat) (x0 : Option Nat) (x1 : Int32) (x2 : Int32) (x3 : Int32) (x4 : Int32) (x5 : Int32) (x6 : Mem), G0 M0 x6 → K0 M0 (f_X12_drawn_66 q49 n x0 x1 x2 x3 x4 x5 x6)
  | 0 => fun _ _ _ _ _ _ _ _ => k_none
  | n + 1 => fun _ _ _ _ _ _ _ h => k_b_X12_drawn_66 hq49 (k_f_X12_drawn_66 hq49 n) h
theorem k_b_X12_drawn_49 {q49 : Option Nat → Int32 → Int32 → Int32 → Int32 → Mem → Option (Int32 × Mem)} {r0 : Option Nat} {i2 : Int32} {i3 : Int32} {i4 : Int32} {i5 : Int32} {M : Mem} (hq49 : ∀ (x0 : Option Nat) (x1 : Int32) (x2 : Int32) (x3 : Int32) (x4 : Int32) (x5 : Mem), G0 M0 x5 → K0 M0 (q49 x0 x1 x2 x3 x4 x5)) (hM : G0 M0 M) : K0 M0 (b_X12_drawn_49 q49 r0 i2 i3 i4 i5 M) := by
  unfold b_X12_drawn_49
  exact (k_if (k_some hM) (k_cR (k_cA (k_f_X12_laysNow  hM) fun _ M1 hM1 => (k_cR (k_cA (k_f_X12_laysMoves  hM1) fun _ M2 hM2 => (k_f_X12_drawn_66 hq49 _ _ _ _ _ _ _ _ hM2))))))
theorem k_f_X12_drawn_49   : ∀ (n : Nat) (x0 : Option Nat) (x1 : Int32) (x2 : Int32) (x3 : Int32) (x4 : Int32) (x5 : Mem), G0 M0 x5 → K0 M0 (f_X12_drawn_49  n x0 x1 x2 x3 x4 x5)
  | 0 => fun _ _ _ _ _ _ _ => k_none
  | n + 1 => fun _ _ _ _ _ _ h => k_b_X12_drawn_49  (k_f_X12_drawn_49  n) h
theorem k_f_X12_drawn {r0 : Option Nat} {i1 : Int32} {i2 : Int32} {i3 : Int32} {M : Mem}  (hM : G0 M0 M) : K0 M0 (f_X12_drawn r0 i1 i2 i3 M) := by
  unfold f_X12_drawn
  exact (k_cA (k_f_X12_in  hM) fun _ M1 hM1 => (k_if (k_some hM1) (k_cA (k_f_X12_in  hM1) fun _ M2 hM2 => (k_if (k_some hM2) (k_cA (k_f_X12_in  hM2) fun _ M3 hM3 => (k_if (k_some hM3) (k_pI hM3 fun M4 hM4 => (k_f_X12_drawn_49  _ _ _ _ _ _ _ hM4))))))))
theorem k_f_X12_end {r0 : Option Nat} {i1 : Int32} {M : Mem}  (hM : G0 M0 M) : K0 M0 (f_X12_end r0 i1 M) := by
  unfold f_X12_end
  exact (k_gI fun _ => (k_cA (k_f_X12_in  hM) fun _ M1 hM1 => (k_if (k_some hM1) (k_pI hM1 fun M2 hM2 => (k_some hM2)))))
theorem k_f_X12_fault {r0 : Option Nat} {i1 : Int32} {M : Mem}  (hM : G0 M0 M) : K0 M0 (f_X12_fault r0 i1 M) := by
  unfold f_X12_fault
  exact (k_if (k_gI fun _ => (k_some hM)) (k_if (k_gI fun _ => (k_some hM)) (k_some hM)))
theorem k_b_X12_put_3 {q3 : Option Nat → Int32 → Int32 → Mem → Option (Unit × Mem)} {r0 : Option Nat} {i1 : Int32} {i2 : Int32} {M : Mem} (hq3 : ∀ (x0 : Option Nat) (x1 : Int32) (x2 : Int32) (x3 : Mem), G0 M0 x3 → K0 M0 (q3 x0 x1 x2 x3)) (hM : G0 M0 M) : K0 M0 (b_X12_put_3 q3 r0 i1 i2 M) := by
  unfold b_X12_put_3
  exact (k_if (k_some hM) (k_gR fun _ => (k_gI fun _ => (k_wI (by decide) hM fun M1 hM1 => (k_gI fun _ => (k_pI hM1 fun M2 hM2 => (hq3 _ _ _ _ hM2)))))))
theorem k_f_X12_put_3   : ∀ (n : Nat) (x0 : Option Nat) (x1 : Int32) (x2 : Int32) (x3 : Mem), G0 M0 x3 → K0 M0 (f_X12_put_3  n x0 x1 x2 x3)
  | 0 => fun _ _ _ _ _ => k_none
  | n + 1 => fun _ _ _ _ h => k_b_X12_put_3  (k_f_X12_put_3  n) h
theorem k_f_X12_put {r0 : Option Nat} {i1 : Int32} {M : Mem}  (hM : G0 M0 M) : K0 M0 (f_X12_put r0 i1 M) := by
  unfold f_X12_put
  exact (k_f_X12_put_3  _ _ _ _ _ hM)
theorem k_f_X12_feed {r0 : Option Nat} {i1 : Int32} {i2 : Int32} {i3 : Int32} {i4 : Int32} {i5 : Int32} {M : Mem}  (hM : G0 M0 M) : K0 M0 (f_X12_feed r0 i1 i2 i3 i4 i5 M) := by
  unfold f_X12_feed
  exact (k_gI fun _ => (k_if (k_cR (k_cA (k_f_X12_put  hM) fun _ M1 hM1 => (k_cR (k_cA (k_f_X12_put  hM1) fun _ M2 hM2 => (k_cR (k_cA (k_f_X12_put  hM2) fun _ M3 hM3 => (k_cR (k_cA (k_f_X12_put  hM3) fun _ M4 hM4 => (k_cR (k_cA (k_f_X12_put  hM4) fun _ M5 hM5 => (k_gI fun _ => (k_some hM5)))))))))))) (k_some hM)))
theorem k_f_X12_isGood {r0 : Option Nat} {i1 : Int32} {i2 : Int32} {M : Mem}  (hM : G0 M0 M) : K0 M0 (f_X12_isGood r0 i1 i2 M) := by
  unfold f_X12_isGood
  exact (k_gR fun _ => (k_aI fun _ => (k_cA (k_f_X12_isOfferOf  hM) fun _ M1 hM1 => (k_if (k_tv (k_some hM1)) (k_nzI (k_nzI (k_nzI (k_nzI (k_cR (k_cA (k_f_X12_winsBy  hM1) fun _ M2 hM2 => (k_if (k_tv (k_some hM2)) (k_tv (k_some hM2)))))))))))))
theorem k_b_X12_good_21 {q21 : Option Nat → Int32 → Int32 → Int32 → Mem → Option (Int32 × Mem)} {r0 : Option Nat} {i1 : Int32} {i2 : Int32} {i3 : Int32} {M : Mem} (hq21 : ∀ (x0 : Option Nat) (x1 : Int32) (x2 : Int32) (x3 : Int32) (x4 : Mem), G0 M0 x4 → K0 M0 (q21 x0 x1 x2 x3 x4)) (hM : G0 M0 M) : K0 M0 (b_X12_good_21 q21 r0 i1 i2 i3 M) := by
  unfold b_X12_good_21
  exact (k_if (k_if (k_some hM) (k_some hM)) (k_cR (k_cA (k_f_X12_isGood  hM) fun _ M1 hM1 => (k_if (hq21 _ _ _ _ _ hM1) (k_if (k_nzI (k_nzI (k_nzI (k_nzI (k_some hM1))))) (hq21 _ _ _ _ _ hM1))))))
theorem k_f_X12_good_21   : ∀ (n : Nat) (x0 : Option Nat) (x1 : Int32) (x2 : Int32) (x3 : Int32) (x4 : Mem), G0 M0 x4 → K0 M0 (f_X12_good_21  n x0 x1 x2 x3 x4)
  | 0 => fun _ _ _ _ _ _ => k_none
  | n + 1 => fun _ _ _ _ _ h => k_b_X12_good_21  (k_f_X12_good_21  n) h
theorem k_f_X12_good {r0 : Option Nat} {i1 : Int32} {M : Mem}  (hM : G0 M0 M) : K0 M0 (f_X12_good r0 i1 M) := by
  unfold f_X12_good
  exact (k_if (k_cR (k_cA (k_f_X12_laysResults  hM) fun _ M1 hM1 => (k_if (k_some hM1) (k_f_X12_good_21  _ _ _ _ _ _ hM1)))) (k_some hM))
theorem k_f_X12_heap {r0 : Option Nat} {i1 : Int32} {i2 : Int32} {M : Mem}  (hM : G0 M0 M) : K0 M0 (f_X12_heap r0 i1 i2 M) := by
  unfold f_X12_heap
  exact (k_cA (k_f_X12_isMove  hM) fun _ M1 hM1 => (k_if (k_tv (k_some hM1)) (k_cA (k_f_X12_in  hM1) fun _ M2 hM2 => (k_if (k_tv (k_some hM2)) (k_gR fun _ => (k_wI (by decide) hM2 fun M3 hM3 => (k_tv (k_some hM3))))))))
theorem k_f_X12_image {r0 : Option Nat} {M : Mem}  (hM : G0 M0 M) : K0 M0 (f_X12_image r0 M) := by
  unfold f_X12_image
  exact (k_cR (k_cA (k_f_X12_copies  hM) fun _ M1 hM1 => (k_cR (k_cA (k_f_X12_pieces  hM1) fun _ M2 hM2 => (k_some hM2)))))
theorem k_f_X12_init_384 {r0 : Option Nat} {sr0 : Option Nat} {si1 : Int32} {M : Mem}  (hM : G0 M0 M) : K0 M0 (f_X12_init_384 r0 sr0 si1 M) := by
  unfold f_X12_init_384
  exact (k_pI hM fun M1 hM1 => (k_gI fun _ => (k_gI fun _ => (k_pI hM1 fun M2 hM2 => (k_gR fun _ => (k_wI (by decide) hM2 fun M3 hM3 => (k_gR fun _ => (k_wI (by decide) hM3 fun M4 hM4 => (k_gR fun _ => (k_wI (by decide) hM4 fun M5 hM5 => (k_cR (k_cA (k_f_X12_copies  hM5) fun _ M6 hM6 => (k_some hM6)))))))))))))
theorem k_f_X12_init_361 {r0 : Option Nat} {i2 : Int32} {sr0 : Option Nat} {si1 : Int32} {M : Mem}  (hM : G0 M0 M) : K0 M0 (f_X12_init_361 r0 i2 sr0 si1 M) := by
  unfold f_X12_init_361
  exact (k_pI hM fun M1 hM1 => (k_if (k_if (k_f_X12_init_384  hM1) (k_f_X12_init_384  hM1)) (k_f_X12_init_384  hM1)))
theorem k_f_X12_judge {r0 : Option Nat} {M : Mem}  (hM : G0 M0 M) : K0 M0 (f_X12_judge r0 M) := by
  unfold f_X12_judge
  exact (k_cR (k_cA (k_f_X12_judges  hM) fun _ M1 hM1 => (k_some hM1)))
theorem k_f_X12_partOf {i0 : Int32} {i1 : Int32} {M : Mem}  (hM : G0 M0 M) : K0 M0 (f_X12_partOf i0 i1 M) := by
  unfold f_X12_partOf
  exact (k_if (k_nzI (k_some hM)) (k_if (k_nzI (k_nzI (k_some hM))) (k_nzI (k_some hM))))
theorem k_f_X12_losesOn_129 {q78 : Option Nat → Int32 → Int32 → Int32 → Mem → Option (Unit × Mem)} {r0 : Option Nat} {i1 : Int32} {i3 : Int32} {i4 : Int32} {i5 : Int32} {i6 : Int32} {si0 : Int32} {si1 : Int32} {M : Mem} (hq78 : ∀ (x0 : Option Nat) (x1 : Int32) (x2 : Int32) (x3 : Int32) (x4 : Mem), G0 M0 x4 → K0 M0 (q78 x0 x1 x2 x3 x4)) (hM : G0 M0 M) : K0 M0 (f_X12_losesOn_129 q78 r0 i1 i3 i4 i5 i6 si0 si1 M) := by
  unfold f_X12_losesOn_129
  exact (k_cA (k_f_X12_partOf  hM) fun _ M1 hM1 => (k_cR (k_cA (k_f_X12_wonBy  hM1) fun _ M2 hM2 => (k_if (hq78 _ _ _ _ _ hM2) (k_pI hM2 fun M3 hM3 => (k_gR fun _ => (k_aI fun _ => (k_gR fun _ => (k_aI fun _ => (k_if (k_pI hM3 fun M4 hM4 => (hq78 _ _ _ _ _ hM4)) (k_pI hM3 fun M5 hM5 => (hq78 _ _ _ _ _ hM5))))))))))))
theorem k_b_X12_losesOn_78 {q78 : Option Nat → Int32 → Int32 → Int32 → Mem → Option (Unit × Mem)} {r0 : Option Nat} {i1 : Int32} {i3 : Int32} {i4 : Int32} {M : Mem} (hq78 : ∀ (x0 : Option Nat) (x1 : Int32) (x2 : Int32) (x3 : Int32) (x4 : Mem), G0 M0 x4 → K0 M0 (q78 x0 x1 x2 x3 x4)) (hM : G0 M0 M) : K0 M0 (b_X12_losesOn_78 q78 r0 i1 i3 i4 M) := by
  unfold b_X12_losesOn_78
  exact (k_if (k_some hM) (k_gI fun _ => (k_cA (k_f_X12_partOf  hM) fun _ M1 hM1 => (k_gI fun _ => (k_if (k_cA (k_f_X12_partOf  hM1) fun _ M2 hM2 => (k_gI fun _ => (k_if (k_f_X12_losesOn_129 hq78 hM2) (k_f_X12_losesOn_129 hq78 hM2)))) (k_cA (k_f_X12_partOf  hM1) fun _ M3 hM3 => (k_gI fun _ => (k_if (k_f_X12_losesOn_129 hq78 hM3) (k_f_X12_losesOn_129 hq78 hM3)))))))))
theorem k_f_X12_losesOn_78   : ∀ (n : Nat) (x0 : Option Nat) (x1 : Int32) (x2 : Int32) (x3 : Int32) (x4 : Mem), G0 M0 x4 → K0 M0 (f_X12_losesOn_78  n x0 x1 x2 x3 x4)
  | 0 => fun _ _ _ _ _ _ => k_none
  | n + 1 => fun _ _ _ _ _ h => k_b_X12_losesOn_78  (k_f_X12_losesOn_78  n) h
theorem k_b_X12_losesOn_9 {q9 : Option Nat → Int32 → Int32 → Int32 → Mem → Option (Unit × Mem)} {r0 : Option Nat} {i1 : Int32} {i2 : Int32} {i3 : Int32} {M : Mem} (hq9 : ∀ (x0 : Option Nat) (x1 : Int32) (x2 : Int32) (x3 : Int32) (x4 : Mem), G0 M0 x4 → K0 M0 (q9 x0 x1 x2 x3 x4)) (hM : G0 M0 M) : K0 M0 (b_X12_losesOn_9 q9 r0 i1 i2 i3 M) := by
  unfold b_X12_losesOn_9
  exact (k_if (k_f_X12_losesOn_78  _ _ _ _ _ _ hM) (k_gR fun _ => (k_aI fun _ => (k_cA (k_f_X12_isOfferOf  hM) fun _ M1 hM1 => (k_if (hq9 _ _ _ _ _ hM1) (k_nzI (k_nzI (k_nzI (k_nzI (k_cR (k_cA (k_f_X12_losesBy  hM1) fun _ M2 hM2 => (k_if (hq9 _ _ _ _ _ hM2) (k_pI hM2 fun M3 hM3 => (hq9 _ _ _ _ _ hM3))))))))))))))
theorem k_f_X12_losesOn_9   : ∀ (n : Nat) (x0 : Option Nat) (x1 : Int32) (x2 : Int32) (x3 : Int32) (x4 : Mem), G0 M0 x4 → K0 M0 (f_X12_losesOn_9  n x0 x1 x2 x3 x4)
  | 0 => fun _ _ _ _ _ _ => k_none
  | n + 1 => fun _ _ _ _ _ h => k_b_X12_losesOn_9  (k_f_X12_losesOn_9  n) h
theorem k_f_X12_losesOn {r0 : Option Nat} {i1 : Int32} {M : Mem}  (hM : G0 M0 M) : K0 M0 (f_X12_losesOn r0 i1 M) := by
  unfold f_X12_losesOn
  exact (k_pI hM fun M1 hM1 => (k_f_X12_losesOn_9  _ _ _ _ _ _ hM1))
theorem k_f_X12_winsOn_130 {q83 : Option Nat → Int32 → Int32 → Int32 → Mem → Option (Unit × Mem)} {r0 : Option Nat} {i1 : Int32} {i2 : Int32} {i3 : Int32} {i4 : Int32} {i5 : Int32} {si0 : Int32} {si1 : Int32} {M : Mem} (hq83 : ∀ (x0 : Option Nat) (x1 : Int32) (x2 : Int32) (x3 : Int32) (x4 : Mem), G0 M0 x4 → K0 M0 (q83 x0 x1 x2 x3 x4)) (hM : G0 M0 M) : K0 M0 (f_X12_winsOn_130 q83 r0 i1 i2 i3 i4 i5 si0 si1 M) := by
  unfold f_X12_winsOn_130
  exact (k_cA (k_f_X12_partOf  hM) fun _ M1 hM1 => (k_cR (k_cA (k_f_X12_lostBy  hM1) fun _ M2 hM2 => (k_if (hq83 _ _ _ _ _ hM2) (k_pI hM2 fun M3 hM3 => (k_gR fun _ => (k_aI fun _ => (k_gR fun _ => (k_aI fun _ => (k_if (k_gR fun _ => (k_aI fun _ => (k_if (k_pI hM3 fun M4 hM4 => (hq83 _ _ _ _ _ hM4)) (k_pI hM3 fun M5 hM5 => (hq83 _ _ _ _ _ hM5))))) (k_pI hM3 fun M6 hM6 => (hq83 _ _ _ _ _ hM6))))))))))))
theorem k_b_X12_winsOn_83 {q83 : Option Nat → Int32 → Int32 → Int32 → Mem → Option (Unit × Mem)} {r0 : Option Nat} {i1 : Int32} {i2 : Int32} {i3 : Int32} {M : Mem} (hq83 : ∀ (x0 : Option Nat) (x1 : Int32) (x2 : Int32) (x3 : Int32) (x4 : Mem), G0 M0 x4 → K0 M0 (q83 x0 x1 x2 x3 x4)) (hM : G0 M0 M) : K0 M0 (b_X12_winsOn_83 q83 r0 i1 i2 i3 M) := by
  unfold b_X12_winsOn_83
  exact (k_if (k_some hM) (k_gI fun _ => (k_cA (k_f_X12_partOf  hM) fun _ M1 hM1 => (k_gI fun _ => (k_if (k_cA (k_f_X12_partOf  hM1) fun _ M2 hM2 => (k_gI fun _ => (k_if (k_f_X12_winsOn_130 hq83 hM2) (k_f_X12_winsOn_130 hq83 hM2)))) (k_cA (k_f_X12_partOf  hM1) fun _ M3 hM3 => (k_gI fun _ => (k_if (k_f_X12_winsOn_130 hq83 hM3) (k_f_X12_winsOn_130 hq83 hM3)))))))))
theorem k_f_X12_winsOn_83   : ∀ (n : Nat) (x0 : Option Nat) (x1 : Int32) (x2 : Int32) (x3 : Int32) (x4 : Mem), G0 M0 x4 → K0 M0 (f_X12_winsOn_83  n x0 x1 x2 x3 x4)
  | 0 => fun _ _ _ _ _ _ => k_none
  | n + 1 => fun _ _ _ _ _ h => k_b_X12_winsOn_83  (k_f_X12_winsOn_83  n) h
theorem k_b_X12_winsOn_7 {q7 : Option Nat → Int32 → Int32 → Mem → Option (Unit × Mem)} {r0 : Option Nat} {i1 : Int32} {i2 : Int32} {M : Mem} (hq7 : ∀ (x0 : Option Nat) (x1 : Int32) (x2 : Int32) (x3 : Mem), G0 M0 x3 → K0 M0 (q7 x0 x1 x2 x3)) (hM : G0 M0 M) : K0 M0 (b_X12_winsOn_7 q7 r0 i1 i2 M) := by
  unfold b_X12_winsOn_7
  exact (k_if (k_f_X12_winsOn_83  _ _ _ _ _ _ hM) (k_gI fun _ => (k_if (k_gR fun _ => (k_aI fun _ => (k_cA (k_f_X12_isOfferOf  hM) fun _ M1 hM1 => (k_if (k_pI hM1 fun M2 hM2 => (hq7 _ _ _ _ hM2)) (k_nzI (k_nzI (k_nzI (k_nzI (k_cR (k_cA (k_f_X12_winsBy  hM1) fun _ M3 hM3 => (k_gR fun _ => (k_aI fun _ => (k_if (k_pI hM3 fun M4 hM4 => (hq7 _ _ _ _ hM4)) (k_pI hM3 fun M5 hM5 => (hq7 _ _ _ _ hM5))))))))))))))) (k_f_X12_winsOn_83  _ _ _ _ _ _ hM))))
theorem k_f_X12_winsOn_7   : ∀ (n : Nat) (x0 : Option Nat) (x1 : Int32) (x2 : Int32) (x3 : Mem), G0 M0 x3 → K0 M0 (f_X12_winsOn_7  n x0 x1 x2 x3)
  | 0 => fun _ _ _ _ _ => k_none
  | n + 1 => fun _ _ _ _ h => k_b_X12_winsOn_7  (k_f_X12_winsOn_7  n) h
theorem k_f_X12_winsOn {r0 : Option Nat} {i1 : Int32} {M : Mem}  (hM : G0 M0 M) : K0 M0 (f_X12_winsOn r0 i1 M) := by
  unfold f_X12_winsOn
  exact (k_pI hM fun M1 hM1 => (k_f_X12_winsOn_7  _ _ _ _ _ hM1))
theorem k_f_X12_line_79 {q30 : Option Nat → Int32 → Int32 → Int32 → Int32 → Mem → Option (Int32 × Mem)} {r0 : Option Nat} {i1 : Int32} {i2 : Int32} {i3 : Int32} {i4 : Int32} {M : Mem} (hq30 : ∀ (x0 : Option Nat) (x1 : Int32) (x2 : Int32) (x3 : Int32) (x4 : Int32) (x5 : Mem), G0 M0 x5 → K0 M0 (q30 x0 x1 x2 x3 x4 x5)) (hM : G0 M0 M) : K0 M0 (f_X12_line_79 q30 r0 i1 i2 i3 i4 M) := by
  unfold f_X12_line_79
  exact (k_if (hq30 _ _ _ _ _ _ hM) (k_gR fun _ => (k_gI fun _ => (k_gI fun _ => (k_aI fun _ => (hq30 _ _ _ _ _ _ hM))))))
end K03
