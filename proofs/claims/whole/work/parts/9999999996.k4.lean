/-! written by wip/gen/mkk0.py -/
section K04
variable {M0 : Mem}
theorem k_b_X12_line_30 {q30 : Option Nat → Int32 → Int32 → Int32 → Int32 → Mem → Option (Int32 × Mem)} {r0 : Option Nat} {i1 : Int32} {i2 : Int32} {i3 : Int32} {i4 : Int32} {M : Mem} (hq30 : ∀ (x0 : Option Nat) (x1 : Int32) (x2 : Int32) (x3 : Int32) (x4 : Int32) (x5 : Mem), G0 M0 x5 → K0 M0 (q30 x0 x1 x2 x3 x4 x5)) (hM : G0 M0 M) : K0 M0 (b_X12_line_30 q30 r0 i1 i2 i3 i4 M) := by
  unfold b_X12_line_30
  exact (k_if (k_if (k_if (k_gI fun _ => (k_some hM)) (k_gI fun _ => (k_some hM))) (k_gI fun _ => (k_cA (k_f_X12_partOf  hM) fun _ M1 hM1 => (k_some hM1)))) (k_gR fun _ => (k_aI fun _ => (k_if (k_some hM) (k_gR fun _ => (k_aI fun _ => (k_if (k_some hM) (k_gR fun _ => (k_aI fun _ => (k_if (k_cR (k_cA (k_f_X12_winsOn  hM) fun _ M2 hM2 => (k_f_X12_line_79 hq30 hM2))) (k_cR (k_cA (k_f_X12_losesOn  hM) fun _ M3 hM3 => (k_f_X12_line_79 hq30 hM3)))))))))))))
theorem k_f_X12_line_30   : ∀ (n : Nat) (x0 : Option Nat) (x1 : Int32) (x2 : Int32) (x3 : Int32) (x4 : Int32) (x5 : Mem), G0 M0 x5 → K0 M0 (f_X12_line_30  n x0 x1 x2 x3 x4 x5)
  | 0 => fun _ _ _ _ _ _ _ => k_none
  | n + 1 => fun _ _ _ _ _ _ h => k_b_X12_line_30  (k_f_X12_line_30  n) h
theorem k_f_X12_line {r0 : Option Nat} {i1 : Int32} {i2 : Int32} {M : Mem}  (hM : G0 M0 M) : K0 M0 (f_X12_line r0 i1 i2 M) := by
  unfold f_X12_line
  exact (k_if (k_some hM) (k_cA (k_f_X12_in  hM) fun _ M1 hM1 => (k_if (k_some hM1) (k_cR (k_cA (k_f_X12_laysResults  hM1) fun _ M2 hM2 => (k_if (k_some hM2) (k_f_X12_line_30  _ _ _ _ _ _ _ hM2)))))))
theorem k_f_X12_loses_78 {r0 : Option Nat} {i1 : Int32} {i2 : Int32} {i3 : Int32} {si0 : Int32} {M : Mem}  (hM : G0 M0 M) : K0 M0 (f_X12_loses_78 r0 i1 i2 i3 si0 M) := by
  unfold f_X12_loses_78
  exact (k_cR (k_cA (k_f_X12_lostBy  hM) fun _ M1 hM1 => (k_if (k_some hM1) (k_some hM1))))
theorem k_f_X12_loses_51 {r0 : Option Nat} {i1 : Int32} {i2 : Int32} {i3 : Int32} {si0 : Int32} {M : Mem}  (hM : G0 M0 M) : K0 M0 (f_X12_loses_51 r0 i1 i2 i3 si0 M) := by
  unfold f_X12_loses_51
  exact (k_cR (k_cA (k_f_X12_lostBy  hM) fun _ M1 hM1 => (k_if (k_f_X12_loses_78  hM1) (k_f_X12_loses_78  hM1))))
theorem k_f_X12_loses {r0 : Option Nat} {i1 : Int32} {i2 : Int32} {i3 : Int32} {M : Mem}  (hM : G0 M0 M) : K0 M0 (f_X12_loses r0 i1 i2 i3 M) := by
  unfold f_X12_loses
  exact (k_cR (k_cA (k_f_X12_laysNow  hM) fun _ M1 hM1 => (k_cR (k_cA (k_f_X12_laysMoves  hM1) fun _ M2 hM2 => (k_cR (k_cA (k_f_X12_isOffer  hM2) fun _ M3 hM3 => (k_if (k_some hM3) (k_cR (k_cA (k_f_X12_laysResults  hM3) fun _ M4 hM4 => (k_if (k_some hM4) (k_cR (k_cA (k_f_X12_lostBy  hM4) fun _ M5 hM5 => (k_if (k_f_X12_loses_51  hM5) (k_f_X12_loses_51  hM5))))))))))))))
theorem k_b_X12_greatest_5 {q5 : Option Nat → Int32 → Int32 → Int32 → Int32 → Mem → Option (Int32 × Mem)} {r0 : Option Nat} {i1 : Int32} {i2 : Int32} {i3 : Int32} {i4 : Int32} {M : Mem} (hq5 : ∀ (x0 : Option Nat) (x1 : Int32) (x2 : Int32) (x3 : Int32) (x4 : Int32) (x5 : Mem), G0 M0 x5 → K0 M0 (q5 x0 x1 x2 x3 x4 x5)) (hM : G0 M0 M) : K0 M0 (b_X12_greatest_5 q5 r0 i1 i2 i3 i4 M) := by
  unfold b_X12_greatest_5
  exact (k_if (k_some hM) (k_if (hq5 _ _ _ _ _ _ hM) (k_if (hq5 _ _ _ _ _ _ hM) (k_gR fun _ => (k_aL fun _ => (k_gR fun _ => (k_aL fun _ => (k_if (hq5 _ _ _ _ _ _ hM) (hq5 _ _ _ _ _ _ hM)))))))))
theorem k_f_X12_greatest_5   : ∀ (n : Nat) (x0 : Option Nat) (x1 : Int32) (x2 : Int32) (x3 : Int32) (x4 : Int32) (x5 : Mem), G0 M0 x5 → K0 M0 (f_X12_greatest_5  n x0 x1 x2 x3 x4 x5)
  | 0 => fun _ _ _ _ _ _ _ => k_none
  | n + 1 => fun _ _ _ _ _ _ h => k_b_X12_greatest_5  (k_f_X12_greatest_5  n) h
theorem k_f_X12_greatest {r0 : Option Nat} {i1 : Int32} {i2 : Int32} {M : Mem}  (hM : G0 M0 M) : K0 M0 (f_X12_greatest r0 i1 i2 M) := by
  unfold f_X12_greatest
  exact (k_f_X12_greatest_5  _ _ _ _ _ _ _ hM)
theorem k_b_X12_laysWorth_2 {q2 : Option Nat → Int32 → Int32 → Int32 → Mem → Option (Unit × Mem)} {r0 : Option Nat} {i1 : Int32} {i2 : Int32} {i3 : Int32} {M : Mem} (hq2 : ∀ (x0 : Option Nat) (x1 : Int32) (x2 : Int32) (x3 : Int32) (x4 : Mem), G0 M0 x4 → K0 M0 (q2 x0 x1 x2 x3 x4)) (hM : G0 M0 M) : K0 M0 (b_X12_laysWorth_2 q2 r0 i1 i2 i3 M) := by
  unfold b_X12_laysWorth_2
  exact (k_if (k_some hM) (k_gR fun _ => (k_aI fun _ => (k_pI hM fun M1 hM1 => (k_gR fun _ => (k_aI fun _ => (k_pI hM1 fun M2 hM2 => (k_gR fun _ => (k_cR (k_cA (k_f_X12_sumOf  hM2) fun _ M3 hM3 => (k_wL hM3 fun M4 hM4 => (hq2 _ _ _ _ _ hM4))))))))))))
theorem k_f_X12_laysWorth_2   : ∀ (n : Nat) (x0 : Option Nat) (x1 : Int32) (x2 : Int32) (x3 : Int32) (x4 : Mem), G0 M0 x4 → K0 M0 (f_X12_laysWorth_2  n x0 x1 x2 x3 x4)
  | 0 => fun _ _ _ _ _ _ => k_none
  | n + 1 => fun _ _ _ _ _ h => k_b_X12_laysWorth_2  (k_f_X12_laysWorth_2  n) h
theorem k_f_X12_laysWorth {r0 : Option Nat} {i1 : Int32} {i2 : Int32} {M : Mem}  (hM : G0 M0 M) : K0 M0 (f_X12_laysWorth r0 i1 i2 M) := by
  unfold f_X12_laysWorth
  exact (k_f_X12_laysWorth_2  _ _ _ _ _ _ hM)
theorem k_b_X12_isNever_5 {q5 : Option Nat → Int32 → Int32 → Int32 → Int32 → Mem → Option (Int32 × Mem)} {r0 : Option Nat} {i1 : Int32} {i2 : Int32} {i3 : Int32} {i4 : Int32} {M : Mem} (hq5 : ∀ (x0 : Option Nat) (x1 : Int32) (x2 : Int32) (x3 : Int32) (x4 : Int32) (x5 : Mem), G0 M0 x5 → K0 M0 (q5 x0 x1 x2 x3 x4 x5)) (hM : G0 M0 M) : K0 M0 (b_X12_isNever_5 q5 r0 i1 i2 i3 i4 M) := by
  unfold b_X12_isNever_5
  exact (k_if (k_tv (k_some hM)) (k_gR fun _ => (k_aI fun _ => (k_if (k_tv (k_some hM)) (k_gR fun _ => (k_aI fun _ => (k_if (k_gR fun _ => (k_aI fun _ => (k_gR fun _ => (k_aI fun _ => (k_cR (k_cA (k_f_X12_names  hM) fun _ M1 hM1 => (k_if (k_gR fun _ => (k_aI fun _ => (k_cR (k_cA (k_f_X12_saysOf  hM1) fun _ M2 hM2 => (k_if (hq5 _ _ _ _ _ _ hM2) (hq5 _ _ _ _ _ _ hM2)))))) (hq5 _ _ _ _ _ _ hM1)))))))) (hq5 _ _ _ _ _ _ hM))))))))
theorem k_f_X12_isNever_5   : ∀ (n : Nat) (x0 : Option Nat) (x1 : Int32) (x2 : Int32) (x3 : Int32) (x4 : Int32) (x5 : Mem), G0 M0 x5 → K0 M0 (f_X12_isNever_5  n x0 x1 x2 x3 x4 x5)
  | 0 => fun _ _ _ _ _ _ _ => k_none
  | n + 1 => fun _ _ _ _ _ _ h => k_b_X12_isNever_5  (k_f_X12_isNever_5  n) h
theorem k_f_X12_isNever {r0 : Option Nat} {i1 : Int32} {i2 : Int32} {M : Mem}  (hM : G0 M0 M) : K0 M0 (f_X12_isNever r0 i1 i2 M) := by
  unfold f_X12_isNever
  exact (k_f_X12_isNever_5  _ _ _ _ _ _ _ hM)
theorem k_b_X12_offerBy_75 {q75 : Option Nat → Int32 → Int32 → Int64 → Int32 → Mem → Option (Int32 × Mem)} {r0 : Option Nat} {i3 : Int32} {i4 : Int32} {l5 : Int64} {i7 : Int32} {M : Mem} (hq75 : ∀ (x0 : Option Nat) (x1 : Int32) (x2 : Int32) (x3 : Int64) (x4 : Int32) (x5 : Mem), G0 M0 x5 → K0 M0 (q75 x0 x1 x2 x3 x4 x5)) (hM : G0 M0 M) : K0 M0 (b_X12_offerBy_75 q75 r0 i3 i4 l5 i7 M) := by
  unfold b_X12_offerBy_75
  exact (k_if (k_some hM) (k_nzI (k_nzI (k_nzI (k_nzI (k_if (hq75 _ _ _ _ _ _ hM) (k_if (hq75 _ _ _ _ _ _ hM) (k_if (k_gR fun _ => (k_aL fun _ => (k_gR fun _ => (k_aL fun _ => (k_gR fun _ => (k_aL fun _ => (k_if (hq75 _ _ _ _ _ _ hM) (k_if (hq75 _ _ _ _ _ _ hM) (hq75 _ _ _ _ _ _ hM))))))))) (hq75 _ _ _ _ _ _ hM)))))))))
theorem k_f_X12_offerBy_75   : ∀ (n : Nat) (x0 : Option Nat) (x1 : Int32) (x2 : Int32) (x3 : Int64) (x4 : Int32) (x5 : Mem), G0 M0 x5 → K0 M0 (f_X12_offerBy_75  n x0 x1 x2 x3 x4 x5)
  | 0 => fun _ _ _ _ _ _ _ => k_none
  | n + 1 => fun _ _ _ _ _ _ h => k_b_X12_offerBy_75  (k_f_X12_offerBy_75  n) h
theorem k_b_X12_offerBy_4 {q4 : Option Nat → Int32 → Int32 → Int32 → Mem → Option (Int32 × Mem)} {r0 : Option Nat} {i1 : Int32} {i2 : Int32} {i3 : Int32} {M : Mem} (hq4 : ∀ (x0 : Option Nat) (x1 : Int32) (x2 : Int32) (x3 : Int32) (x4 : Mem), G0 M0 x4 → K0 M0 (q4 x0 x1 x2 x3 x4)) (hM : G0 M0 M) : K0 M0 (b_X12_offerBy_4 q4 r0 i1 i2 i3 M) := by
  unfold b_X12_offerBy_4
  exact (k_if (k_cA (k_f_X12_bits  hM) fun _ M1 hM1 => (k_if (k_cR (k_cA (k_f_X12_laysWorth  hM1) fun _ M2 hM2 => (k_f_X12_offerBy_75  _ _ _ _ _ _ _ hM2))) (k_gI fun _ => (k_cR (k_cA (k_f_X12_laysWorth  hM1) fun _ M3 hM3 => (k_f_X12_offerBy_75  _ _ _ _ _ _ _ hM3)))))) (k_cR (k_cA (k_f_X12_isIn  hM) fun _ M4 hM4 => (k_if (hq4 _ _ _ _ _ hM4) (k_cR (k_cA (k_f_X12_isNever  hM4) fun _ M5 hM5 => (k_if (hq4 _ _ _ _ _ hM5) (hq4 _ _ _ _ _ hM5))))))))
theorem k_f_X12_offerBy_4   : ∀ (n : Nat) (x0 : Option Nat) (x1 : Int32) (x2 : Int32) (x3 : Int32) (x4 : Mem), G0 M0 x4 → K0 M0 (f_X12_offerBy_4  n x0 x1 x2 x3 x4)
  | 0 => fun _ _ _ _ _ _ => k_none
  | n + 1 => fun _ _ _ _ _ h => k_b_X12_offerBy_4  (k_f_X12_offerBy_4  n) h
theorem k_f_X12_offerBy {r0 : Option Nat} {i1 : Int32} {M : Mem}  (hM : G0 M0 M) : K0 M0 (f_X12_offerBy r0 i1 M) := by
  unfold f_X12_offerBy
  exact (k_f_X12_offerBy_4  _ _ _ _ _ _ hM)
theorem k_f_X12_goesByWays {r0 : Option Nat} {M : Mem}  (hM : G0 M0 M) : K0 M0 (f_X12_goesByWays r0 M) := by
  unfold f_X12_goesByWays
  exact (k_gR fun _ => (k_gI fun _ => (k_aI fun _ => (k_cR (k_cA (k_f_X12_offerBy  hM) fun _ M1 hM1 => (k_gR fun _ => (k_gI fun _ => (k_aI fun _ => (k_cR (k_cA (k_f_X12_laysWorth  hM1) fun _ M2 hM2 => (k_cR (k_cA (k_f_X12_greatest  hM2) fun _ M3 hM3 => (k_gR fun _ => (k_gI fun _ => (k_aI fun _ => (k_cR (k_cA (k_f_X12_laysWorth  hM3) fun _ M4 hM4 => (k_cR (k_cA (k_f_X12_greatest  hM4) fun _ M5 hM5 => (k_cR (k_cA (k_f_X12_plays  hM5) fun _ M6 hM6 => (k_some hM6))))))))))))))))))))))
theorem k_b_X12_goesFor_6 {q6 : Option Nat → Int32 → Int32 → Mem → Option (Int32 × Mem)} {r0 : Option Nat} {i1 : Int32} {i2 : Int32} {M : Mem} (hq6 : ∀ (x0 : Option Nat) (x1 : Int32) (x2 : Int32) (x3 : Mem), G0 M0 x3 → K0 M0 (q6 x0 x1 x2 x3)) (hM : G0 M0 M) : K0 M0 (b_X12_goesFor_6 q6 r0 i1 i2 M) := by
  unfold b_X12_goesFor_6
  exact (k_if (k_some hM) (k_cR (k_cA (k_f_X12_isOver  hM) fun _ M1 hM1 => (k_if (k_cR (k_cA (k_f_X12_goesByWays  hM1) fun _ M2 hM2 => (k_cR (k_cA (k_f_X12_laysMoves  hM2) fun _ M3 hM3 => (hq6 _ _ _ _ hM3))))) (k_some hM1)))))
theorem k_f_X12_goesFor_6   : ∀ (n : Nat) (x0 : Option Nat) (x1 : Int32) (x2 : Int32) (x3 : Mem), G0 M0 x3 → K0 M0 (f_X12_goesFor_6  n x0 x1 x2 x3)
  | 0 => fun _ _ _ _ _ => k_none
  | n + 1 => fun _ _ _ _ h => k_b_X12_goesFor_6  (k_f_X12_goesFor_6  n) h
theorem k_f_X12_goesFor {r0 : Option Nat} {i1 : Int32} {M : Mem}  (hM : G0 M0 M) : K0 M0 (f_X12_goesFor r0 i1 M) := by
  unfold f_X12_goesFor
  exact (k_cR (k_cA (k_f_X12_laysMoves  hM) fun _ M1 hM1 => (k_f_X12_goesFor_6  _ _ _ _ _ hM1)))
theorem k_f_X12_match {r0 : Option Nat} {i1 : Int32} {i2 : Int32} {M : Mem}  (hM : G0 M0 M) : K0 M0 (f_X12_match r0 i1 i2 M) := by
  unfold f_X12_match
  exact (k_cA (k_f_X12_in  hM) fun _ M1 hM1 => (k_if (k_some hM1) (k_cA (k_f_X12_in  hM1) fun _ M2 hM2 => (k_if (k_some hM2) (k_cR (k_cA (k_f_X12_laysNow  hM2) fun _ M3 hM3 => (k_cR (k_cA (k_f_X12_goesFor  hM3) fun _ M4 hM4 => (k_if (k_some hM4) (k_cR (k_cA (k_f_X12_isOver  hM4) fun _ M5 hM5 => (k_if (k_some hM5) (k_gI fun _ => (k_some hM5))))))))))))))
theorem k_f_X12_offers {r0 : Option Nat} {i1 : Int32} {M : Mem}  (hM : G0 M0 M) : K0 M0 (f_X12_offers r0 i1 M) := by
  unfold f_X12_offers
  exact (k_if (k_cR (k_cA (k_f_X12_laysNow  hM) fun _ M1 hM1 => (k_cR (k_cA (k_f_X12_laysMoves  hM1) fun _ M2 hM2 => (k_cR (k_cA (k_f_X12_offerAt  hM2) fun _ M3 hM3 => (k_if (k_gI fun _ => (k_some hM3)) (k_some hM3)))))))) (k_some hM))
theorem k_f_X12_piece_33 {r0 : Option Nat} {i1 : Int32} {i2 : Int32} {i3 : Int32} {M : Mem}  (hM : G0 M0 M) : K0 M0 (f_X12_piece_33 r0 i1 i2 i3 M) := by
  unfold f_X12_piece_33
  exact (k_gR fun _ => (k_if (k_wI (by decide) hM fun M1 hM1 => (k_tv (k_some hM1))) (k_wI (by decide) hM fun M2 hM2 => (k_tv (k_some hM2)))))
theorem k_f_X12_piece {r0 : Option Nat} {i1 : Int32} {i2 : Int32} {i3 : Int32} {M : Mem}  (hM : G0 M0 M) : K0 M0 (f_X12_piece r0 i1 i2 i3 M) := by
  unfold f_X12_piece
  exact (k_cR (k_cA (k_f_X12_isPlace  hM) fun _ M1 hM1 => (k_if (k_tv (k_some hM1)) (k_if (k_f_X12_piece_33  hM1) (k_cA (k_f_X12_in  hM1) fun _ M2 hM2 => (k_if (k_tv (k_some hM2)) (k_cA (k_f_X12_in  hM2) fun _ M3 hM3 => (k_if (k_tv (k_some hM3)) (k_f_X12_piece_33  hM3)))))))))
theorem k_b_X12_keepsNow_31 {q31 : Option Nat → Int32 → Mem → Option (Unit × Mem)} {r0 : Option Nat} {i1 : Int32} {M : Mem} (hq31 : ∀ (x0 : Option Nat) (x1 : Int32) (x2 : Mem), G0 M0 x2 → K0 M0 (q31 x0 x1 x2)) (hM : G0 M0 M) : K0 M0 (b_X12_keepsNow_31 q31 r0 i1 M) := by
  unfold b_X12_keepsNow_31
  exact (k_if (k_gR fun _ => (k_gI fun _ => (k_wI (by decide) hM fun M1 hM1 => (k_some hM1)))) (k_gR fun _ => (k_gR fun _ => (k_aI fun _ => (k_wI (by decide) hM fun M2 hM2 => (hq31 _ _ _ hM2))))))
theorem k_f_X12_keepsNow_31   : ∀ (n : Nat) (x0 : Option Nat) (x1 : Int32) (x2 : Mem), G0 M0 x2 → K0 M0 (f_X12_keepsNow_31  n x0 x1 x2)
  | 0 => fun _ _ _ _ => k_none
  | n + 1 => fun _ _ _ h => k_b_X12_keepsNow_31  (k_f_X12_keepsNow_31  n) h
theorem k_b_X12_keepsNow_2 {q2 : Option Nat → Int32 → Mem → Option (Unit × Mem)} {r0 : Option Nat} {i1 : Int32} {M : Mem} (hq2 : ∀ (x0 : Option Nat) (x1 : Int32) (x2 : Mem), G0 M0 x2 → K0 M0 (q2 x0 x1 x2)) (hM : G0 M0 M) : K0 M0 (b_X12_keepsNow_2 q2 r0 i1 M) := by
  unfold b_X12_keepsNow_2
  exact (k_if (k_f_X12_keepsNow_31  _ _ _ _ hM) (k_gR fun _ => (k_gR fun _ => (k_aI fun _ => (k_wI (by decide) hM fun M1 hM1 => (hq2 _ _ _ hM1))))))
theorem k_f_X12_keepsNow_2   : ∀ (n : Nat) (x0 : Option Nat) (x1 : Int32) (x2 : Mem), G0 M0 x2 → K0 M0 (f_X12_keepsNow_2  n x0 x1 x2)
  | 0 => fun _ _ _ _ => k_none
  | n + 1 => fun _ _ _ h => k_b_X12_keepsNow_2  (k_f_X12_keepsNow_2  n) h
theorem k_f_X12_keepsNow {r0 : Option Nat} {M : Mem}  (hM : G0 M0 M) : K0 M0 (f_X12_keepsNow r0 M) := by
  unfold f_X12_keepsNow
  exact (k_f_X12_keepsNow_2  _ _ _ _ hM)
theorem k_f_X12_play {r0 : Option Nat} {i1 : Int32} {i2 : Int32} {i3 : Int32} {i4 : Int32} {i5 : Int32} {M : Mem}  (hM : G0 M0 M) : K0 M0 (f_X12_play r0 i1 i2 i3 i4 i5 M) := by
  unfold f_X12_play
  exact (k_cR (k_cA (k_f_X12_laysNow  hM) fun _ M1 hM1 => (k_cR (k_cA (k_f_X12_laysMoves  hM1) fun _ M2 hM2 => (k_cR (k_cA (k_f_X12_canPly  hM2) fun _ M3 hM3 => (k_if (k_tv (k_some hM3)) (k_cR (k_cA (k_f_X12_plays  hM3) fun _ M4 hM4 => (k_cR (k_cA (k_f_X12_keepsNow  hM4) fun _ M5 hM5 => (k_tv (k_some hM5)))))))))))))
theorem k_f_X12_ply {r0 : Option Nat} {i1 : Int32} {i2 : Int32} {i3 : Int32} {i4 : Int32} {i5 : Int32} {M : Mem}  (hM : G0 M0 M) : K0 M0 (f_X12_ply r0 i1 i2 i3 i4 i5 M) := by
  unfold f_X12_ply
  exact (k_if (k_gR fun _ => (k_wI (by decide) hM fun M1 hM1 => (k_some hM1))) (k_cA (k_f_X12_isMove  hM) fun _ M2 hM2 => (k_if (k_some hM2) (k_cA (k_f_X12_isMove  hM2) fun _ M3 hM3 => (k_if (k_some hM3) (k_cA (k_f_X12_isMove  hM3) fun _ M4 hM4 => (k_if (k_some hM4) (k_cA (k_f_X12_isMove  hM4) fun _ M5 hM5 => (k_if (k_some hM5) (k_cA (k_f_X12_isMove  hM5) fun _ M6 hM6 => (k_if (k_some hM6) (k_gR fun _ => (k_aI fun _ => (k_if (k_some hM6) (k_gR fun _ => (k_aI fun _ => (k_gR fun _ => (k_wI (by decide) hM6 fun M7 hM7 => (k_gR fun _ => (k_wI (by decide) hM7 fun M8 hM8 => (k_gR fun _ => (k_wI (by decide) hM8 fun M9 hM9 => (k_gR fun _ => (k_wI (by decide) hM9 fun M10 hM10 => (k_gR fun _ => (k_wI (by decide) hM10 fun M11 hM11 => (k_gR fun _ => (k_aI fun _ => (k_wI (by decide) hM11 fun M12 hM12 => (k_gR fun _ => (k_aI fun _ => (k_some hM12))))))))))))))))))))))))))))))))
theorem k_f_X12_run {r0 : Option Nat} {i1 : Int32} {M : Mem}  (hM : G0 M0 M) : K0 M0 (f_X12_run r0 i1 M) := by
  unfold f_X12_run
  exact (k_cA (k_f_X12_in  hM) fun _ M1 hM1 => (k_if (k_some hM1) (k_cR (k_cA (k_f_X12_laysNow  hM1) fun _ M2 hM2 => (k_cR (k_cA (k_f_X12_goesFor  hM2) fun _ M3 hM3 => (k_cR (k_cA (k_f_X12_keepsNow  hM3) fun _ M4 hM4 => (k_some hM4)))))))))
theorem k_b_X12_goesOnFrom_2 {q2 : Option Nat → Int32 → Int32 → Mem → Option (Int32 × Mem)} {r0 : Option Nat} {i1 : Int32} {i2 : Int32} {M : Mem} (hq2 : ∀ (x0 : Option Nat) (x1 : Int32) (x2 : Int32) (x3 : Mem), G0 M0 x3 → K0 M0 (q2 x0 x1 x2 x3)) (hM : G0 M0 M) : K0 M0 (b_X12_goesOnFrom_2 q2 r0 i1 i2 M) := by
  unfold b_X12_goesOnFrom_2
  exact (k_if (k_tv (k_some hM)) (k_gR fun _ => (k_aI fun _ => (k_if (hq2 _ _ _ _ hM) (k_gR fun _ => (k_aI fun _ => (k_if (k_tv (k_some hM)) (hq2 _ _ _ _ hM))))))))
theorem k_f_X12_goesOnFrom_2   : ∀ (n : Nat) (x0 : Option Nat) (x1 : Int32) (x2 : Int32) (x3 : Mem), G0 M0 x3 → K0 M0 (f_X12_goesOnFrom_2  n x0 x1 x2 x3)
  | 0 => fun _ _ _ _ _ => k_none
  | n + 1 => fun _ _ _ _ h => k_b_X12_goesOnFrom_2  (k_f_X12_goesOnFrom_2  n) h
theorem k_f_X12_goesOnFrom {r0 : Option Nat} {i1 : Int32} {M : Mem}  (hM : G0 M0 M) : K0 M0 (f_X12_goesOnFrom r0 i1 M) := by
  unfold f_X12_goesOnFrom
  exact (k_f_X12_goesOnFrom_2  _ _ _ _ _ hM)
theorem k_b_X12_runs_53 {q40 : Option Nat → Int32 → Int32 → Mem → Option (Int32 × Mem)} {q53 : Option Nat → Int32 → Int32 → Int32 → Mem → Option (Int32 × Mem)} {r0 : Option Nat} {i1 : Int32} {i2 : Int32} {i3 : Int32} {M : Mem} (hq40 : ∀ (x0 : Option Nat) (x1 : Int32) (x2 : Int32) (x3 : Mem), G0 M0 x3 → K0 M0 (q40 x0 x1 x2 x3)) (hq53 : ∀ (x0 : Option Nat) (x1 : Int32) (x2 : Int32) (x3 : Int32) (x4 : Mem), G0 M0 x4 → K0 M0 (q53 x0 x1 x2 x3 x4)) (hM : G0 M0 M) : K0 M0 (b_X12_runs_53 q40 q53 r0 i1 i2 i3 M) := by
  unfold b_X12_runs_53
  exact (k_if (hq40 _ _ _ _ hM) (k_gR fun _ => (k_aI fun _ => (k_if (k_cR (k_cA (k_f_X12_goesOnFrom  hM) fun _ M1 hM1 => (k_if (k_gR fun _ => (k_wI (by decide) hM1 fun M2 hM2 => (hq53 _ _ _ _ _ hM2))) (hq53 _ _ _ _ _ hM1)))) (hq53 _ _ _ _ _ hM)))))
theorem k_f_X12_runs_53 {q40 : Option Nat → Int32 → Int32 → Mem → Option (Int32 × Mem)} (hq40 : ∀ (x0 : Option Nat) (x1 : Int32) (x2 : Int32) (x3 : Mem), G0 M0 x3 → K0 M0 (q40 x0 x1 x2 x3)) : ∀ (n : Nat) (x0 : Option Nat) (x1 : Int32) (x2 : Int32) (x3 : Int32) (x4 : Mem), G0 M0 x4 → K0 M0 (f_X12_runs_53 q40 n x0 x1 x2 x3 x4)
  | 0 => fun _ _ _ _ _ _ => k_none
  | n + 1 => fun _ _ _ _ _ h => k_b_X12_runs_53 hq40 (k_f_X12_runs_53 hq40 n) h
theorem k_b_X12_runs_40 {q40 : Option Nat → Int32 → Int32 → Mem → Option (Int32 × Mem)} {r0 : Option Nat} {i1 : Int32} {i2 : Int32} {M : Mem} (hq40 : ∀ (x0 : Option Nat) (x1 : Int32) (x2 : Int32) (x3 : Mem), G0 M0 x3 → K0 M0 (q40 x0 x1 x2 x3)) (hM : G0 M0 M) : K0 M0 (b_X12_runs_40 q40 r0 i1 i2 M) := by
  unfold b_X12_runs_40
  exact (k_if (k_if (k_some hM) (k_some hM)) (k_gI fun _ => (k_f_X12_runs_53 hq40 _ _ _ _ _ _ hM)))
theorem k_f_X12_runs_40   : ∀ (n : Nat) (x0 : Option Nat) (x1 : Int32) (x2 : Int32) (x3 : Mem), G0 M0 x3 → K0 M0 (f_X12_runs_40  n x0 x1 x2 x3)
  | 0 => fun _ _ _ _ _ => k_none
  | n + 1 => fun _ _ _ _ h => k_b_X12_runs_40  (k_f_X12_runs_40  n) h
theorem k_b_X12_runs_12 {q12 : Option Nat → Int32 → Mem → Option (Int32 × Mem)} {r0 : Option Nat} {i1 : Int32} {M : Mem} (hq12 : ∀ (x0 : Option Nat) (x1 : Int32) (x2 : Mem), G0 M0 x2 → K0 M0 (q12 x0 x1 x2)) (hM : G0 M0 M) : K0 M0 (b_X12_runs_12 q12 r0 i1 M) := by
  unfold b_X12_runs_12
  exact (k_gI fun _ => (k_if (k_gI fun _ => (k_f_X12_runs_40  _ _ _ _ _ hM)) (k_gR fun _ => (k_wI (by decide) hM fun M1 hM1 => (hq12 _ _ _ hM1)))))
theorem k_f_X12_runs_12   : ∀ (n : Nat) (x0 : Option Nat) (x1 : Int32) (x2 : Mem), G0 M0 x2 → K0 M0 (f_X12_runs_12  n x0 x1 x2)
  | 0 => fun _ _ _ _ => k_none
  | n + 1 => fun _ _ _ h => k_b_X12_runs_12  (k_f_X12_runs_12  n) h
theorem k_f_X12_runs {r0 : Option Nat} {M : Mem}  (hM : G0 M0 M) : K0 M0 (f_X12_runs r0 M) := by
  unfold f_X12_runs
  exact (k_cR (k_cA (k_f_X12_laysStates  hM) fun _ M1 hM1 => (k_if (k_some hM1) (k_f_X12_runs_12  _ _ _ _ hM1))))
theorem k_f_X12_states {r0 : Option Nat} {M : Mem}  (hM : G0 M0 M) : K0 M0 (f_X12_states r0 M) := by
  unfold f_X12_states
  exact (k_cR (k_cA (k_f_X12_laysStates  hM) fun _ M1 hM1 => (k_if (k_some hM1) (k_gI fun _ => (k_some hM1)))))
theorem k_f_X12_isWord {r0 : Option Nat} {i1 : Int32} {M : Mem}  (hM : G0 M0 M) : K0 M0 (f_X12_isWord r0 i1 M) := by
  unfold f_X12_isWord
  exact (k_gI fun _ => (k_if (k_gI fun _ => (k_if (k_tv (k_some hM)) (k_tv (k_some hM)))) (k_tv (k_some hM))))
theorem k_f_X12_opensFrame {r0 : Option Nat} {i1 : Int32} {M : Mem}  (hM : G0 M0 M) : K0 M0 (f_X12_opensFrame r0 i1 M) := by
  unfold f_X12_opensFrame
  exact (k_gR fun _ => (k_gI fun _ => (k_wI (by decide) hM fun M1 hM1 => (k_gI fun _ => (k_pI hM1 fun M2 hM2 => (k_some hM2))))))
theorem k_f_X12_errs {r0 : Option Nat} {i1 : Int32} {M : Mem}  (hM : G0 M0 M) : K0 M0 (f_X12_errs r0 i1 M) := by
  unfold f_X12_errs
  exact (k_gI fun _ => (k_if (k_pI hM fun M1 hM1 => (k_gI fun _ => (k_pI hM1 fun M2 hM2 => (k_some hM2)))) (k_some hM)))
theorem k_f_X12_isLetter {i0 : Int32} {M : Mem}  (hM : G0 M0 M) : K0 M0 (f_X12_isLetter i0 M) := by
  unfold f_X12_isLetter
  exact (k_cA (k_f_X12_in  hM) fun _ M1 hM1 => (k_if (k_cA (k_f_X12_in  hM1) fun _ M2 hM2 => (k_if (k_tv (k_some hM2)) (k_tv (k_some hM2)))) (k_tv (k_some hM1))))
theorem k_f_X12_wordOf {l0 : Int64} {M : Mem}  (hM : G0 M0 M) : K0 M0 (f_X12_wordOf l0 M) := by
  unfold f_X12_wordOf
  exact (k_if (k_some hM) (k_if (k_some hM) (k_if (k_some hM) (k_if (k_some hM) (k_if (k_some hM) (k_if (k_some hM) (k_if (k_some hM) (k_if (k_some hM) (k_if (k_some hM) (k_if (k_some hM) (k_if (k_some hM) (k_if (k_some hM) (k_if (k_some hM) (k_if (k_some hM) (k_if (k_some hM) (k_if (k_some hM) (k_if (k_some hM) (k_if (k_some hM) (k_if (k_some hM) (k_if (k_some hM) (k_some hM)))))))))))))))))))))
theorem k_f_X12_next_385 {r0 : Option Nat} {i1 : Int32} {M : Mem}  (hM : G0 M0 M) : K0 M0 (f_X12_next_385 r0 i1 M) := by
  unfold f_X12_next_385
  exact (k_gI fun _ => (k_gI fun _ => (k_if (k_some hM) (k_gR fun _ => (k_gI fun _ => (k_aI fun _ => (k_if (k_if (k_pI hM fun M1 hM1 => (k_gI fun _ => (k_pI hM1 fun M2 hM2 => (k_some hM2)))) (k_pI hM fun M3 hM3 => (k_gI fun _ => (k_pI hM3 fun M4 hM4 => (k_some hM4))))) (k_some hM))))))))
theorem k_b_X12_next_232 {q232 : Option Nat → Mem → Option (Unit × Mem)} {r0 : Option Nat} {M : Mem} (hq232 : ∀ (x0 : Option Nat) (x1 : Mem), G0 M0 x1 → K0 M0 (q232 x0 x1)) (hM : G0 M0 M) : K0 M0 (b_X12_next_232 q232 r0 M) := by
  unfold b_X12_next_232
  exact (k_gI fun _ => (k_gI fun _ => (k_if (k_some hM) (k_gR fun _ => (k_gI fun _ => (k_aI fun _ => (k_cA (k_f_X12_in  hM) fun _ M1 hM1 => (k_if (k_some hM1) (k_gI fun _ => (k_if (k_gI fun _ => (k_gR fun _ => (k_gI fun _ => (k_aI fun _ => (k_pI hM1 fun M2 hM2 => (k_gI fun _ => (k_pI hM2 fun M3 hM3 => (hq232 _ _ hM3)))))))) (k_gI fun _ => (k_pI hM1 fun M4 hM4 => (k_gI fun _ => (k_pI hM4 fun M5 hM5 => (hq232 _ _ hM5)))))))))))))))
theorem k_f_X12_next_232   : ∀ (n : Nat) (x0 : Option Nat) (x1 : Mem), G0 M0 x1 → K0 M0 (f_X12_next_232  n x0 x1)
  | 0 => fun _ _ _ => k_none
  | n + 1 => fun _ _ h => k_b_X12_next_232  (k_f_X12_next_232  n) h
theorem k_f_X12_next_173 {r0 : Option Nat} {l2 : Int64} {i4 : Int32} {M : Mem}  (hM : G0 M0 M) : K0 M0 (f_X12_next_173 r0 l2 i4 M) := by
  unfold f_X12_next_173
  exact (k_if (k_cA (k_f_X12_wordOf  hM) fun _ M1 hM1 => (k_pI hM1 fun M2 hM2 => (k_gI fun _ => (k_if (k_pI hM2 fun M3 hM3 => (k_some hM3)) (k_pI hM2 fun M4 hM4 => (k_some hM4)))))) (k_pI hM fun M5 hM5 => (k_gI fun _ => (k_if (k_pI hM5 fun M6 hM6 => (k_some hM6)) (k_pI hM5 fun M7 hM7 => (k_some hM7))))))
theorem k_b_X12_next_99 {q99 : Option Nat → Int64 → Int32 → Mem → Option (Unit × Mem)} {r0 : Option Nat} {l2 : Int64} {i4 : Int32} {M : Mem} (hq99 : ∀ (x0 : Option Nat) (x1 : Int64) (x2 : Int32) (x3 : Mem), G0 M0 x3 → K0 M0 (q99 x0 x1 x2 x3)) (hM : G0 M0 M) : K0 M0 (b_X12_next_99 q99 r0 l2 i4 M) := by
  unfold b_X12_next_99
  exact (k_gI fun _ => (k_gI fun _ => (k_if (k_f_X12_next_173  hM) (k_gR fun _ => (k_gI fun _ => (k_aI fun _ => (k_cA (k_f_X12_isLetter  hM) fun _ M1 hM1 => (k_if (k_f_X12_next_173  hM1) (k_if (k_gI fun _ => (k_pI hM1 fun M2 hM2 => (hq99 _ _ _ _ hM2))) (k_gR fun _ => (k_gI fun _ => (k_aI fun _ => (k_gI fun _ => (k_pI hM1 fun M3 hM3 => (hq99 _ _ _ _ hM3)))))))))))))))
theorem k_f_X12_next_99   : ∀ (n : Nat) (x0 : Option Nat) (x1 : Int64) (x2 : Int32) (x3 : Mem), G0 M0 x3 → K0 M0 (f_X12_next_99  n x0 x1 x2 x3)
  | 0 => fun _ _ _ _ _ => k_none
  | n + 1 => fun _ _ _ _ h => k_b_X12_next_99  (k_f_X12_next_99  n) h
theorem k_f_X12_next_52 {r0 : Option Nat} {M : Mem}  (hM : G0 M0 M) : K0 M0 (f_X12_next_52 r0 M) := by
  unfold f_X12_next_52
  exact (k_gI fun _ => (k_pI hM fun M1 hM1 => (k_gI fun _ => (k_gI fun _ => (k_if (k_pI hM1 fun M2 hM2 => (k_some hM2)) (k_gR fun _ => (k_gI fun _ => (k_aI fun _ => (k_cA (k_f_X12_isLetter  hM1) fun _ M3 hM3 => (k_if (k_cA (k_f_X12_in  hM3) fun _ M4 hM4 => (k_if (k_gI fun _ => (k_pI hM4 fun M5 hM5 => (k_pI hM5 fun M6 hM6 => (k_cA (k_f_X12_in  hM6) fun _ M7 hM7 => (k_if (k_cA (k_f_X12_in  hM7) fun _ M8 hM8 => (k_if (k_if (k_pI hM8 fun M9 hM9 => (k_if (k_f_X12_next_385  hM9) (k_if (k_f_X12_next_385  hM9) (k_some hM9)))) (k_if (k_pI hM8 fun M10 hM10 => (k_if (k_f_X12_next_385  hM10) (k_if (k_f_X12_next_385  hM10) (k_some hM10)))) (k_pI hM8 fun M11 hM11 => (k_if (k_f_X12_next_385  hM11) (k_if (k_f_X12_next_385  hM11) (k_some hM11)))))) (k_pI hM8 fun M12 hM12 => (k_if (k_f_X12_next_385  hM12) (k_if (k_f_X12_next_385  hM12) (k_some hM12)))))) (k_pI hM7 fun M13 hM13 => (k_if (k_f_X12_next_385  hM13) (k_if (k_f_X12_next_385  hM13) (k_some hM13))))))))) (k_pI hM4 fun M14 hM14 => (k_pI hM14 fun M15 hM15 => (k_f_X12_next_232  _ _ _ hM15))))) (k_f_X12_next_99  _ _ _ _ _ hM3)))))))))))
theorem k_b_X12_next_0 {q0 : Option Nat → Mem → Option (Unit × Mem)} {r0 : Option Nat} {M : Mem} (hq0 : ∀ (x0 : Option Nat) (x1 : Mem), G0 M0 x1 → K0 M0 (q0 x0 x1)) (hM : G0 M0 M) : K0 M0 (b_X12_next_0 q0 r0 M) := by
  unfold b_X12_next_0
  exact (k_gI fun _ => (k_gI fun _ => (k_if (k_f_X12_next_52  hM) (k_gR fun _ => (k_gI fun _ => (k_aI fun _ => (k_if (k_gI fun _ => (k_pI hM fun M1 hM1 => (hq0 _ _ hM1))) (k_gR fun _ => (k_gI fun _ => (k_aI fun _ => (k_if (k_gI fun _ => (k_pI hM fun M2 hM2 => (hq0 _ _ hM2))) (k_f_X12_next_52  hM))))))))))))
theorem k_f_X12_next_0   : ∀ (n : Nat) (x0 : Option Nat) (x1 : Mem), G0 M0 x1 → K0 M0 (f_X12_next_0  n x0 x1)
  | 0 => fun _ _ _ => k_none
  | n + 1 => fun _ _ h => k_b_X12_next_0  (k_f_X12_next_0  n) h
theorem k_f_X12_next {r0 : Option Nat} {M : Mem}  (hM : G0 M0 M) : K0 M0 (f_X12_next r0 M) := by
  unfold f_X12_next
  exact (k_f_X12_next_0  _ _ _ hM)
theorem k_f_X12_opensSign {r0 : Option Nat} {i1 : Int32} {M : Mem}  (hM : G0 M0 M) : K0 M0 (f_X12_opensSign r0 i1 M) := by
  unfold f_X12_opensSign
  exact (k_gI fun _ => (k_if (k_cR (k_cA (k_f_X12_errs  hM) fun _ M1 hM1 => (k_tv (k_some hM1)))) (k_gI fun _ => (k_pI hM fun M2 hM2 => (k_cR (k_cA (k_f_X12_opensFrame  hM2) fun _ M3 hM3 => (k_cR (k_cA (k_f_X12_next  hM3) fun _ M4 hM4 => (k_tv (k_some hM4))))))))))
theorem k_f_X12_asks {r0 : Option Nat} {M : Mem}  (hM : G0 M0 M) : K0 M0 (f_X12_asks r0 M) := by
  unfold f_X12_asks
  exact (k_cR (k_cA (k_f_X12_isWord  hM) fun _ M1 hM1 => (k_if (k_cR (k_cA (k_f_X12_opensFrame  hM1) fun _ M2 hM2 => (k_pI hM2 fun M3 hM3 => (k_some hM3)))) (k_cR (k_cA (k_f_X12_opensSign  hM1) fun _ M4 hM4 => (k_some hM4))))))
theorem k_f_X12_emits {r0 : Option Nat} {i1 : Int32} {i2 : Int32} {M : Mem}  (hM : G0 M0 M) : K0 M0 (f_X12_emits r0 i1 i2 M) := by
  unfold f_X12_emits
  exact (k_gR fun _ => (k_gI fun _ => (k_wI (by decide) hM fun M1 hM1 => (k_gR fun _ => (k_gI fun _ => (k_wI (by decide) hM1 fun M2 hM2 => (k_gI fun _ => (k_pI hM2 fun M3 hM3 => (k_some hM3)))))))))
theorem k_f_X12_rank {i0 : Int32} {M : Mem}  (hM : G0 M0 M) : K0 M0 (f_X12_rank i0 M) := by
  unfold f_X12_rank
  exact (k_if (k_some hM) (k_if (k_some hM) (k_if (k_some hM) (k_if (k_some hM) (k_some hM)))))
theorem k_b_X12_works_0 {q0 : Option Nat → Int32 → Mem → Option (Unit × Mem)} {r0 : Option Nat} {i1 : Int32} {M : Mem} (hq0 : ∀ (x0 : Option Nat) (x1 : Int32) (x2 : Mem), G0 M0 x2 → K0 M0 (q0 x0 x1 x2)) (hM : G0 M0 M) : K0 M0 (b_X12_works_0 q0 r0 i1 M) := by
  unfold b_X12_works_0
  exact (k_gI fun _ => (k_if (k_some hM) (k_gR fun _ => (k_gI fun _ => (k_aI fun _ => (k_gI fun _ => (k_if (k_gR fun _ => (k_gI fun _ => (k_aI fun _ => (k_cA (k_f_X12_rank  hM) fun _ M1 hM1 => (k_if (k_some hM1) (k_gI fun _ => (k_pI hM1 fun M2 hM2 => (k_gR fun _ => (k_gI fun _ => (k_aI fun _ => (k_cR (k_cA (k_f_X12_emits  hM2) fun _ M3 hM3 => (hq0 _ _ _ hM3))))))))))))) (k_some hM))))))))
theorem k_f_X12_works_0   : ∀ (n : Nat) (x0 : Option Nat) (x1 : Int32) (x2 : Mem), G0 M0 x2 → K0 M0 (f_X12_works_0  n x0 x1 x2)
  | 0 => fun _ _ _ _ => k_none
  | n + 1 => fun _ _ _ h => k_b_X12_works_0  (k_f_X12_works_0  n) h
theorem k_f_X12_works {r0 : Option Nat} {i1 : Int32} {M : Mem}  (hM : G0 M0 M) : K0 M0 (f_X12_works r0 i1 M) := by
  unfold f_X12_works
  exact (k_f_X12_works_0  _ _ _ _ hM)
theorem k_f_X12_clauseIsOver {r0 : Option Nat} {M : Mem}  (hM : G0 M0 M) : K0 M0 (f_X12_clauseIsOver r0 M) := by
  unfold f_X12_clauseIsOver
  exact (k_cR (k_cA (k_f_X12_works  hM) fun _ M1 hM1 => (k_pI hM1 fun M2 hM2 => (k_cR (k_cA (k_f_X12_emits  hM2) fun _ M3 hM3 => (k_gI fun _ => (k_pI hM3 fun M4 hM4 => (k_cR (k_cA (k_f_X12_next  hM4) fun _ M5 hM5 => (k_pI hM5 fun M6 hM6 => (k_some hM6)))))))))))
theorem k_f_X12_isSign {r0 : Option Nat} {i1 : Int32} {M : Mem}  (hM : G0 M0 M) : K0 M0 (f_X12_isSign r0 i1 M) := by
  unfold f_X12_isSign
  exact (k_gI fun _ => (k_if (k_gI fun _ => (k_if (k_tv (k_some hM)) (k_tv (k_some hM)))) (k_tv (k_some hM))))
theorem k_f_X12_top {r0 : Option Nat} {M : Mem}  (hM : G0 M0 M) : K0 M0 (f_X12_top r0 M) := by
  unfold f_X12_top
  exact (k_gR fun _ => (k_gI fun _ => (k_aI fun _ => (k_some hM))))
theorem k_f_X12_waitsFor {r0 : Option Nat} {i1 : Int32} {M : Mem}  (hM : G0 M0 M) : K0 M0 (f_X12_waitsFor r0 i1 M) := by
  unfold f_X12_waitsFor
  exact (k_cA (k_f_X12_rank  hM) fun _ M1 hM1 => (k_cR (k_cA (k_f_X12_works  hM1) fun _ M2 hM2 => (k_gR fun _ => (k_gI fun _ => (k_wI (by decide) hM2 fun M3 hM3 => (k_gR fun _ => (k_gI fun _ => (k_gI fun _ => (k_wI (by decide) hM3 fun M4 hM4 => (k_gI fun _ => (k_pI hM4 fun M5 hM5 => (k_cR (k_cA (k_f_X12_next  hM5) fun _ M6 hM6 => (k_some hM6)))))))))))))))
theorem k_f_X12_asksOn_18 {r0 : Option Nat} {M : Mem}  (hM : G0 M0 M) : K0 M0 (f_X12_asksOn_18 r0 M) := by
  unfold f_X12_asksOn_18
  exact (k_cR (k_cA (k_f_X12_isWord  hM) fun _ M1 hM1 => (k_if (k_cR (k_cA (k_f_X12_waitsFor  hM1) fun _ M2 hM2 => (k_pI hM2 fun M3 hM3 => (k_some hM3)))) (k_cR (k_cA (k_f_X12_waitsFor  hM1) fun _ M4 hM4 => (k_pI hM4 fun M5 hM5 => (k_some hM5)))))))
theorem k_f_X12_asksOn {r0 : Option Nat} {M : Mem}  (hM : G0 M0 M) : K0 M0 (f_X12_asksOn r0 M) := by
  unfold f_X12_asksOn
  exact (k_cR (k_cA (k_f_X12_isWord  hM) fun _ M1 hM1 => (k_if (k_cR (k_cA (k_f_X12_isWord  hM1) fun _ M2 hM2 => (k_if (k_cR (k_cA (k_f_X12_top  hM2) fun _ M3 hM3 => (k_if (k_cR (k_cA (k_f_X12_isSign  hM3) fun _ M4 hM4 => (k_if (k_cR (k_cA (k_f_X12_errs  hM4) fun _ M5 hM5 => (k_some hM5))) (k_cR (k_cA (k_f_X12_clauseIsOver  hM4) fun _ M6 hM6 => (k_some hM6)))))) (k_cR (k_cA (k_f_X12_errs  hM3) fun _ M7 hM7 => (k_some hM7)))))) (k_f_X12_asksOn_18  hM2)))) (k_f_X12_asksOn_18  hM1))))
theorem k_b_X12_oneIsOver_0 {q0 : Option Nat → Mem → Option (Unit × Mem)} {r0 : Option Nat} {M : Mem} (hq0 : ∀ (x0 : Option Nat) (x1 : Mem), G0 M0 x1 → K0 M0 (q0 x0 x1)) (hM : G0 M0 M) : K0 M0 (b_X12_oneIsOver_0 q0 r0 M) := by
  unfold b_X12_oneIsOver_0
  exact (k_cR (k_cA (k_f_X12_top  hM) fun _ M1 hM1 => (k_if (k_gI fun _ => (k_pI hM1 fun M2 hM2 => (k_gI fun _ => (k_pI hM2 fun M3 hM3 => (k_cR (k_cA (k_f_X12_emits  hM3) fun _ M4 hM4 => (hq0 _ _ hM4))))))) (k_pI hM1 fun M5 hM5 => (k_some hM5)))))
theorem k_f_X12_oneIsOver_0   : ∀ (n : Nat) (x0 : Option Nat) (x1 : Mem), G0 M0 x1 → K0 M0 (f_X12_oneIsOver_0  n x0 x1)
  | 0 => fun _ _ _ => k_none
  | n + 1 => fun _ _ h => k_b_X12_oneIsOver_0  (k_f_X12_oneIsOver_0  n) h
theorem k_f_X12_oneIsOver {r0 : Option Nat} {M : Mem}  (hM : G0 M0 M) : K0 M0 (f_X12_oneIsOver r0 M) := by
  unfold f_X12_oneIsOver
  exact (k_f_X12_oneIsOver_0  _ _ _ hM)
theorem k_f_X12_begins_106 {r0 : Option Nat} {M : Mem}  (hM : G0 M0 M) : K0 M0 (f_X12_begins_106 r0 M) := by
  unfold f_X12_begins_106
  exact (k_cR (k_cA (k_f_X12_isSign  hM) fun _ M1 hM1 => (k_if (k_cR (k_cA (k_f_X12_isSign  hM1) fun _ M2 hM2 => (k_if (k_cR (k_cA (k_f_X12_errs  hM2) fun _ M3 hM3 => (k_some hM3))) (k_cR (k_cA (k_f_X12_opensSign  hM2) fun _ M4 hM4 => (k_some hM4)))))) (k_cR (k_cA (k_f_X12_opensSign  hM1) fun _ M5 hM5 => (k_some hM5))))))
theorem k_f_X12_begins_70 {r0 : Option Nat} {M : Mem}  (hM : G0 M0 M) : K0 M0 (f_X12_begins_70 r0 M) := by
  unfold f_X12_begins_70
  exact (k_gI fun _ => (k_if (k_cR (k_cA (k_f_X12_emits  hM) fun _ M1 hM1 => (k_cR (k_cA (k_f_X12_next  hM1) fun _ M2 hM2 => (k_cR (k_cA (k_f_X12_oneIsOver  hM2) fun _ M3 hM3 => (k_some hM3))))))) (k_gI fun _ => (k_cR (k_cA (k_f_X12_emits  hM) fun _ M4 hM4 => (k_cR (k_cA (k_f_X12_next  hM4) fun _ M5 hM5 => (k_cR (k_cA (k_f_X12_oneIsOver  hM5) fun _ M6 hM6 => (k_some hM6))))))))))
theorem k_f_X12_begins {r0 : Option Nat} {M : Mem}  (hM : G0 M0 M) : K0 M0 (f_X12_begins r0 M) := by
  unfold f_X12_begins
  exact (k_gI fun _ => (k_if (k_gI fun _ => (k_if (k_gI fun _ => (k_cR (k_cA (k_f_X12_emits  hM) fun _ M1 hM1 => (k_cR (k_cA (k_f_X12_next  hM1) fun _ M2 hM2 => (k_cR (k_cA (k_f_X12_oneIsOver  hM2) fun _ M3 hM3 => (k_some hM3)))))))) (k_cR (k_cA (k_f_X12_errs  hM) fun _ M4 hM4 => (k_some hM4))))) (k_gI fun _ => (k_if (k_gI fun _ => (k_if (k_f_X12_begins_70  hM) (k_gI fun _ => (k_if (k_f_X12_begins_70  hM) (k_f_X12_begins_106  hM))))) (k_f_X12_begins_106  hM)))))
theorem k_f_X12_number {r0 : Option Nat} {i1 : Int32} {i2 : Int32} {M : Mem}  (hM : G0 M0 M) : K0 M0 (f_X12_number r0 i1 i2 M) := by
  unfold f_X12_number
  exact (k_gI fun _ => (k_if (k_cR (k_cA (k_f_X12_errs  hM) fun _ M1 hM1 => (k_some hM1))) (k_gI fun _ => (k_if (k_gI fun _ => (k_cA (k_f_X12_in  hM) fun _ M2 hM2 => (k_if (k_cR (k_cA (k_f_X12_errs  hM2) fun _ M3 hM3 => (k_some hM3))) (k_gI fun _ => (k_cR (k_cA (k_f_X12_next  hM2) fun _ M4 hM4 => (k_some hM4))))))) (k_cR (k_cA (k_f_X12_errs  hM) fun _ M5 hM5 => (k_some hM5)))))))
theorem k_f_X12_wants {r0 : Option Nat} {i1 : Int32} {M : Mem}  (hM : G0 M0 M) : K0 M0 (f_X12_wants r0 i1 M) := by
  unfold f_X12_wants
  exact (k_gI fun _ => (k_if (k_if (k_cR (k_cA (k_f_X12_errs  hM) fun _ M1 hM1 => (k_gI fun _ => (k_if (k_cR (k_cA (k_f_X12_next  hM1) fun _ M2 hM2 => (k_some hM2))) (k_some hM1))))) (k_gI fun _ => (k_if (k_cR (k_cA (k_f_X12_next  hM) fun _ M3 hM3 => (k_some hM3))) (k_some hM)))) (k_gI fun _ => (k_if (k_cR (k_cA (k_f_X12_next  hM) fun _ M4 hM4 => (k_some hM4))) (k_some hM)))))
theorem k_f_X12_readsMove_56 {r0 : Option Nat} {i1 : Int32} {i2 : Int32} {sr0 : Option Nat} {si1 : Int32} {M : Mem}  (hM : G0 M0 M) : K0 M0 (f_X12_readsMove_56 r0 i1 i2 sr0 si1 M) := by
  unfold f_X12_readsMove_56
  exact (k_cR (k_cA (k_f_X12_wants  hM) fun _ M1 hM1 => (k_gR fun _ => (k_wI (by decide) hM1 fun M2 hM2 => (k_gR fun _ => (k_cR (k_cA (k_f_X12_number  hM2) fun _ M3 hM3 => (k_wI (by decide) hM3 fun M4 hM4 => (k_cR (k_cA (k_f_X12_isSign  hM4) fun _ M5 hM5 => (k_cR (k_cA (k_f_X12_wants  hM5) fun _ M6 hM6 => (k_gR fun _ => (k_cR (k_cA (k_f_X12_number  hM6) fun _ M7 hM7 => (k_wI (by decide) hM7 fun M8 hM8 => (k_gI fun _ => (k_if (k_cR (k_cA (k_f_X12_isSign  hM8) fun _ M9 hM9 => (k_if (k_cR (k_cA (k_f_X12_isWord  hM9) fun _ M10 hM10 => (k_cR (k_cA (k_f_X12_wants  hM10) fun _ M11 hM11 => (k_cR (k_cA (k_f_X12_opensFrame  hM11) fun _ M12 hM12 => (k_pI hM12 fun M13 hM13 => (k_some hM13)))))))) (k_gR fun _ => (k_gI fun _ => (k_wI (by decide) hM9 fun M14 hM14 => (k_cR (k_cA (k_f_X12_clauseIsOver  hM14) fun _ M15 hM15 => (k_some hM15))))))))) (k_some hM8)))))))))))))))))))
theorem k_f_X12_readsMove {r0 : Option Nat} {M : Mem}  (hM : G0 M0 M) : K0 M0 (f_X12_readsMove r0 M) := by
  unfold f_X12_readsMove
  exact (k_gI fun _ => (k_gR fun _ => (k_cR (k_cA (k_f_X12_number  hM) fun _ M1 hM1 => (k_wI (by decide) hM1 fun M2 hM2 => (k_gI fun _ => (k_gI fun _ => (k_if (k_gI fun _ => (k_cA (k_f_X12_in  hM2) fun _ M3 hM3 => (k_if (k_f_X12_readsMove_56  hM3) (k_f_X12_readsMove_56  hM3)))) (k_f_X12_readsMove_56  hM2)))))))))
theorem k_b_X12_wasTold_4 {q4 : Option Nat → Int32 → Int32 → Int32 → Mem → Option (Int32 × Mem)} {r0 : Option Nat} {i1 : Int32} {i2 : Int32} {i3 : Int32} {M : Mem} (hq4 : ∀ (x0 : Option Nat) (x1 : Int32) (x2 : Int32) (x3 : Int32) (x4 : Mem), G0 M0 x4 → K0 M0 (q4 x0 x1 x2 x3 x4)) (hM : G0 M0 M) : K0 M0 (b_X12_wasTold_4 q4 r0 i1 i2 i3 M) := by
  unfold b_X12_wasTold_4
  exact (k_gI fun _ => (k_if (k_tv (k_some hM)) (k_if (k_gR fun _ => (k_aI fun _ => (k_if (hq4 _ _ _ _ _ hM) (hq4 _ _ _ _ _ hM)))) (hq4 _ _ _ _ _ hM))))
theorem k_f_X12_wasTold_4   : ∀ (n : Nat) (x0 : Option Nat) (x1 : Int32) (x2 : Int32) (x3 : Int32) (x4 : Mem), G0 M0 x4 → K0 M0 (f_X12_wasTold_4  n x0 x1 x2 x3 x4)
  | 0 => fun _ _ _ _ _ _ => k_none
  | n + 1 => fun _ _ _ _ _ h => k_b_X12_wasTold_4  (k_f_X12_wasTold_4  n) h
theorem k_f_X12_wasTold {r0 : Option Nat} {i1 : Int32} {M : Mem}  (hM : G0 M0 M) : K0 M0 (f_X12_wasTold r0 i1 M) := by
  unfold f_X12_wasTold
  exact (k_f_X12_wasTold_4  _ _ _ _ _ _ hM)
theorem k_f_X12_clause_75 {r0 : Option Nat} {M : Mem}  (hM : G0 M0 M) : K0 M0 (f_X12_clause_75 r0 M) := by
  unfold f_X12_clause_75
  exact (k_gI fun _ => (k_if (k_gR fun _ => (k_gI fun _ => (k_gI fun _ => (k_wI (by decide) hM fun M1 hM1 => (k_gR fun _ => (k_gI fun _ => (k_gI fun _ => (k_wI (by decide) hM1 fun M2 hM2 => (k_cR (k_cA (k_f_X12_next  hM2) fun _ M3 hM3 => (k_gI fun _ => (k_if (k_cR (k_cA (k_f_X12_readsMove  hM3) fun _ M4 hM4 => (k_some hM4))) (k_gI fun _ => (k_if (k_cR (k_cA (k_f_X12_opensFrame  hM3) fun _ M5 hM5 => (k_gI fun _ => (k_if (k_pI hM5 fun M6 hM6 => (k_some hM6)) (k_pI hM5 fun M7 hM7 => (k_some hM7)))))) (k_cR (k_cA (k_f_X12_opensFrame  hM3) fun _ M8 hM8 => (k_gI fun _ => (k_if (k_pI hM8 fun M9 hM9 => (k_some hM9)) (k_pI hM8 fun M10 hM10 => (k_some hM10)))))))))))))))))))) (k_some hM)))
theorem k_f_X12_clause {r0 : Option Nat} {M : Mem}  (hM : G0 M0 M) : K0 M0 (f_X12_clause r0 M) := by
  unfold f_X12_clause
  exact (k_gI fun _ => (k_if (k_gI fun _ => (k_if (k_gI fun _ => (k_pI hM fun M1 hM1 => (k_gI fun _ => (k_cA (k_f_X12_in  hM1) fun _ M2 hM2 => (k_if (k_gI fun _ => (k_if (k_cR (k_cA (k_f_X12_errs  hM2) fun _ M3 hM3 => (k_f_X12_clause_75  hM3))) (k_f_X12_clause_75  hM2))) (k_gI fun _ => (k_cR (k_cA (k_f_X12_wasTold  hM2) fun _ M4 hM4 => (k_if (k_gI fun _ => (k_if (k_cR (k_cA (k_f_X12_errs  hM4) fun _ M5 hM5 => (k_f_X12_clause_75  hM5))) (k_f_X12_clause_75  hM4))) (k_cR (k_cA (k_f_X12_errs  hM4) fun _ M6 hM6 => (k_f_X12_clause_75  hM6)))))))))))) (k_cR (k_cA (k_f_X12_errs  hM) fun _ M7 hM7 => (k_some hM7))))) (k_cR (k_cA (k_f_X12_errs  hM) fun _ M8 hM8 => (k_some hM8)))))
theorem k_b_X12_askIsOver_0 {q0 : Option Nat → Mem → Option (Unit × Mem)} {r0 : Option Nat} {M : Mem} (hq0 : ∀ (x0 : Option Nat) (x1 : Mem), G0 M0 x1 → K0 M0 (q0 x0 x1)) (hM : G0 M0 M) : K0 M0 (b_X12_askIsOver_0 q0 r0 M) := by
  unfold b_X12_askIsOver_0
  exact (k_cR (k_cA (k_f_X12_top  hM) fun _ M1 hM1 => (k_if (k_gI fun _ => (k_pI hM1 fun M2 hM2 => (k_gI fun _ => (k_pI hM2 fun M3 hM3 => (k_cR (k_cA (k_f_X12_emits  hM3) fun _ M4 hM4 => (hq0 _ _ hM4))))))) (k_pI hM1 fun M5 hM5 => (k_some hM5)))))
theorem k_f_X12_askIsOver_0   : ∀ (n : Nat) (x0 : Option Nat) (x1 : Mem), G0 M0 x1 → K0 M0 (f_X12_askIsOver_0  n x0 x1)
  | 0 => fun _ _ _ => k_none
  | n + 1 => fun _ _ h => k_b_X12_askIsOver_0  (k_f_X12_askIsOver_0  n) h
theorem k_f_X12_askIsOver {r0 : Option Nat} {M : Mem}  (hM : G0 M0 M) : K0 M0 (f_X12_askIsOver r0 M) := by
  unfold f_X12_askIsOver
  exact (k_f_X12_askIsOver_0  _ _ _ hM)
theorem k_f_X12_isAsking {i0 : Int32} {M : Mem}  (hM : G0 M0 M) : K0 M0 (f_X12_isAsking i0 M) := by
  unfold f_X12_isAsking
  exact (k_if (k_tv (k_some hM)) (k_if (k_tv (k_some hM)) (k_if (k_tv (k_some hM)) (k_if (k_tv (k_some hM)) (k_if (k_tv (k_some hM)) (k_if (k_tv (k_some hM)) (k_tv (k_some hM))))))))
theorem k_f_X12_goesOn_181 {r0 : Option Nat} {i1 : Int32} {M : Mem}  (hM : G0 M0 M) : K0 M0 (f_X12_goesOn_181 r0 i1 M) := by
  unfold f_X12_goesOn_181
  exact (k_if (k_cR (k_cA (k_f_X12_works  hM) fun _ M1 hM1 => (k_gR fun _ => (k_gI fun _ => (k_aI fun _ => (k_gI fun _ => (k_pI hM1 fun M2 hM2 => (k_cR (k_cA (k_f_X12_emits  hM2) fun _ M3 hM3 => (k_cR (k_cA (k_f_X12_askIsOver  hM3) fun _ M4 hM4 => (k_some hM4)))))))))))) (k_if (k_cR (k_cA (k_f_X12_isSign  hM) fun _ M5 hM5 => (k_if (k_cR (k_cA (k_f_X12_errs  hM5) fun _ M6 hM6 => (k_some hM6))) (k_cR (k_cA (k_f_X12_clauseIsOver  hM5) fun _ M7 hM7 => (k_some hM7)))))) (k_cR (k_cA (k_f_X12_errs  hM) fun _ M8 hM8 => (k_some hM8)))))
theorem k_f_X12_goesOn_116 {r0 : Option Nat} {i1 : Int32} {M : Mem}  (hM : G0 M0 M) : K0 M0 (f_X12_goesOn_116 r0 i1 M) := by
  unfold f_X12_goesOn_116
  exact (k_if (k_gI fun _ => (k_if (k_gI fun _ => (k_cA (k_f_X12_isAsking  hM) fun _ M1 hM1 => (k_if (k_f_X12_goesOn_181  hM1) (k_cR (k_cA (k_f_X12_works  hM1) fun _ M2 hM2 => (k_gR fun _ => (k_gI fun _ => (k_gI fun _ => (k_wI (by decide) hM2 fun M3 hM3 => (k_gR fun _ => (k_gI fun _ => (k_wI (by decide) hM3 fun M4 hM4 => (k_cR (k_cA (k_f_X12_next  hM4) fun _ M5 hM5 => (k_pI hM5 fun M6 hM6 => (k_some hM6)))))))))))))))) (k_f_X12_goesOn_181  hM))) (k_f_X12_goesOn_181  hM))
theorem k_f_X12_goesOn_65 {r0 : Option Nat} {i1 : Int32} {M : Mem}  (hM : G0 M0 M) : K0 M0 (f_X12_goesOn_65 r0 i1 M) := by
  unfold f_X12_goesOn_65
  exact (k_if (k_cR (k_cA (k_f_X12_isSign  hM) fun _ M1 hM1 => (k_if (k_f_X12_goesOn_116  hM1) (k_cR (k_cA (k_f_X12_works  hM1) fun _ M2 hM2 => (k_gI fun _ => (k_pI hM2 fun M3 hM3 => (k_gI fun _ => (k_pI hM3 fun M4 hM4 => (k_cR (k_cA (k_f_X12_next  hM4) fun _ M5 hM5 => (k_cR (k_cA (k_f_X12_oneIsOver  hM5) fun _ M6 hM6 => (k_some hM6)))))))))))))) (k_f_X12_goesOn_116  hM))
theorem k_f_X12_goesOn {r0 : Option Nat} {M : Mem}  (hM : G0 M0 M) : K0 M0 (f_X12_goesOn r0 M) := by
  unfold f_X12_goesOn
  exact (k_cR (k_cA (k_f_X12_top  hM) fun _ M1 hM1 => (k_gI fun _ => (k_if (k_gI fun _ => (k_if (k_gI fun _ => (k_cR (k_cA (k_f_X12_waitsFor  hM1) fun _ M2 hM2 => (k_pI hM2 fun M3 hM3 => (k_some hM3))))) (k_gI fun _ => (k_if (k_gI fun _ => (k_cR (k_cA (k_f_X12_waitsFor  hM1) fun _ M4 hM4 => (k_pI hM4 fun M5 hM5 => (k_some hM5))))) (k_gI fun _ => (k_if (k_gI fun _ => (k_cR (k_cA (k_f_X12_waitsFor  hM1) fun _ M6 hM6 => (k_pI hM6 fun M7 hM7 => (k_some hM7))))) (k_gI fun _ => (k_if (k_gI fun _ => (k_cR (k_cA (k_f_X12_waitsFor  hM1) fun _ M8 hM8 => (k_pI hM8 fun M9 hM9 => (k_some hM9))))) (k_f_X12_goesOn_65  hM1))))))))) (k_f_X12_goesOn_65  hM1)))))
theorem k_b_X12_keepsText_154 {q154 : Option Nat → Int32 → Int32 → Mem → Option (Unit × Mem)} {r0 : Option Nat} {i1 : Int32} {i2 : Int32} {M : Mem} (hq154 : ∀ (x0 : Option Nat) (x1 : Int32) (x2 : Int32) (x3 : Mem), G0 M0 x3 → K0 M0 (q154 x0 x1 x2 x3)) (hM : G0 M0 M) : K0 M0 (b_X12_keepsText_154 q154 r0 i1 i2 M) := by
  unfold b_X12_keepsText_154
  exact (k_gI fun _ => (k_if (k_some hM) (k_gR fun _ => (k_gR fun _ => (k_aI fun _ => (k_wI (by decide) hM fun M1 hM1 => (k_gR fun _ => (k_gR fun _ => (k_aI fun _ => (k_wI (by decide) hM1 fun M2 hM2 => (hq154 _ _ _ _ hM2)))))))))))
theorem k_f_X12_keepsText_154   : ∀ (n : Nat) (x0 : Option Nat) (x1 : Int32) (x2 : Int32) (x3 : Mem), G0 M0 x3 → K0 M0 (f_X12_keepsText_154  n x0 x1 x2 x3)
  | 0 => fun _ _ _ _ _ => k_none
  | n + 1 => fun _ _ _ _ h => k_b_X12_keepsText_154  (k_f_X12_keepsText_154  n) h
theorem k_f_X12_keepsText_97 {q12 : Option Nat → Int32 → Int32 → Mem → Option (Unit × Mem)} {r0 : Option Nat} {i1 : Int32} {i2 : Int32} {i3 : Int32} {sr0 : Option Nat} {si1 : Int32} {si2 : Int32} {M : Mem} (hq12 : ∀ (x0 : Option Nat) (x1 : Int32) (x2 : Int32) (x3 : Mem), G0 M0 x3 → K0 M0 (q12 x0 x1 x2 x3)) (hM : G0 M0 M) : K0 M0 (f_X12_keepsText_97 q12 r0 i1 i2 i3 sr0 si1 si2 M) := by
  unfold f_X12_keepsText_97
  exact (k_wI (by decide) hM fun M1 hM1 => (k_gR fun _ => (k_gR fun _ => (k_aI fun _ => (k_wI (by decide) hM1 fun M2 hM2 => (k_gR fun _ => (k_gR fun _ => (k_aI fun _ => (k_wI (by decide) hM2 fun M3 hM3 => (k_gR fun _ => (k_gR fun _ => (k_aI fun _ => (k_wI (by decide) hM3 fun M4 hM4 => (hq12 _ _ _ _ hM4))))))))))))))
theorem k_f_X12_keepsText_70 {q12 : Option Nat → Int32 → Int32 → Mem → Option (Unit × Mem)} {r0 : Option Nat} {i1 : Int32} {i2 : Int32} {i3 : Int32} {sr0 : Option Nat} {si1 : Int32} {si2 : Int32} {M : Mem} (hq12 : ∀ (x0 : Option Nat) (x1 : Int32) (x2 : Int32) (x3 : Mem), G0 M0 x3 → K0 M0 (q12 x0 x1 x2 x3)) (hM : G0 M0 M) : K0 M0 (f_X12_keepsText_70 q12 r0 i1 i2 i3 sr0 si1 si2 M) := by
  unfold f_X12_keepsText_70
  exact (k_wI (by decide) hM fun M1 hM1 => (k_gR fun _ => (k_gR fun _ => (k_aI fun _ => (k_if (k_gR fun _ => (k_aI fun _ => (k_f_X12_keepsText_97 hq12 hM1))) (k_f_X12_keepsText_97 hq12 hM1))))))
theorem k_b_X12_keepsText_12 {q12 : Option Nat → Int32 → Int32 → Mem → Option (Unit × Mem)} {r0 : Option Nat} {i1 : Int32} {i2 : Int32} {M : Mem} (hq12 : ∀ (x0 : Option Nat) (x1 : Int32) (x2 : Int32) (x3 : Mem), G0 M0 x3 → K0 M0 (q12 x0 x1 x2 x3)) (hM : G0 M0 M) : K0 M0 (b_X12_keepsText_12 q12 r0 i1 i2 M) := by
  unfold b_X12_keepsText_12
  exact (k_gI fun _ => (k_if (k_f_X12_keepsText_154  _ _ _ _ _ hM) (k_gR fun _ => (k_gR fun _ => (k_aI fun _ => (k_wI (by decide) hM fun M1 hM1 => (k_gR fun _ => (k_gR fun _ => (k_aI fun _ => (k_if (k_f_X12_keepsText_70 hq12 hM1) (k_gR fun _ => (k_aI fun _ => (k_f_X12_keepsText_70 hq12 hM1)))))))))))))
theorem k_f_X12_keepsText_12   : ∀ (n : Nat) (x0 : Option Nat) (x1 : Int32) (x2 : Int32) (x3 : Mem), G0 M0 x3 → K0 M0 (f_X12_keepsText_12  n x0 x1 x2 x3)
  | 0 => fun _ _ _ _ _ => k_none
  | n + 1 => fun _ _ _ _ h => k_b_X12_keepsText_12  (k_f_X12_keepsText_12  n) h
theorem k_f_X12_keepsText {r0 : Option Nat} {i1 : Int32} {M : Mem}  (hM : G0 M0 M) : K0 M0 (f_X12_keepsText r0 i1 M) := by
  unfold f_X12_keepsText
  exact (k_gR fun _ => (k_gI fun _ => (k_wI (by decide) hM fun M1 hM1 => (k_f_X12_keepsText_12  _ _ _ _ _ hM1))))
theorem k_f_X12_text_167 {r0 : Option Nat} {M : Mem}  (hM : G0 M0 M) : K0 M0 (f_X12_text_167 r0 M) := by
  unfold f_X12_text_167
  exact (k_gI fun _ => (k_pI hM fun M1 hM1 => (k_gI fun _ => (k_pI hM1 fun M2 hM2 => (k_gI fun _ => (k_if (k_gR fun _ => (k_aI fun _ => (k_cR (k_cA (k_f_X12_keepsText  hM2) fun _ M3 hM3 => (k_gR fun _ => (k_aI fun _ => (k_wI (by decide) hM3 fun M4 hM4 => (k_gR fun _ => (k_aI fun _ => (k_some hM4)))))))))) (k_some hM2)))))))
theorem k_f_X12_text_97 {q75 : Option Nat → Mem → Option (Int32 × Mem)} {r0 : Option Nat} {M : Mem} (hq75 : ∀ (x0 : Option Nat) (x1 : Mem), G0 M0 x1 → K0 M0 (q75 x0 x1)) (hM : G0 M0 M) : K0 M0 (f_X12_text_97 q75 r0 M) := by
  unfold f_X12_text_97
  exact (k_gI fun _ => (k_if (k_cR (k_cA (k_f_X12_asks  hM) fun _ M5 hM5 => (hq75 _ _ hM5))) (k_if (k_cR (k_cA (k_f_X12_begins  hM) fun _ M4 hM4 => (hq75 _ _ hM4))) (k_if (k_cR (k_cA (k_f_X12_goesOn  hM) fun _ M3 hM3 => (hq75 _ _ hM3))) (k_if (k_cR (k_cA (k_f_X12_asksOn  hM) fun _ M2 hM2 => (hq75 _ _ hM2))) (k_cR (k_cA (k_f_X12_clause  hM) fun _ M1 hM1 => (hq75 _ _ hM1))))))))
theorem k_b_X12_text_75 {q75 : Option Nat → Mem → Option (Int32 × Mem)} {r0 : Option Nat} {M : Mem} (hq75 : ∀ (x0 : Option Nat) (x1 : Mem), G0 M0 x1 → K0 M0 (q75 x0 x1)) (hM : G0 M0 M) : K0 M0 (b_X12_text_75 q75 r0 M) := by
  unfold b_X12_text_75
  exact (k_gI fun _ => (k_if (k_gI fun _ => (k_if (k_gI fun _ => (k_if (k_f_X12_text_167  hM) (k_f_X12_text_97 hq75 hM))) (k_f_X12_text_97 hq75 hM))) (k_f_X12_text_167  hM)))
theorem k_f_X12_text_75   : ∀ (n : Nat) (x0 : Option Nat) (x1 : Mem), G0 M0 x1 → K0 M0 (f_X12_text_75  n x0 x1)
  | 0 => fun _ _ _ => k_none
  | n + 1 => fun _ _ h => k_b_X12_text_75  (k_f_X12_text_75  n) h
theorem k_f_X12_text {r0 : Option Nat} {M : Mem}  (hM : G0 M0 M) : K0 M0 (f_X12_text r0 M) := by
  unfold f_X12_text
  exact (k_gR fun _ => (k_aI fun _ => (k_if (k_some hM) (k_gI fun _ => (k_pI hM fun M1 hM1 => (k_pI hM1 fun M2 hM2 => (k_pI hM2 fun M3 hM3 => (k_pI hM3 fun M4 hM4 => (k_pI hM4 fun M5 hM5 => (k_pI hM5 fun M6 hM6 => (k_pI hM6 fun M7 hM7 => (k_pI hM7 fun M8 hM8 => (k_pI hM8 fun M9 hM9 => (k_pI hM9 fun M10 hM10 => (k_pI hM10 fun M11 hM11 => (k_cR (k_cA (k_f_X12_next  hM11) fun _ M12 hM12 => (k_f_X12_text_75  _ _ _ hM12))))))))))))))))))
theorem k_f_X12_turn {r0 : Option Nat} {i1 : Int32} {M : Mem}  (hM : G0 M0 M) : K0 M0 (f_X12_turn r0 i1 M) := by
  unfold f_X12_turn
  exact (k_cA (k_f_X12_in  hM) fun _ M1 hM1 => (k_if (k_tv (k_some hM1)) (k_gR fun _ => (k_wI (by decide) hM1 fun M2 hM2 => (k_tv (k_some hM2))))))
theorem k_f_X12_way {r0 : Option Nat} {i1 : Int32} {i2 : Int32} {M : Mem}  (hM : G0 M0 M) : K0 M0 (f_X12_way r0 i1 i2 M) := by
  unfold f_X12_way
  exact (k_cA (k_f_X12_in  hM) fun _ M1 hM1 => (k_if (k_tv (k_some hM1)) (k_cR (k_cA (k_f_X12_isText  hM1) fun _ M2 hM2 => (k_if (k_tv (k_some hM2)) (k_gR fun _ => (k_wI (by decide) hM2 fun M3 hM3 => (k_tv (k_some hM3)))))))))
theorem k_f_X12_won {r0 : Option Nat} {M : Mem}  (hM : G0 M0 M) : K0 M0 (f_X12_won r0 M) := by
  unfold f_X12_won
  exact (k_cR (k_cA (k_f_X12_laysNow  hM) fun _ M1 hM1 => (k_cR (k_cA (k_f_X12_laysMoves  hM1) fun _ M2 hM2 => (k_cR (k_cA (k_f_X12_isOver  hM2) fun _ M3 hM3 => (k_if (k_some hM3) (k_gI fun _ => (k_some hM3)))))))))
end K04
