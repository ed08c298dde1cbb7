/-! written by wip/gen/mkk0.py -/
section K01
variable {M0 : Mem}
theorem k_f_L_cell {r0 : Option Nat} {i1 : Int32} {M : Mem}  (hM : G0 M0 M) : K0 M0 (f_L_cell r0 i1 M) := by
  unfold f_L_cell
  exact (k_aN fun _ => (k_if (k_some hM) (k_aI fun _ => (k_some hM))))
theorem k_f_X4_cell {r0 : Option Nat} {i1 : Int32} {M : Mem}  (hM : G0 M0 M) : K0 M0 (f_X4_cell r0 i1 M) := by
  unfold f_X4_cell
  exact (k_gL fun _ => (k_some hM))
theorem k_f_X4_count {r0 : Option Nat} {i1 : Int32} {M : Mem}  (hM : G0 M0 M) : K0 M0 (f_X4_count r0 i1 M) := by
  unfold f_X4_count
  exact (k_gI fun _ => (k_some hM))
theorem k_f_X11_about_152 {r0 : Option Nat} {i1 : Int32} {M : Mem}  (hM : G0 M0 M) : K0 M0 (f_X11_about_152 r0 i1 M) := by
  unfold f_X11_about_152
  exact (k_if (k_some hM) (k_gI fun _ => (k_gI fun _ => (k_if (k_some hM) (k_gR fun _ => (k_gR fun _ => (k_cR (k_cA (k_f_X4_cell  hM) fun _ M1 hM1 => (k_some hM1)))))))))
theorem k_f_X11_about {r0 : Option Nat} {i1 : Int32} {M : Mem}  (hM : G0 M0 M) : K0 M0 (f_X11_about r0 i1 M) := by
  unfold f_X11_about
  exact (k_if (k_gI fun _ => (k_some hM)) (k_if (k_gI fun _ => (k_some hM)) (k_if (k_gR fun _ => (k_gR fun _ => (k_gI fun _ => (k_some hM)))) (k_if (k_gR fun _ => (k_gI fun _ => (k_some hM))) (k_if (k_gR fun _ => (k_gI fun _ => (k_some hM))) (k_if (k_gR fun _ => (k_gR fun _ => (k_aI fun _ => (k_some hM)))) (k_if (k_gR fun _ => (k_gR fun _ => (k_aI fun _ => (k_some hM)))) (k_if (k_gR fun _ => (k_gI fun _ => (k_some hM))) (k_if (k_gR fun _ => (k_gI fun _ => (k_some hM))) (k_if (k_f_X11_about_152  hM) (k_if (k_f_X11_about_152  hM) (k_gR fun _ => (k_gR fun _ => (k_cR (k_cA (k_f_X4_count  hM) fun _ M1 hM1 => (k_some hM1))))))))))))))))
theorem k_b_X11_cameByAnotherHeap_2 {q2 : Option Nat → Int32 → Int32 → Mem → Option (Int32 × Mem)} {r0 : Option Nat} {i1 : Int32} {i2 : Int32} {M : Mem} (hq2 : ∀ (x0 : Option Nat) (x1 : Int32) (x2 : Int32) (x3 : Mem), G0 M0 x3 → K0 M0 (q2 x0 x1 x2 x3)) (hM : G0 M0 M) : K0 M0 (b_X11_cameByAnotherHeap_2 q2 r0 i1 i2 M) := by
  unfold b_X11_cameByAnotherHeap_2
  exact (k_if (k_tv (k_some hM)) (k_gR fun _ => (k_aL fun _ => (k_gR fun _ => (k_aL fun _ => (k_if (k_gR fun _ => (k_aI fun _ => (k_gR fun _ => (k_aI fun _ => (k_if (hq2 _ _ _ _ hM) (k_tv (k_some hM))))))) (hq2 _ _ _ _ hM)))))))
theorem k_f_X11_cameByAnotherHeap_2   : ∀ (n : Nat) (x0 : Option Nat) (x1 : Int32) (x2 : Int32) (x3 : Mem), G0 M0 x3 → K0 M0 (f_X11_cameByAnotherHeap_2  n x0 x1 x2 x3)
  | 0 => fun _ _ _ _ _ => k_none
  | n + 1 => fun _ _ _ _ h => k_b_X11_cameByAnotherHeap_2  (k_f_X11_cameByAnotherHeap_2  n) h
theorem k_f_X11_cameByAnotherHeap {r0 : Option Nat} {i1 : Int32} {M : Mem}  (hM : G0 M0 M) : K0 M0 (f_X11_cameByAnotherHeap r0 i1 M) := by
  unfold f_X11_cameByAnotherHeap
  exact (k_f_X11_cameByAnotherHeap_2  _ _ _ _ _ hM)
theorem k_f_X4_boardAndTurn {r0 : Option Nat} {M : Mem}  (hM : G0 M0 M) : K0 M0 (f_X4_boardAndTurn r0 M) := by
  unfold f_X4_boardAndTurn
  exact (k_gL fun _ => (k_gI fun _ => (k_some hM)))
theorem k_f_X11_remember {r0 : Option Nat} {i1 : Int32} {M : Mem}  (hM : G0 M0 M) : K0 M0 (f_X11_remember r0 i1 M) := by
  unfold f_X11_remember
  exact (k_gR fun _ => (k_gR fun _ => (k_cR (k_cA (k_f_X4_boardAndTurn  hM) fun _ M1 hM1 => (k_wL hM1 fun M2 hM2 => (k_gR fun _ => (k_gR fun _ => (k_gI fun _ => (k_wI (by decide) hM2 fun M3 hM3 => (k_some hM3))))))))))
theorem k_f_X10_bitsOf {i0 : Int32} {i1 : Int32} {i2 : Int32} {M : Mem}  (hM : G0 M0 M) : K0 M0 (f_X10_bitsOf i0 i1 i2 M) := by
  unfold f_X10_bitsOf
  exact (k_if (k_some hM) (k_if (k_some hM) (k_if (k_some hM) (k_if (k_some hM) (k_some hM)))))
theorem k_f_J6_bitCount_0f7a4 {i0 : Int32} {M : Mem}  (hM : G0 M0 M) : K0 M0 (f_J6_bitCount_0f7a4 i0 M) := by
  unfold f_J6_bitCount_0f7a4
  exact (k_some hM)
theorem k_f_X11_isMove {i0 : Int32} {M : Mem}  (hM : G0 M0 M) : K0 M0 (f_X11_isMove i0 M) := by
  unfold f_X11_isMove
  exact (k_if (k_tv (k_some hM)) (k_if (k_tv (k_some hM)) (k_tv (k_some hM))))
theorem k_f_X11_rules {r0 : Option Nat} {i1 : Int32} {M : Mem}  (hM : G0 M0 M) : K0 M0 (f_X11_rules r0 i1 M) := by
  unfold f_X11_rules
  exact (k_if (k_gR fun _ => (k_some hM)) (k_if (k_gR fun _ => (k_some hM)) (k_gR fun _ => (k_aR fun _ => (k_some hM)))))
theorem k_f_X1_hasCode {r0 : Option Nat} {M : Mem}  (hM : G0 M0 M) : K0 M0 (f_X1_hasCode r0 M) := by
  unfold f_X1_hasCode
  exact (k_gI fun _ => (k_gI fun _ => (k_if (k_tv (k_some hM)) (k_tv (k_some hM)))))
theorem k_f_X2_besideOf {r0 : Option Nat} {i1 : Int32} {i2 : Int32} {M : Mem}  (hM : G0 M0 M) : K0 M0 (f_X2_besideOf r0 i1 i2 M) := by
  unfold f_X2_besideOf
  exact (k_if (k_some hM) (k_gR fun _ => (k_aN fun _ => (k_if (k_some hM) (k_gR fun _ => (k_aI fun _ => (k_some hM)))))))
theorem k_f_X2_goal_59 {r0 : Option Nat} {r1 : Option Nat} {r2 : Option Nat} {i4 : Int32} {si0 : Int32} {M : Mem}  (hM : G0 M0 M) : K0 M0 (f_X2_goal_59 r0 r1 r2 i4 si0 M) := by
  unfold f_X2_goal_59
  exact (k_gI fun _ => (k_if (k_if (k_some hM) (k_some hM)) (k_gI fun _ => (k_cR (k_cA (k_f_X2_besideOf  hM) fun _ M1 hM1 => (k_if (k_if (k_some hM1) (k_cR (k_cA (k_f_X4_cell  hM1) fun _ M2 hM2 => (k_if (k_gI fun _ => (k_if (k_some hM2) (k_some hM2))) (k_some hM2))))) (k_some hM1)))))))
theorem k_f_X2_goal {r0 : Option Nat} {r1 : Option Nat} {r2 : Option Nat} {i3 : Int32} {M : Mem}  (hM : G0 M0 M) : K0 M0 (f_X2_goal r0 r1 r2 i3 M) := by
  unfold f_X2_goal
  exact (k_gI fun _ => (k_if (k_gI fun _ => (k_gI fun _ => (k_if (k_some hM) (k_some hM)))) (k_gI fun _ => (k_cR (k_cA (k_f_X2_besideOf  hM) fun _ M1 hM1 => (k_if (k_some hM1) (k_cR (k_cA (k_f_X4_cell  hM1) fun _ M2 hM2 => (k_if (k_f_X2_goal_59  hM2) (k_f_X2_goal_59  hM2))))))))))
theorem k_f_X6_isSingle {i0 : Int32} {M : Mem}  (hM : G0 M0 M) : K0 M0 (f_X6_isSingle i0 M) := by
  unfold f_X6_isSingle
  exact (k_if (k_tv (k_some hM)) (k_if (k_tv (k_some hM)) (k_tv (k_some hM))))
theorem k_f_X6_singleOf {r0 : Option Nat} {i1 : Int32} {M : Mem}  (hM : G0 M0 M) : K0 M0 (f_X6_singleOf r0 i1 M) := by
  unfold f_X6_singleOf
  exact (k_cA (k_f_X6_isSingle  hM) fun _ M1 hM1 => (k_if (k_some hM1) (k_gR fun _ => (k_aR fun _ => (k_some hM1)))))
theorem k_f_X9_aim {r0 : Option Nat} {i1 : Int32} {i2 : Int32} {i3 : Int32} {i4 : Int32} {M : Mem}  (hM : G0 M0 M) : K0 M0 (f_X9_aim r0 i1 i2 i3 i4 M) := by
  unfold f_X9_aim
  exact (k_gR fun _ => (k_wI (by decide) hM fun M1 hM1 => (k_gR fun _ => (k_wI (by decide) hM1 fun M2 hM2 => (k_gR fun _ => (k_wI (by decide) hM2 fun M3 hM3 => (k_gR fun _ => (k_wI (by decide) hM3 fun M4 hM4 => (k_some hM4)))))))))
theorem k_f_X9_joined_212 {l3 : Int64} {M : Mem}  (hM : G0 M0 M) : K0 M0 (f_X9_joined_212 l3 M) := by
  unfold f_X9_joined_212
  exact (k_if (k_if (k_some hM) (k_some hM)) (k_some hM))
theorem k_f_X9_joined {i0 : Int32} {i1 : Int32} {i2 : Int32} {M : Mem}  (hM : G0 M0 M) : K0 M0 (f_X9_joined i0 i1 i2 M) := by
  unfold f_X9_joined
  exact (k_if (k_f_X9_joined_212  hM) (k_if (k_f_X9_joined_212  hM) (k_if (k_f_X9_joined_212  hM) (k_if (k_f_X9_joined_212  hM) (k_if (k_if (k_f_X9_joined_212  hM) (k_f_X9_joined_212  hM)) (k_if (k_if (k_f_X9_joined_212  hM) (k_f_X9_joined_212  hM)) (k_if (k_if (k_f_X9_joined_212  hM) (k_f_X9_joined_212  hM)) (k_if (k_if (k_f_X9_joined_212  hM) (k_f_X9_joined_212  hM)) (k_if (k_if (k_f_X9_joined_212  hM) (k_f_X9_joined_212  hM)) (k_if (k_if (k_f_X9_joined_212  hM) (k_f_X9_joined_212  hM)) (k_if (k_f_X9_joined_212  hM) (k_if (k_f_X9_joined_212  hM) (k_if (k_f_X9_joined_212  hM) (k_if (k_if (k_f_X9_joined_212  hM) (k_nzI (k_f_X9_joined_212  hM))) (k_f_X9_joined_212  hM)))))))))))))))
theorem k_f_X9_value_106 {q8 : Option Nat → Option Nat → Option Nat → Int32 → Int32 → Mem → Option (Int32 × Mem)} {r0 : Option Nat} {r1 : Option Nat} {r2 : Option Nat} {i3 : Int32} {i4 : Int32} {i5 : Int32} {M : Mem} (hq8 : ∀ (x0 : Option Nat) (x1 : Option Nat) (x2 : Option Nat) (x3 : Int32) (x4 : Int32) (x5 : Mem), G0 M0 x5 → K0 M0 (q8 x0 x1 x2 x3 x4 x5)) (hM : G0 M0 M) : K0 M0 (f_X9_value_106 q8 r0 r1 r2 i3 i4 i5 M) := by
  unfold f_X9_value_106
  exact (k_if (k_gR fun _ => (k_if (k_gR fun _ => (k_aI fun _ => (k_wI (by decide) hM fun M1 hM1 => (hq8 _ _ _ _ _ _ hM1)))) (k_gR fun _ => (k_aI fun _ => (k_wI (by decide) hM fun M2 hM2 => (hq8 _ _ _ _ _ _ hM2)))))) (k_some hM))
theorem k_b_X9_value_8 {q8 : Option Nat → Option Nat → Option Nat → Int32 → Int32 → Mem → Option (Int32 × Mem)} {r0 : Option Nat} {r1 : Option Nat} {r2 : Option Nat} {i3 : Int32} {i4 : Int32} {M : Mem} (hq8 : ∀ (x0 : Option Nat) (x1 : Option Nat) (x2 : Option Nat) (x3 : Int32) (x4 : Int32) (x5 : Mem), G0 M0 x5 → K0 M0 (q8 x0 x1 x2 x3 x4 x5)) (hM : G0 M0 M) : K0 M0 (b_X9_value_8 q8 r0 r1 r2 i3 i4 M) := by
  unfold b_X9_value_8
  exact (k_gI fun _ => (k_if (k_if (k_some hM) (k_gR fun _ => (k_aI fun _ => (k_some hM)))) (k_gR fun _ => (k_aN fun _ => (k_if (k_if (k_some hM) (k_gR fun _ => (k_aI fun _ => (k_some hM)))) (k_gR fun _ => (k_aI fun _ => (k_if (k_if (k_f_X9_value_106 hq8 hM) (k_if (k_f_X9_value_106 hq8 hM) (k_if (k_gR fun _ => (k_gR fun _ => (k_aI fun _ => (k_gR fun _ => (k_aI fun _ => (k_cA (k_f_X9_joined  hM) fun _ M1 hM1 => (k_wI (by decide) hM1 fun M2 hM2 => (hq8 _ _ _ _ _ _ hM2)))))))) (k_some hM)))) (k_gR fun _ => (k_aN fun _ => (k_if (k_gR fun _ => (k_if (k_gR fun _ => (k_aI fun _ => (k_wI (by decide) hM fun M3 hM3 => (hq8 _ _ _ _ _ _ hM3)))) (k_gR fun _ => (k_aI fun _ => (k_wI (by decide) hM fun M4 hM4 => (hq8 _ _ _ _ _ _ hM4)))))) (k_some hM))))))))))))
theorem k_f_X9_value_8   : ∀ (n : Nat) (x0 : Option Nat) (x1 : Option Nat) (x2 : Option Nat) (x3 : Int32) (x4 : Int32) (x5 : Mem), G0 M0 x5 → K0 M0 (f_X9_value_8  n x0 x1 x2 x3 x4 x5)
  | 0 => fun _ _ _ _ _ _ _ => k_none
  | n + 1 => fun _ _ _ _ _ _ h => k_b_X9_value_8  (k_f_X9_value_8  n) h
theorem k_f_X9_value {r0 : Option Nat} {r1 : Option Nat} {r2 : Option Nat} {M : Mem}  (hM : G0 M0 M) : K0 M0 (f_X9_value r0 r1 r2 M) := by
  unfold f_X9_value
  exact (k_gI fun _ => (k_f_X9_value_8  _ _ _ _ _ _ _ hM))
theorem k_f_X2_consider_151 {r0 : Option Nat} {i3 : Int32} {i4 : Int32} {r6 : Option Nat} {i7 : Int32} {i9 : Int32} {M : Mem}  (hM : G0 M0 M) : K0 M0 (f_X2_consider_151 r0 i3 i4 r6 i7 i9 M) := by
  unfold f_X2_consider_151
  exact (k_gI fun _ => (k_pI hM fun M1 hM1 => (k_gR fun _ => (k_wI (by decide) hM1 fun M2 hM2 => (k_gR fun _ => (k_wI (by decide) hM2 fun M3 hM3 => (k_gR fun _ => (k_wI (by decide) hM3 fun M4 hM4 => (k_gR fun _ => (k_gI fun _ => (k_wI (by decide) hM4 fun M5 hM5 => (k_some hM5))))))))))))
theorem k_f_X2_consider_127 {r0 : Option Nat} {i3 : Int32} {i4 : Int32} {r6 : Option Nat} {i7 : Int32} {si0 : Int32} {M : Mem}  (hM : G0 M0 M) : K0 M0 (f_X2_consider_127 r0 i3 i4 r6 i7 si0 M) := by
  unfold f_X2_consider_127
  exact (k_gI fun _ => (k_if (k_f_X2_consider_151  hM) (k_gR fun _ => (k_aI fun _ => (k_if (k_some hM) (k_f_X2_consider_151  hM))))))
theorem k_f_X2_consider_100 {r0 : Option Nat} {r2 : Option Nat} {i3 : Int32} {i4 : Int32} {r6 : Option Nat} {i7 : Int32} {M : Mem}  (hM : G0 M0 M) : K0 M0 (f_X2_consider_100 r0 r2 i3 i4 r6 i7 M) := by
  unfold f_X2_consider_100
  exact (k_cR (k_cA (k_f_X6_singleOf  hM) fun _ M1 hM1 => (k_if (k_f_X2_consider_127  hM1) (k_gR fun _ => (k_cR (k_cA (k_f_X9_value  hM1) fun _ M2 hM2 => (k_f_X2_consider_127  hM2)))))))
theorem k_f_X2_consider_48 {q20 : Option Nat → Option Nat → Option Nat → Int32 → Int32 → Int32 → Option Nat → Mem → Option (Unit × Mem)} {r0 : Option Nat} {r1 : Option Nat} {r2 : Option Nat} {i3 : Int32} {i4 : Int32} {i5 : Int32} {r6 : Option Nat} {si0 : Int32} {M : Mem} (hq20 : ∀ (x0 : Option Nat) (x1 : Option Nat) (x2 : Option Nat) (x3 : Int32) (x4 : Int32) (x5 : Int32) (x6 : Option Nat) (x7 : Mem), G0 M0 x7 → K0 M0 (q20 x0 x1 x2 x3 x4 x5 x6 x7)) (hM : G0 M0 M) : K0 M0 (f_X2_consider_48 q20 r0 r1 r2 i3 i4 i5 r6 si0 M) := by
  unfold f_X2_consider_48
  exact (k_if (k_gR fun _ => (hq20 _ _ _ _ _ _ _ _ hM)) (k_gR fun _ => (k_cR (k_cA (k_f_X4_count  hM) fun _ M1 hM1 => (k_cR (k_cA (k_f_X9_aim  hM1) fun _ M2 hM2 => (k_cR (k_cA (k_f_X1_hasCode  hM2) fun _ M3 hM3 => (k_if (k_f_X2_consider_100  hM3) (k_gR fun _ => (k_cR (k_cA (k_f_X9_value  hM3) fun _ M4 hM4 => (k_if (k_gR fun _ => (hq20 _ _ _ _ _ _ _ _ hM4)) (k_f_X2_consider_100  hM4))))))))))))))
theorem k_b_X2_consider_20 {q20 : Option Nat → Option Nat → Option Nat → Int32 → Int32 → Int32 → Option Nat → Mem → Option (Unit × Mem)} {r0 : Option Nat} {r1 : Option Nat} {r2 : Option Nat} {i3 : Int32} {i4 : Int32} {i5 : Int32} {r6 : Option Nat} {M : Mem} (hq20 : ∀ (x0 : Option Nat) (x1 : Option Nat) (x2 : Option Nat) (x3 : Int32) (x4 : Int32) (x5 : Int32) (x6 : Option Nat) (x7 : Mem), G0 M0 x7 → K0 M0 (q20 x0 x1 x2 x3 x4 x5 x6 x7)) (hM : G0 M0 M) : K0 M0 (b_X2_consider_20 q20 r0 r1 r2 i3 i4 i5 r6 M) := by
  unfold b_X2_consider_20
  exact (k_if (k_some hM) (k_gI fun _ => (k_if (k_cR (k_cA (k_f_X2_goal  hM) fun _ M1 hM1 => (k_f_X2_consider_48 hq20 hM1))) (k_f_X2_consider_48 hq20 hM))))
theorem k_f_X2_consider_20   : ∀ (n : Nat) (x0 : Option Nat) (x1 : Option Nat) (x2 : Option Nat) (x3 : Int32) (x4 : Int32) (x5 : Int32) (x6 : Option Nat) (x7 : Mem), G0 M0 x7 → K0 M0 (f_X2_consider_20  n x0 x1 x2 x3 x4 x5 x6 x7)
  | 0 => fun _ _ _ _ _ _ _ _ _ => k_none
  | n + 1 => fun _ _ _ _ _ _ _ _ h => k_b_X2_consider_20  (k_f_X2_consider_20  n) h
theorem k_f_X2_consider {r0 : Option Nat} {r1 : Option Nat} {r2 : Option Nat} {i3 : Int32} {i4 : Int32} {M : Mem}  (hM : G0 M0 M) : K0 M0 (f_X2_consider r0 r1 r2 i3 i4 M) := by
  unfold f_X2_consider
  exact (k_cR (k_cA (k_f_X4_cell  hM) fun _ M1 hM1 => (k_nzI (k_gR fun _ => (k_aR fun _ => (k_f_X2_consider_20  _ _ _ _ _ _ _ _ _ hM1))))))
theorem k_f_X4_sideOf {i0 : Int32} {M : Mem}  (hM : G0 M0 M) : K0 M0 (f_X4_sideOf i0 M) := by
  unfold f_X4_sideOf
  exact (k_if (k_some hM) (k_nzI (k_some hM)))
theorem k_b_X4_pieces_4 {q4 : Option Nat → Int32 → Int32 → Int32 → Mem → Option (Int32 × Mem)} {r0 : Option Nat} {i1 : Int32} {i2 : Int32} {i3 : Int32} {M : Mem} (hq4 : ∀ (x0 : Option Nat) (x1 : Int32) (x2 : Int32) (x3 : Int32) (x4 : Mem), G0 M0 x4 → K0 M0 (q4 x0 x1 x2 x3 x4)) (hM : G0 M0 M) : K0 M0 (b_X4_pieces_4 q4 r0 i1 i2 i3 M) := by
  unfold b_X4_pieces_4
  exact (k_if (k_some hM) (k_cR (k_cA (k_f_X4_cell  hM) fun _ M1 hM1 => (k_cA (k_f_X4_sideOf  hM1) fun _ M2 hM2 => (k_if (hq4 _ _ _ _ _ hM2) (hq4 _ _ _ _ _ hM2))))))
theorem k_f_X4_pieces_4   : ∀ (n : Nat) (x0 : Option Nat) (x1 : Int32) (x2 : Int32) (x3 : Int32) (x4 : Mem), G0 M0 x4 → K0 M0 (f_X4_pieces_4  n x0 x1 x2 x3 x4)
  | 0 => fun _ _ _ _ _ _ => k_none
  | n + 1 => fun _ _ _ _ _ h => k_b_X4_pieces_4  (k_f_X4_pieces_4  n) h
theorem k_f_X4_pieces {r0 : Option Nat} {i1 : Int32} {M : Mem}  (hM : G0 M0 M) : K0 M0 (f_X4_pieces r0 i1 M) := by
  unfold f_X4_pieces
  exact (k_f_X4_pieces_4  _ _ _ _ _ _ hM)
theorem k_f_X9_look {r0 : Option Nat} {r1 : Option Nat} {M : Mem}  (hM : G0 M0 M) : K0 M0 (f_X9_look r0 r1 M) := by
  unfold f_X9_look
  exact (k_gR fun _ => (k_gI fun _ => (k_wI (by decide) hM fun M1 hM1 => (k_gR fun _ => (k_gI fun _ => (k_cR (k_cA (k_f_X4_pieces  hM1) fun _ M2 hM2 => (k_wI (by decide) hM2 fun M3 hM3 => (k_gR fun _ => (k_gI fun _ => (k_cR (k_cA (k_f_X4_pieces  hM3) fun _ M4 hM4 => (k_wI (by decide) hM4 fun M5 hM5 => (k_some hM5))))))))))))))
theorem k_b_X2_look_47 {q16 : Option Nat → Option Nat → Option Nat → Int32 → Int32 → Mem → Option (Unit × Mem)} {q47 : Option Nat → Option Nat → Option Nat → Int32 → Int32 → Int32 → Mem → Option (Unit × Mem)} {r0 : Option Nat} {r1 : Option Nat} {r2 : Option Nat} {i3 : Int32} {i4 : Int32} {i5 : Int32} {M : Mem} (hq16 : ∀ (x0 : Option Nat) (x1 : Option Nat) (x2 : Option Nat) (x3 : Int32) (x4 : Int32) (x5 : Mem), G0 M0 x5 → K0 M0 (q16 x0 x1 x2 x3 x4 x5)) (hq47 : ∀ (x0 : Option Nat) (x1 : Option Nat) (x2 : Option Nat) (x3 : Int32) (x4 : Int32) (x5 : Int32) (x6 : Mem), G0 M0 x6 → K0 M0 (q47 x0 x1 x2 x3 x4 x5 x6)) (hM : G0 M0 M) : K0 M0 (b_X2_look_47 q16 q47 r0 r1 r2 i3 i4 i5 M) := by
  unfold b_X2_look_47
  exact (k_if (hq16 _ _ _ _ _ _ hM) (k_if (hq47 _ _ _ _ _ _ _ hM) (k_gR fun _ => (k_aR fun _ => (k_if (hq47 _ _ _ _ _ _ _ hM) (k_cR (k_cA (k_f_X2_consider  hM) fun _ M1 hM1 => (hq47 _ _ _ _ _ _ _ hM1))))))))
theorem k_f_X2_look_47 {q16 : Option Nat → Option Nat → Option Nat → Int32 → Int32 → Mem → Option (Unit × Mem)} (hq16 : ∀ (x0 : Option Nat) (x1 : Option Nat) (x2 : Option Nat) (x3 : Int32) (x4 : Int32) (x5 : Mem), G0 M0 x5 → K0 M0 (q16 x0 x1 x2 x3 x4 x5)) : ∀ (n : Nat) (x0 : Option Nat) (x1 : Option Nat) (x2 : Option Nat) (x3 : Int32) (x4 : Int32) (x5 : Int32) (x6 : Mem), G0 M0 x6 → K0 M0 (f_X2_look_47 q16 n x0 x1 x2 x3 x4 x5 x6)
  | 0 => fun _ _ _ _ _ _ _ _ => k_none
  | n + 1 => fun _ _ _ _ _ _ _ h => k_b_X2_look_47 hq16 (k_f_X2_look_47 hq16 n) h
theorem k_b_X2_look_16 {q16 : Option Nat → Option Nat → Option Nat → Int32 → Int32 → Mem → Option (Unit × Mem)} {r0 : Option Nat} {r1 : Option Nat} {r2 : Option Nat} {i3 : Int32} {i4 : Int32} {M : Mem} (hq16 : ∀ (x0 : Option Nat) (x1 : Option Nat) (x2 : Option Nat) (x3 : Int32) (x4 : Int32) (x5 : Mem), G0 M0 x5 → K0 M0 (q16 x0 x1 x2 x3 x4 x5)) (hM : G0 M0 M) : K0 M0 (b_X2_look_16 q16 r0 r1 r2 i3 i4 M) := by
  unfold b_X2_look_16
  exact (k_gI fun _ => (k_if (k_some hM) (k_cR (k_cA (k_f_X4_cell  hM) fun _ M1 hM1 => (k_cA (k_f_X4_sideOf  hM1) fun _ M2 hM2 => (k_gI fun _ => (k_if (k_f_X2_look_47 hq16 _ _ _ _ _ _ _ _ hM2) (hq16 _ _ _ _ _ _ hM2))))))))
theorem k_f_X2_look_16   : ∀ (n : Nat) (x0 : Option Nat) (x1 : Option Nat) (x2 : Option Nat) (x3 : Int32) (x4 : Int32) (x5 : Mem), G0 M0 x5 → K0 M0 (f_X2_look_16  n x0 x1 x2 x3 x4 x5)
  | 0 => fun _ _ _ _ _ _ _ => k_none
  | n + 1 => fun _ _ _ _ _ _ h => k_b_X2_look_16  (k_f_X2_look_16  n) h
theorem k_f_X2_look {r0 : Option Nat} {r1 : Option Nat} {r2 : Option Nat} {i3 : Int32} {M : Mem}  (hM : G0 M0 M) : K0 M0 (f_X2_look r0 r1 r2 i3 M) := by
  unfold f_X2_look
  exact (k_pI hM fun M1 hM1 => (k_gR fun _ => (k_cR (k_cA (k_f_X9_look  hM1) fun _ M2 hM2 => (k_f_X2_look_16  _ _ _ _ _ _ _ hM2)))))
theorem k_f_X2_tooFew {r0 : Option Nat} {M : Mem}  (hM : G0 M0 M) : K0 M0 (f_X2_tooFew r0 M) := by
  unfold f_X2_tooFew
  exact (k_gI fun _ => (k_cA (k_f_J6_bitCount_0f7a4  hM) fun _ M1 hM1 => (k_if (k_tv (k_some hM1)) (k_tv (k_some hM1)))))
theorem k_b_X4_stock_4 {q4 : Option Nat → Int32 → Int32 → Mem → Option (Int32 × Mem)} {r0 : Option Nat} {i1 : Int32} {i2 : Int32} {M : Mem} (hq4 : ∀ (x0 : Option Nat) (x1 : Int32) (x2 : Int32) (x3 : Mem), G0 M0 x3 → K0 M0 (q4 x0 x1 x2 x3)) (hM : G0 M0 M) : K0 M0 (b_X4_stock_4 q4 r0 i1 i2 M) := by
  unfold b_X4_stock_4
  exact (k_if (k_some hM) (k_cR (k_cA (k_f_X4_count  hM) fun _ M1 hM1 => (k_if (hq4 _ _ _ _ hM1) (hq4 _ _ _ _ hM1)))))
theorem k_f_X4_stock_4   : ∀ (n : Nat) (x0 : Option Nat) (x1 : Int32) (x2 : Int32) (x3 : Mem), G0 M0 x3 → K0 M0 (f_X4_stock_4  n x0 x1 x2 x3)
  | 0 => fun _ _ _ _ _ => k_none
  | n + 1 => fun _ _ _ _ h => k_b_X4_stock_4  (k_f_X4_stock_4  n) h
theorem k_f_X4_stock {r0 : Option Nat} {M : Mem}  (hM : G0 M0 M) : K0 M0 (f_X4_stock r0 M) := by
  unfold f_X4_stock
  exact (k_f_X4_stock_4  _ _ _ _ _ hM)
theorem k_f_X11_isOver {r0 : Option Nat} {r1 : Option Nat} {M : Mem}  (hM : G0 M0 M) : K0 M0 (f_X11_isOver r0 r1 M) := by
  unfold f_X11_isOver
  exact (k_gR fun _ => (k_gR fun _ => (k_gI fun _ => (k_cR (k_cA (k_f_X11_rules  hM) fun _ M1 hM1 => (k_cR (k_cA (k_f_X4_stock  hM1) fun _ M2 hM2 => (k_cR (k_cA (k_f_X2_look  hM2) fun _ M3 hM3 => (k_gR fun _ => (k_cR (k_cA (k_f_X2_tooFew  hM3) fun _ M4 hM4 => (k_tv (k_some hM4))))))))))))))
theorem k_f_X4_setCell {r0 : Option Nat} {i1 : Int32} {i2 : Int32} {M : Mem}  (hM : G0 M0 M) : K0 M0 (f_X4_setCell r0 i1 i2 M) := by
  unfold f_X4_setCell
  exact (k_gL fun _ => (k_pL hM fun M1 hM1 => (k_some hM1)))
theorem k_f_X2_perform_133 {r1 : Option Nat} {r4 : Option Nat} {i5 : Int32} {i6 : Int32} {i7 : Int32} {i8 : Int32} {M : Mem}  (hM : G0 M0 M) : K0 M0 (f_X2_perform_133 r1 r4 i5 i6 i7 i8 M) := by
  unfold f_X2_perform_133
  exact (k_gI fun _ => (k_if (k_if (k_cR (k_cA (k_f_X4_setCell  hM) fun _ M1 hM1 => (k_cR (k_cA (k_f_X4_setCell  hM1) fun _ M2 hM2 => (k_some hM2))))) (k_cR (k_cA (k_f_X4_cell  hM) fun _ M3 hM3 => (k_cA (k_f_X4_sideOf  hM3) fun _ M4 hM4 => (k_gI fun _ => (k_if (k_cR (k_cA (k_f_X4_setCell  hM4) fun _ M5 hM5 => (k_cR (k_cA (k_f_X4_setCell  hM5) fun _ M6 hM6 => (k_some hM6))))) (k_cR (k_cA (k_f_X4_setCell  hM4) fun _ M7 hM7 => (k_cR (k_cA (k_f_X4_setCell  hM7) fun _ M8 hM8 => (k_cR (k_cA (k_f_X4_setCell  hM8) fun _ M9 hM9 => (k_some hM9))))))))))))) (k_cR (k_cA (k_f_X4_setCell  hM) fun _ M10 hM10 => (k_cR (k_cA (k_f_X4_setCell  hM10) fun _ M11 hM11 => (k_some hM11)))))))
theorem k_f_X2_perform_103 {r1 : Option Nat} {r4 : Option Nat} {i5 : Int32} {i6 : Int32} {i7 : Int32} {i8 : Int32} {si0 : Int32} {M : Mem}  (hM : G0 M0 M) : K0 M0 (f_X2_perform_103 r1 r4 i5 i6 i7 i8 si0 M) := by
  unfold f_X2_perform_103
  exact (k_gI fun _ => (k_if (k_if (k_f_X2_perform_133  hM) (k_cR (k_cA (k_f_X4_cell  hM) fun _ M1 hM1 => (k_cR (k_cA (k_f_X4_setCell  hM1) fun _ M2 hM2 => (k_f_X2_perform_133  hM2)))))) (k_f_X2_perform_133  hM)))
theorem k_f_X2_perform {r0 : Option Nat} {r1 : Option Nat} {r2 : Option Nat} {i3 : Int32} {M : Mem}  (hM : G0 M0 M) : K0 M0 (f_X2_perform r0 r1 r2 i3 M) := by
  unfold f_X2_perform
  exact (k_gR fun _ => (k_gR fun _ => (k_aI fun _ => (k_aR fun _ => (k_gR fun _ => (k_aI fun _ => (k_gR fun _ => (k_aI fun _ => (k_cR (k_cA (k_f_X4_cell  hM) fun _ M1 hM1 => (k_gI fun _ => (k_if (k_gI fun _ => (k_cA (k_f_X4_sideOf  hM1) fun _ M2 hM2 => (k_cR (k_cA (k_f_X4_setCell  hM2) fun _ M3 hM3 => (k_some hM3))))) (k_gI fun _ => (k_cR (k_cA (k_f_X2_besideOf  hM1) fun _ M4 hM4 => (k_if (k_f_X2_perform_103  hM4) (k_gI fun _ => (k_cR (k_cA (k_f_X2_besideOf  hM4) fun _ M5 hM5 => (k_f_X2_perform_103  hM5))))))))))))))))))))
theorem k_f_X4_heapBehind_26 {r0 : Option Nat} {i2 : Int32} {si0 : Int32} {M : Mem}  (hM : G0 M0 M) : K0 M0 (f_X4_heapBehind_26 r0 i2 si0 M) := by
  unfold f_X4_heapBehind_26
  exact (k_cR (k_cA (k_f_X4_count  hM) fun _ M1 hM1 => (k_if (k_some hM1) (k_some hM1))))
theorem k_f_X4_heapBehind {r0 : Option Nat} {i1 : Int32} {i2 : Int32} {M : Mem}  (hM : G0 M0 M) : K0 M0 (f_X4_heapBehind r0 i1 i2 M) := by
  unfold f_X4_heapBehind
  exact (k_cR (k_cA (k_f_X4_count  hM) fun _ M1 hM1 => (k_if (k_gI fun _ => (k_f_X4_heapBehind_26  hM1)) (k_gI fun _ => (k_f_X4_heapBehind_26  hM1)))))
theorem k_f_X2_advance {r0 : Option Nat} {r1 : Option Nat} {r2 : Option Nat} {i3 : Int32} {i4 : Int32} {M : Mem}  (hM : G0 M0 M) : K0 M0 (f_X2_advance r0 r1 r2 i3 i4 M) := by
  unfold f_X2_advance
  exact (k_cR (k_cA (k_f_X4_heapBehind  hM) fun _ M1 hM1 => (k_cR (k_cA (k_f_X2_perform  hM1) fun _ M2 hM2 => (k_pI hM2 fun M3 hM3 => (k_gI fun _ => (k_pI hM3 fun M4 hM4 => (k_some hM4))))))))
theorem k_f_X11_told {r0 : Option Nat} {r1 : Option Nat} {i2 : Int32} {i3 : Int32} {i4 : Int32} {M : Mem}  (hM : G0 M0 M) : K0 M0 (f_X11_told r0 r1 i2 i3 i4 M) := by
  unfold f_X11_told
  exact (k_cA (k_f_X11_isMove  hM) fun _ M1 hM1 => (k_if (k_tv (k_some hM1)) (k_cA (k_f_X11_isMove  hM1) fun _ M2 hM2 => (k_if (k_tv (k_some hM2)) (k_cR (k_cA (k_f_X11_isOver  hM2) fun _ M3 hM3 => (k_if (k_gR fun _ => (k_gI fun _ => (k_if (k_cA (k_f_J6_bitCount_0f7a4  hM3) fun _ M4 hM4 => (k_if (k_gR fun _ => (k_gR fun _ => (k_gI fun _ => (k_cR (k_cA (k_f_X11_rules  hM4) fun _ M5 hM5 => (k_cR (k_cA (k_f_X2_advance  hM5) fun _ M6 hM6 => (k_tv (k_some hM6))))))))) (k_tv (k_some hM4)))) (k_tv (k_some hM3))))) (k_tv (k_some hM3)))))))))
theorem k_f_X11_tryPly {r0 : Option Nat} {i1 : Int32} {M : Mem}  (hM : G0 M0 M) : K0 M0 (f_X11_tryPly r0 i1 M) := by
  unfold f_X11_tryPly
  exact (k_if (k_tv (k_some hM)) (k_gR fun _ => (k_gR fun _ => (k_aN fun _ => (k_if (k_gR fun _ => (k_gR fun _ => (k_aI fun _ => (k_gR fun _ => (k_gR fun _ => (k_aI fun _ => (k_gR fun _ => (k_gR fun _ => (k_aI fun _ => (k_cA (k_f_X10_bitsOf  hM) fun _ M1 hM1 => (k_gR fun _ => (k_gR fun _ => (k_gR fun _ => (k_aI fun _ => (k_gR fun _ => (k_gR fun _ => (k_aI fun _ => (k_cR (k_cA (k_f_X11_told  hM1) fun _ M2 hM2 => (k_tv (k_some hM2))))))))))))))))))))) (k_tv (k_some hM)))))))
theorem k_f_X4_take {r0 : Option Nat} {r1 : Option Nat} {M : Mem}  (hM : G0 M0 M) : K0 M0 (f_X4_take r0 r1 M) := by
  unfold f_X4_take
  exact (k_gL fun _ => (k_pL hM fun M1 hM1 => (k_gI fun _ => (k_pI hM1 fun M2 hM2 => (k_gI fun _ => (k_pI hM2 fun M3 hM3 => (k_some hM3)))))))
theorem k_b_X11_again_21 {q21 : Option Nat → Int32 → Mem → Option (Int32 × Mem)} {r0 : Option Nat} {i1 : Int32} {M : Mem} (hq21 : ∀ (x0 : Option Nat) (x1 : Int32) (x2 : Mem), G0 M0 x2 → K0 M0 (q21 x0 x1 x2)) (hM : G0 M0 M) : K0 M0 (b_X11_again_21 q21 r0 i1 M) := by
  unfold b_X11_again_21
  exact (k_gR fun _ => (k_gI fun _ => (k_if (k_some hM) (k_if (k_some hM) (k_cR (k_cA (k_f_X11_tryPly  hM) fun _ M1 hM1 => (k_if (k_some hM1) (k_cR (k_cA (k_f_X11_remember  hM1) fun _ M2 hM2 => (k_cR (k_cA (k_f_X11_cameByAnotherHeap  hM2) fun _ M3 hM3 => (k_if (hq21 _ _ _ hM3) (k_some hM3)))))))))))))
theorem k_f_X11_again_21   : ∀ (n : Nat) (x0 : Option Nat) (x1 : Int32) (x2 : Mem), G0 M0 x2 → K0 M0 (f_X11_again_21  n x0 x1 x2)
  | 0 => fun _ _ _ _ => k_none
  | n + 1 => fun _ _ _ h => k_b_X11_again_21  (k_f_X11_again_21  n) h
theorem k_f_X11_again {r0 : Option Nat} {M : Mem}  (hM : G0 M0 M) : K0 M0 (f_X11_again r0 M) := by
  unfold f_X11_again
  exact (k_gR fun _ => (k_gR fun _ => (k_gR fun _ => (k_cR (k_cA (k_f_X4_take  hM) fun _ M1 hM1 => (k_cR (k_cA (k_f_X11_remember  hM1) fun _ M2 hM2 => (k_f_X11_again_21  _ _ _ _ hM2))))))))
theorem k_f_X11_piecesNow {r0 : Option Nat} {M : Mem}  (hM : G0 M0 M) : K0 M0 (f_X11_piecesNow r0 M) := by
  unfold f_X11_piecesNow
  exact (k_gR fun _ => (k_gR fun _ => (k_cR (k_cA (k_f_X4_pieces  hM) fun _ M1 hM1 => (k_gR fun _ => (k_gR fun _ => (k_cR (k_cA (k_f_X4_pieces  hM1) fun _ M2 hM2 => (k_some hM2)))))))))
theorem k_f_X7_take {r0 : Option Nat} {r1 : Option Nat} {M : Mem}  (hM : G0 M0 M) : K0 M0 (f_X7_take r0 r1 M) := by
  unfold f_X7_take
  exact (k_gR fun _ => (k_gR fun _ => (k_cR (k_cA (k_f_X4_take  hM) fun _ M1 hM1 => (k_gR fun _ => (k_gR fun _ => (k_aI fun _ => (k_wI (by decide) hM1 fun M2 hM2 => (k_gR fun _ => (k_gR fun _ => (k_aI fun _ => (k_wI (by decide) hM2 fun M3 hM3 => (k_gR fun _ => (k_gR fun _ => (k_gR fun _ => (k_aN fun _ => (k_cP hM3 fun M4 hM4 => (k_gI fun _ => (k_pI hM4 fun M5 hM5 => (k_gI fun _ => (k_pI hM5 fun M6 hM6 => (k_gI fun _ => (k_pI hM6 fun M7 hM7 => (k_some hM7))))))))))))))))))))))))
theorem k_f_X8_forget {r0 : Option Nat} {M : Mem}  (hM : G0 M0 M) : K0 M0 (f_X8_forget r0 M) := by
  unfold f_X8_forget
  exact (k_pR hM fun M1 hM1 => (k_some hM1))
theorem k_f_X11_back {r0 : Option Nat} {M : Mem}  (hM : G0 M0 M) : K0 M0 (f_X11_back r0 M) := by
  unfold f_X11_back
  exact (k_gR fun _ => (k_gR fun _ => (k_cR (k_cA (k_f_X7_take  hM) fun _ M1 hM1 => (k_gR fun _ => (k_cR (k_cA (k_f_X8_forget  hM1) fun _ M2 hM2 => (k_cR (k_cA (k_f_X11_piecesNow  hM2) fun _ M3 hM3 => (k_some hM3))))))))))
theorem k_b_X0_hasGoodNo_2 {q2 : Option Nat → Int32 → Int32 → Int32 → Mem → Option (Int32 × Mem)} {r0 : Option Nat} {i1 : Int32} {i2 : Int32} {i3 : Int32} {M : Mem} (hq2 : ∀ (x0 : Option Nat) (x1 : Int32) (x2 : Int32) (x3 : Int32) (x4 : Mem), G0 M0 x4 → K0 M0 (q2 x0 x1 x2 x3 x4)) (hM : G0 M0 M) : K0 M0 (b_X0_hasGoodNo_2 q2 r0 i1 i2 i3 M) := by
  unfold b_X0_hasGoodNo_2
  exact (k_if (k_tv (k_some hM)) (k_if (hq2 _ _ _ _ _ hM) (k_gR fun _ => (k_aI fun _ => (k_if (k_tv (k_some hM)) (hq2 _ _ _ _ _ hM))))))
theorem k_f_X0_hasGoodNo_2   : ∀ (n : Nat) (x0 : Option Nat) (x1 : Int32) (x2 : Int32) (x3 : Int32) (x4 : Mem), G0 M0 x4 → K0 M0 (f_X0_hasGoodNo_2  n x0 x1 x2 x3 x4)
  | 0 => fun _ _ _ _ _ _ => k_none
  | n + 1 => fun _ _ _ _ _ h => k_b_X0_hasGoodNo_2  (k_f_X0_hasGoodNo_2  n) h
theorem k_f_X0_hasGoodNo {r0 : Option Nat} {i1 : Int32} {i2 : Int32} {M : Mem}  (hM : G0 M0 M) : K0 M0 (f_X0_hasGoodNo r0 i1 i2 M) := by
  unfold f_X0_hasGoodNo
  exact (k_f_X0_hasGoodNo_2  _ _ _ _ _ _ hM)
theorem k_b_X0_losingNoes_5 {q5 : Option Nat → Int32 → Int32 → Int32 → Int32 → Mem → Option (Int32 × Mem)} {r0 : Option Nat} {i1 : Int32} {i2 : Int32} {i3 : Int32} {i4 : Int32} {M : Mem} (hq5 : ∀ (x0 : Option Nat) (x1 : Int32) (x2 : Int32) (x3 : Int32) (x4 : Int32) (x5 : Mem), G0 M0 x5 → K0 M0 (q5 x0 x1 x2 x3 x4 x5)) (hM : G0 M0 M) : K0 M0 (b_X0_losingNoes_5 q5 r0 i1 i2 i3 i4 M) := by
  unfold b_X0_losingNoes_5
  exact (k_if (k_some hM) (k_if (hq5 _ _ _ _ _ _ hM) (k_gR fun _ => (k_aI fun _ => (k_if (hq5 _ _ _ _ _ _ hM) (hq5 _ _ _ _ _ _ hM))))))
theorem k_f_X0_losingNoes_5   : ∀ (n : Nat) (x0 : Option Nat) (x1 : Int32) (x2 : Int32) (x3 : Int32) (x4 : Int32) (x5 : Mem), G0 M0 x5 → K0 M0 (f_X0_losingNoes_5  n x0 x1 x2 x3 x4 x5)
  | 0 => fun _ _ _ _ _ _ _ => k_none
  | n + 1 => fun _ _ _ _ _ _ h => k_b_X0_losingNoes_5  (k_f_X0_losingNoes_5  n) h
theorem k_f_X0_losingNoes {r0 : Option Nat} {i1 : Int32} {i2 : Int32} {M : Mem}  (hM : G0 M0 M) : K0 M0 (f_X0_losingNoes r0 i1 i2 M) := by
  unfold f_X0_losingNoes
  exact (k_f_X0_losingNoes_5  _ _ _ _ _ _ _ hM)
theorem k_f_X0_settle {r0 : Option Nat} {i1 : Int32} {i2 : Int32} {i3 : Int32} {M : Mem}  (hM : G0 M0 M) : K0 M0 (f_X0_settle r0 i1 i2 i3 M) := by
  unfold f_X0_settle
  exact (k_gR fun _ => (k_wI (by decide) hM fun M1 hM1 => (k_gR fun _ => (k_wI (by decide) hM1 fun M2 hM2 => (k_gI fun _ => (k_gR fun _ => (k_aN fun _ => (k_if (k_some hM2) (k_gR fun _ => (k_gI fun _ => (k_wI (by decide) hM2 fun M3 hM3 => (k_gI fun _ => (k_pI hM3 fun M4 hM4 => (k_some hM4))))))))))))))
theorem k_b_X0_decide_5 {q5 : Option Nat → Int32 → Int32 → Int32 → Int32 → Mem → Option (Unit × Mem)} {r0 : Option Nat} {i1 : Int32} {i2 : Int32} {i3 : Int32} {i4 : Int32} {M : Mem} (hq5 : ∀ (x0 : Option Nat) (x1 : Int32) (x2 : Int32) (x3 : Int32) (x4 : Int32) (x5 : Mem), G0 M0 x5 → K0 M0 (q5 x0 x1 x2 x3 x4 x5)) (hM : G0 M0 M) : K0 M0 (b_X0_decide_5 q5 r0 i1 i2 i3 i4 M) := by
  unfold b_X0_decide_5
  exact (k_if (k_if (k_some hM) (k_cR (k_cA (k_f_X0_settle  hM) fun _ M1 hM1 => (k_some hM1)))) (k_gR fun _ => (k_gR fun _ => (k_aI fun _ => (k_gR fun _ => (k_gR fun _ => (k_aI fun _ => (k_if (k_cR (k_cA (k_f_X0_losingNoes  hM) fun _ M2 hM2 => (k_if (k_cR (k_cA (k_f_X0_settle  hM2) fun _ M3 hM3 => (k_some hM3))) (k_if (hq5 _ _ _ _ _ _ hM2) (k_cR (k_cA (k_f_X0_hasGoodNo  hM2) fun _ M4 hM4 => (k_if (hq5 _ _ _ _ _ _ hM4) (hq5 _ _ _ _ _ _ hM4)))))))) (hq5 _ _ _ _ _ _ hM)))))))))
theorem k_f_X0_decide_5   : ∀ (n : Nat) (x0 : Option Nat) (x1 : Int32) (x2 : Int32) (x3 : Int32) (x4 : Int32) (x5 : Mem), G0 M0 x5 → K0 M0 (f_X0_decide_5  n x0 x1 x2 x3 x4 x5)
  | 0 => fun _ _ _ _ _ _ _ => k_none
  | n + 1 => fun _ _ _ _ _ _ h => k_b_X0_decide_5  (k_f_X0_decide_5  n) h
theorem k_f_X0_decide {r0 : Option Nat} {i1 : Int32} {i2 : Int32} {M : Mem}  (hM : G0 M0 M) : K0 M0 (f_X0_decide r0 i1 i2 M) := by
  unfold f_X0_decide
  exact (k_f_X0_decide_5  _ _ _ _ _ _ _ hM)
theorem k_b_X0_touchEntries_33 {q33 : Option Nat → Int32 → Option Nat → Int32 → Int32 → Mem → Option (Unit × Mem)} {r0 : Option Nat} {i2 : Int32} {r3 : Option Nat} {i4 : Int32} {i5 : Int32} {M : Mem} (hq33 : ∀ (x0 : Option Nat) (x1 : Int32) (x2 : Option Nat) (x3 : Int32) (x4 : Int32) (x5 : Mem), G0 M0 x5 → K0 M0 (q33 x0 x1 x2 x3 x4 x5)) (hM : G0 M0 M) : K0 M0 (b_X0_touchEntries_33 q33 r0 i2 r3 i4 i5 M) := by
  unfold b_X0_touchEntries_33
  exact (k_gR fun _ => (k_aN fun _ => (k_if (k_some hM) (k_if (k_some hM) (k_nzI (k_nzI (k_nzI (k_aI fun _ => (k_nzI (k_wI (by decide) hM fun M1 hM1 => (k_gR fun _ => (k_aI fun _ => (k_if (k_gR fun _ => (k_aI fun _ => (k_if (k_gR fun _ => (k_aI fun _ => (hq33 _ _ _ _ _ _ hM1))) (k_gI fun _ => (k_gR fun _ => (k_aN fun _ => (k_if (k_gR fun _ => (k_aI fun _ => (hq33 _ _ _ _ _ _ hM1))) (k_gR fun _ => (k_wI (by decide) hM1 fun M2 hM2 => (k_gR fun _ => (k_gI fun _ => (k_wI (by decide) hM2 fun M3 hM3 => (k_gI fun _ => (k_pI hM3 fun M4 hM4 => (k_gR fun _ => (k_aI fun _ => (hq33 _ _ _ _ _ _ hM4))))))))))))))))) (k_gR fun _ => (k_aI fun _ => (hq33 _ _ _ _ _ _ hM1))))))))))))))))
theorem k_f_X0_touchEntries_33   : ∀ (n : Nat) (x0 : Option Nat) (x1 : Int32) (x2 : Option Nat) (x3 : Int32) (x4 : Int32) (x5 : Mem), G0 M0 x5 → K0 M0 (f_X0_touchEntries_33  n x0 x1 x2 x3 x4 x5)
  | 0 => fun _ _ _ _ _ _ _ => k_none
  | n + 1 => fun _ _ _ _ _ _ h => k_b_X0_touchEntries_33  (k_f_X0_touchEntries_33  n) h
theorem k_f_X0_touchEntries {r0 : Option Nat} {i1 : Int32} {i2 : Int32} {M : Mem}  (hM : G0 M0 M) : K0 M0 (f_X0_touchEntries r0 i1 i2 M) := by
  unfold f_X0_touchEntries
  exact (k_gR fun _ => (k_aI fun _ => (k_if (k_gR fun _ => (k_gR fun _ => (k_aI fun _ => (k_f_X0_touchEntries_33  _ _ _ _ _ _ _ hM)))) (k_gR fun _ => (k_gR fun _ => (k_aI fun _ => (k_f_X0_touchEntries_33  _ _ _ _ _ _ _ hM)))))))
theorem k_b_X0_decideAll_54 {q4 : Option Nat → Int32 → Int32 → Mem → Option (Unit × Mem)} {q54 : Option Nat → Int32 → Int32 → Int32 → Mem → Option (Unit × Mem)} {r0 : Option Nat} {i1 : Int32} {i2 : Int32} {i4 : Int32} {M : Mem} (hq4 : ∀ (x0 : Option Nat) (x1 : Int32) (x2 : Int32) (x3 : Mem), G0 M0 x3 → K0 M0 (q4 x0 x1 x2 x3)) (hq54 : ∀ (x0 : Option Nat) (x1 : Int32) (x2 : Int32) (x3 : Int32) (x4 : Mem), G0 M0 x4 → K0 M0 (q54 x0 x1 x2 x3 x4)) (hM : G0 M0 M) : K0 M0 (b_X0_decideAll_54 q4 q54 r0 i1 i2 i4 M) := by
  unfold b_X0_decideAll_54
  exact (k_gI fun _ => (k_if (hq4 _ _ _ _ hM) (k_gR fun _ => (k_aI fun _ => (k_cR (k_cA (k_f_X0_decide  hM) fun _ M1 hM1 => (hq54 _ _ _ _ _ hM1)))))))
theorem k_f_X0_decideAll_54 {q4 : Option Nat → Int32 → Int32 → Mem → Option (Unit × Mem)} (hq4 : ∀ (x0 : Option Nat) (x1 : Int32) (x2 : Int32) (x3 : Mem), G0 M0 x3 → K0 M0 (q4 x0 x1 x2 x3)) : ∀ (n : Nat) (x0 : Option Nat) (x1 : Int32) (x2 : Int32) (x3 : Int32) (x4 : Mem), G0 M0 x4 → K0 M0 (f_X0_decideAll_54 q4 n x0 x1 x2 x3 x4)
  | 0 => fun _ _ _ _ _ _ => k_none
  | n + 1 => fun _ _ _ _ _ h => k_b_X0_decideAll_54 hq4 (k_f_X0_decideAll_54 hq4 n) h
theorem k_b_X0_decideAll_29 {q4 : Option Nat → Int32 → Int32 → Mem → Option (Unit × Mem)} {q29 : Option Nat → Int32 → Int32 → Int32 → Mem → Option (Unit × Mem)} {r0 : Option Nat} {i1 : Int32} {i2 : Int32} {i3 : Int32} {M : Mem} (hq4 : ∀ (x0 : Option Nat) (x1 : Int32) (x2 : Int32) (x3 : Mem), G0 M0 x3 → K0 M0 (q4 x0 x1 x2 x3)) (hq29 : ∀ (x0 : Option Nat) (x1 : Int32) (x2 : Int32) (x3 : Int32) (x4 : Mem), G0 M0 x4 → K0 M0 (q29 x0 x1 x2 x3 x4)) (hM : G0 M0 M) : K0 M0 (b_X0_decideAll_29 q4 q29 r0 i1 i2 i3 M) := by
  unfold b_X0_decideAll_29
  exact (k_if (k_f_X0_decideAll_54 hq4 _ _ _ _ _ _ hM) (k_gR fun _ => (k_aI fun _ => (k_cR (k_cA (k_f_X0_touchEntries  hM) fun _ M1 hM1 => (hq29 _ _ _ _ _ hM1))))))
theorem k_f_X0_decideAll_29 {q4 : Option Nat → Int32 → Int32 → Mem → Option (Unit × Mem)} (hq4 : ∀ (x0 : Option Nat) (x1 : Int32) (x2 : Int32) (x3 : Mem), G0 M0 x3 → K0 M0 (q4 x0 x1 x2 x3)) : ∀ (n : Nat) (x0 : Option Nat) (x1 : Int32) (x2 : Int32) (x3 : Int32) (x4 : Mem), G0 M0 x4 → K0 M0 (f_X0_decideAll_29 q4 n x0 x1 x2 x3 x4)
  | 0 => fun _ _ _ _ _ _ => k_none
  | n + 1 => fun _ _ _ _ _ h => k_b_X0_decideAll_29 hq4 (k_f_X0_decideAll_29 hq4 n) h
theorem k_b_X0_decideAll_4 {q4 : Option Nat → Int32 → Int32 → Mem → Option (Unit × Mem)} {r0 : Option Nat} {i1 : Int32} {i2 : Int32} {M : Mem} (hq4 : ∀ (x0 : Option Nat) (x1 : Int32) (x2 : Int32) (x3 : Mem), G0 M0 x3 → K0 M0 (q4 x0 x1 x2 x3)) (hM : G0 M0 M) : K0 M0 (b_X0_decideAll_4 q4 r0 i1 i2 M) := by
  unfold b_X0_decideAll_4
  exact (k_if (k_some hM) (k_gI fun _ => (k_if (k_some hM) (k_gI fun _ => (k_pI hM fun M1 hM1 => (k_f_X0_decideAll_29 hq4 _ _ _ _ _ _ hM1))))))
theorem k_f_X0_decideAll_4   : ∀ (n : Nat) (x0 : Option Nat) (x1 : Int32) (x2 : Int32) (x3 : Mem), G0 M0 x3 → K0 M0 (f_X0_decideAll_4  n x0 x1 x2 x3)
  | 0 => fun _ _ _ _ _ => k_none
  | n + 1 => fun _ _ _ _ h => k_b_X0_decideAll_4  (k_f_X0_decideAll_4  n) h
theorem k_f_X0_decideAll {r0 : Option Nat} {M : Mem}  (hM : G0 M0 M) : K0 M0 (f_X0_decideAll r0 M) := by
  unfold f_X0_decideAll
  exact (k_f_X0_decideAll_4  _ _ _ _ _ hM)
theorem k_b_X0_linkExits_12 {q12 : Option Nat → Int32 → Int32 → Int32 → Mem → Option (Unit × Mem)} {r0 : Option Nat} {i1 : Int32} {i2 : Int32} {i3 : Int32} {M : Mem} (hq12 : ∀ (x0 : Option Nat) (x1 : Int32) (x2 : Int32) (x3 : Int32) (x4 : Mem), G0 M0 x4 → K0 M0 (q12 x0 x1 x2 x3 x4)) (hM : G0 M0 M) : K0 M0 (b_X0_linkExits_12 q12 r0 i1 i2 i3 M) := by
  unfold b_X0_linkExits_12
  exact (k_if (k_some hM) (k_nzI (k_nzI (k_if (hq12 _ _ _ _ _ hM) (k_if (hq12 _ _ _ _ _ hM) (k_if (hq12 _ _ _ _ _ hM) (k_gR fun _ => (k_gR fun _ => (k_aI fun _ => (k_gR fun _ => (k_gR fun _ => (k_aI fun _ => (k_wI (by decide) hM fun M1 hM1 => (k_gR fun _ => (k_wI (by decide) hM1 fun M2 hM2 => (hq12 _ _ _ _ _ hM2))))))))))))))))
theorem k_f_X0_linkExits_12   : ∀ (n : Nat) (x0 : Option Nat) (x1 : Int32) (x2 : Int32) (x3 : Int32) (x4 : Mem), G0 M0 x4 → K0 M0 (f_X0_linkExits_12  n x0 x1 x2 x3 x4)
  | 0 => fun _ _ _ _ _ _ => k_none
  | n + 1 => fun _ _ _ _ _ h => k_b_X0_linkExits_12  (k_f_X0_linkExits_12  n) h
theorem k_f_X0_linkExits {r0 : Option Nat} {i1 : Int32} {M : Mem}  (hM : G0 M0 M) : K0 M0 (f_X0_linkExits r0 i1 M) := by
  unfold f_X0_linkExits
  exact (k_gR fun _ => (k_gR fun _ => (k_aI fun _ => (k_f_X0_linkExits_12  _ _ _ _ _ _ hM))))
theorem k_b_X0_prepare_90 {q90 : Option Nat → Int32 → Mem → Option (Unit × Mem)} {r0 : Option Nat} {i1 : Int32} {M : Mem} (hq90 : ∀ (x0 : Option Nat) (x1 : Int32) (x2 : Mem), G0 M0 x2 → K0 M0 (q90 x0 x1 x2)) (hM : G0 M0 M) : K0 M0 (b_X0_prepare_90 q90 r0 i1 M) := by
  unfold b_X0_prepare_90
  exact (k_gR fun _ => (k_gI fun _ => (k_if (k_some hM) (k_gR fun _ => (k_gR fun _ => (k_aI fun _ => (k_if (k_cR (k_cA (k_f_X0_settle  hM) fun _ M1 hM1 => (hq90 _ _ _ hM1))) (k_cR (k_cA (k_f_X0_linkExits  hM) fun _ M2 hM2 => (hq90 _ _ _ hM2))))))))))
theorem k_f_X0_prepare_90   : ∀ (n : Nat) (x0 : Option Nat) (x1 : Int32) (x2 : Mem), G0 M0 x2 → K0 M0 (f_X0_prepare_90  n x0 x1 x2)
  | 0 => fun _ _ _ _ => k_none
  | n + 1 => fun _ _ _ h => k_b_X0_prepare_90  (k_f_X0_prepare_90  n) h
theorem k_b_X0_prepare_49 {q49 : Option Nat → Int32 → Mem → Option (Unit × Mem)} {r0 : Option Nat} {i1 : Int32} {M : Mem} (hq49 : ∀ (x0 : Option Nat) (x1 : Int32) (x2 : Mem), G0 M0 x2 → K0 M0 (q49 x0 x1 x2)) (hM : G0 M0 M) : K0 M0 (b_X0_prepare_49 q49 r0 i1 M) := by
  unfold b_X0_prepare_49
  exact (k_gR fun _ => (k_gI fun _ => (k_if (k_pI hM fun M1 hM1 => (k_f_X0_prepare_90  _ _ _ _ hM1)) (k_gR fun _ => (k_wI (by decide) hM fun M2 hM2 => (k_gR fun _ => (k_wI (by decide) hM2 fun M3 hM3 => (hq49 _ _ _ hM3))))))))
theorem k_f_X0_prepare_49   : ∀ (n : Nat) (x0 : Option Nat) (x1 : Int32) (x2 : Mem), G0 M0 x2 → K0 M0 (f_X0_prepare_49  n x0 x1 x2)
  | 0 => fun _ _ _ _ => k_none
  | n + 1 => fun _ _ _ h => k_b_X0_prepare_49  (k_f_X0_prepare_49  n) h
theorem k_b_X0_prepare_2 {q2 : Option Nat → Int32 → Mem → Option (Unit × Mem)} {r0 : Option Nat} {i1 : Int32} {M : Mem} (hq2 : ∀ (x0 : Option Nat) (x1 : Int32) (x2 : Mem), G0 M0 x2 → K0 M0 (q2 x0 x1 x2)) (hM : G0 M0 M) : K0 M0 (b_X0_prepare_2 q2 r0 i1 M) := by
  unfold b_X0_prepare_2
  exact (k_gR fun _ => (k_gI fun _ => (k_if (k_f_X0_prepare_49  _ _ _ _ hM) (k_gR fun _ => (k_wI (by decide) hM fun M1 hM1 => (k_gR fun _ => (k_wI (by decide) hM1 fun M2 hM2 => (k_gR fun _ => (k_wI (by decide) hM2 fun M3 hM3 => (k_gR fun _ => (k_wI (by decide) hM3 fun M4 hM4 => (hq2 _ _ _ hM4))))))))))))
theorem k_f_X0_prepare_2   : ∀ (n : Nat) (x0 : Option Nat) (x1 : Int32) (x2 : Mem), G0 M0 x2 → K0 M0 (f_X0_prepare_2  n x0 x1 x2)
  | 0 => fun _ _ _ _ => k_none
  | n + 1 => fun _ _ _ h => k_b_X0_prepare_2  (k_f_X0_prepare_2  n) h
theorem k_f_X0_prepare {r0 : Option Nat} {M : Mem}  (hM : G0 M0 M) : K0 M0 (f_X0_prepare r0 M) := by
  unfold f_X0_prepare
  exact (k_f_X0_prepare_2  _ _ _ _ hM)
theorem k_b_J7_fill_53178_5 {q5 : Option Nat → Int32 → Int32 → Int32 → Mem → Option (Unit × Mem)} {r0 : Option Nat} {i1 : Int32} {i2 : Int32} {i3 : Int32} {M : Mem} (hq5 : ∀ (x0 : Option Nat) (x1 : Int32) (x2 : Int32) (x3 : Int32) (x4 : Mem), G0 M0 x4 → K0 M0 (q5 x0 x1 x2 x3 x4)) (hM : G0 M0 M) : K0 M0 (b_J7_fill_53178_5 q5 r0 i1 i2 i3 M) := by
  unfold b_J7_fill_53178_5
  exact (k_if (k_some hM) (k_wI (by decide) hM fun M1 hM1 => (hq5 _ _ _ _ _ hM1)))
theorem k_f_J7_fill_53178_5   : ∀ (n : Nat) (x0 : Option Nat) (x1 : Int32) (x2 : Int32) (x3 : Int32) (x4 : Mem), G0 M0 x4 → K0 M0 (f_J7_fill_53178_5  n x0 x1 x2 x3 x4)
  | 0 => fun _ _ _ _ _ _ => k_none
  | n + 1 => fun _ _ _ _ _ h => k_b_J7_fill_53178_5  (k_f_J7_fill_53178_5  n) h
theorem k_f_J7_fill_53178 {r0 : Option Nat} {i1 : Int32} {M : Mem}  (hM : G0 M0 M) : K0 M0 (f_J7_fill_53178 r0 i1 M) := by
  unfold f_J7_fill_53178
  exact (k_aN fun _ => (k_f_J7_fill_53178_5  _ _ _ _ _ _ hM))
theorem k_f_X4_setBoardAndTurn {r0 : Option Nat} {l1 : Int64} {M : Mem}  (hM : G0 M0 M) : K0 M0 (f_X4_setBoardAndTurn r0 l1 M) := by
  unfold f_X4_setBoardAndTurn
  exact (k_pI hM fun M1 hM1 => (k_pL hM1 fun M2 hM2 => (k_some hM2)))
theorem k_f_X8_enter {r0 : Option Nat} {i1 : Int32} {l2 : Int64} {i4 : Int32} {M : Mem}  (hM : G0 M0 M) : K0 M0 (f_X8_enter r0 i1 l2 i4 M) := by
  unfold f_X8_enter
  exact (k_gI fun _ => (k_if (k_gR fun _ => (k_gI fun _ => (k_wL hM fun M1 hM1 => (k_gR fun _ => (k_gI fun _ => (k_wI (by decide) hM1 fun M2 hM2 => (k_gI fun _ => (k_pI hM2 fun M3 hM3 => (k_gR fun _ => (k_gI fun _ => (k_wI (by decide) hM3 fun M4 hM4 => (k_gI fun _ => (k_some hM4))))))))))))) (k_tv (k_pI hM fun M5 hM5 => (k_some hM5)))))
theorem k_f_X8_numberOf_83 {q24 : Option Nat → Int64 → Int32 → Int32 → Int32 → Mem → Option (Int32 × Mem)} {r0 : Option Nat} {l1 : Int64} {i3 : Int32} {i6 : Int32} {i7 : Int32} {M : Mem} (hq24 : ∀ (x0 : Option Nat) (x1 : Int64) (x2 : Int32) (x3 : Int32) (x4 : Int32) (x5 : Mem), G0 M0 x5 → K0 M0 (q24 x0 x1 x2 x3 x4 x5)) (hM : G0 M0 M) : K0 M0 (f_X8_numberOf_83 q24 r0 l1 i3 i6 i7 M) := by
  unfold f_X8_numberOf_83
  exact (k_if (hq24 _ _ _ _ _ _ hM) (hq24 _ _ _ _ _ _ hM))
theorem k_b_X8_numberOf_24 {q24 : Option Nat → Int64 → Int32 → Int32 → Int32 → Mem → Option (Int32 × Mem)} {r0 : Option Nat} {l1 : Int64} {i3 : Int32} {i6 : Int32} {i7 : Int32} {M : Mem} (hq24 : ∀ (x0 : Option Nat) (x1 : Int64) (x2 : Int32) (x3 : Int32) (x4 : Int32) (x5 : Mem), G0 M0 x5 → K0 M0 (q24 x0 x1 x2 x3 x4 x5)) (hM : G0 M0 M) : K0 M0 (b_X8_numberOf_24 q24 r0 l1 i3 i6 i7 M) := by
  unfold b_X8_numberOf_24
  exact (k_if (k_some hM) (k_gR fun _ => (k_aI fun _ => (k_if (k_gR fun _ => (k_aL fun _ => (k_if (k_gR fun _ => (k_aI fun _ => (k_if (k_some hM) (k_f_X8_numberOf_83 hq24 hM)))) (k_f_X8_numberOf_83 hq24 hM)))) (k_cR (k_cA (k_f_X8_enter  hM) fun _ M1 hM1 => (k_some hM1)))))))
theorem k_f_X8_numberOf_24   : ∀ (n : Nat) (x0 : Option Nat) (x1 : Int64) (x2 : Int32) (x3 : Int32) (x4 : Int32) (x5 : Mem), G0 M0 x5 → K0 M0 (f_X8_numberOf_24  n x0 x1 x2 x3 x4 x5)
  | 0 => fun _ _ _ _ _ _ _ => k_none
  | n + 1 => fun _ _ _ _ _ _ h => k_b_X8_numberOf_24  (k_f_X8_numberOf_24  n) h
theorem k_f_X8_numberOf {r0 : Option Nat} {l1 : Int64} {i3 : Int32} {M : Mem}  (hM : G0 M0 M) : K0 M0 (f_X8_numberOf r0 l1 i3 M) := by
  unfold f_X8_numberOf
  exact (k_f_X8_numberOf_24  _ _ _ _ _ _ _ hM)
theorem k_b_X8_expand_144 {q77 : Option Nat → Int32 → Int32 → Mem → Option (Unit × Mem)} {q144 : Option Nat → Int32 → Int32 → Int32 → Mem → Option (Unit × Mem)} {r0 : Option Nat} {i1 : Int32} {i2 : Int32} {i3 : Int32} {M : Mem} (hq77 : ∀ (x0 : Option Nat) (x1 : Int32) (x2 : Int32) (x3 : Mem), G0 M0 x3 → K0 M0 (q77 x0 x1 x2 x3)) (hq144 : ∀ (x0 : Option Nat) (x1 : Int32) (x2 : Int32) (x3 : Int32) (x4 : Mem), G0 M0 x4 → K0 M0 (q144 x0 x1 x2 x3 x4)) (hM : G0 M0 M) : K0 M0 (b_X8_expand_144 q77 q144 r0 i1 i2 i3 M) := by
  unfold b_X8_expand_144
  exact (k_if (hq77 _ _ _ _ hM) (k_if (hq144 _ _ _ _ _ hM) (k_gR fun _ => (k_aI fun _ => (k_if (hq144 _ _ _ _ _ hM) (k_gR fun _ => (k_cR (k_cA (k_f_X4_boardAndTurn  hM) fun _ M1 hM1 => (k_gR fun _ => (k_cR (k_cA (k_f_X4_heapBehind  hM1) fun _ M2 hM2 => (k_cR (k_cA (k_f_X8_numberOf  hM2) fun _ M3 hM3 => (k_gR fun _ => (k_wI (by decide) hM3 fun M4 hM4 => (hq144 _ _ _ _ _ hM4))))))))))))))))
theorem k_f_X8_expand_144 {q77 : Option Nat → Int32 → Int32 → Mem → Option (Unit × Mem)} (hq77 : ∀ (x0 : Option Nat) (x1 : Int32) (x2 : Int32) (x3 : Mem), G0 M0 x3 → K0 M0 (q77 x0 x1 x2 x3)) : ∀ (n : Nat) (x0 : Option Nat) (x1 : Int32) (x2 : Int32) (x3 : Int32) (x4 : Mem), G0 M0 x4 → K0 M0 (f_X8_expand_144 q77 n x0 x1 x2 x3 x4)
  | 0 => fun _ _ _ _ _ _ => k_none
  | n + 1 => fun _ _ _ _ _ h => k_b_X8_expand_144 hq77 (k_f_X8_expand_144 hq77 n) h
theorem k_b_X8_expand_77 {q77 : Option Nat → Int32 → Int32 → Mem → Option (Unit × Mem)} {r0 : Option Nat} {i1 : Int32} {i2 : Int32} {M : Mem} (hq77 : ∀ (x0 : Option Nat) (x1 : Int32) (x2 : Int32) (x3 : Mem), G0 M0 x3 → K0 M0 (q77 x0 x1 x2 x3)) (hM : G0 M0 M) : K0 M0 (b_X8_expand_77 q77 r0 i1 i2 M) := by
  unfold b_X8_expand_77
  exact (k_if (k_some hM) (k_gR fun _ => (k_aI fun _ => (k_if (hq77 _ _ _ _ hM) (k_gR fun _ => (k_gR fun _ => (k_cR (k_cA (k_f_X4_take  hM) fun _ M1 hM1 => (k_gR fun _ => (k_gR fun _ => (k_gR fun _ => (k_cR (k_cA (k_f_X2_perform  hM1) fun _ M2 hM2 => (k_gR fun _ => (k_gR fun _ => (k_gI fun _ => (k_pI hM2 fun M3 hM3 => (k_f_X8_expand_144 hq77 _ _ _ _ _ _ hM3))))))))))))))))))
theorem k_f_X8_expand_77   : ∀ (n : Nat) (x0 : Option Nat) (x1 : Int32) (x2 : Int32) (x3 : Mem), G0 M0 x3 → K0 M0 (f_X8_expand_77  n x0 x1 x2 x3)
  | 0 => fun _ _ _ _ _ => k_none
  | n + 1 => fun _ _ _ _ h => k_b_X8_expand_77  (k_f_X8_expand_77  n) h
theorem k_f_X8_expand {r0 : Option Nat} {i1 : Int32} {M : Mem}  (hM : G0 M0 M) : K0 M0 (f_X8_expand r0 i1 M) := by
  unfold f_X8_expand
  exact (k_gR fun _ => (k_gR fun _ => (k_aL fun _ => (k_cR (k_cA (k_f_X4_setBoardAndTurn  hM) fun _ M1 hM1 => (k_gR fun _ => (k_gR fun _ => (k_aI fun _ => (k_pI hM1 fun M2 hM2 => (k_gR fun _ => (k_gR fun _ => (k_gR fun _ => (k_gR fun _ => (k_cR (k_cA (k_f_X4_stock  hM2) fun _ M3 hM3 => (k_cR (k_cA (k_f_X2_look  hM3) fun _ M4 hM4 => (k_gR fun _ => (k_gR fun _ => (k_cR (k_cA (k_f_X2_tooFew  hM4) fun _ M5 hM5 => (k_if (k_gR fun _ => (k_gI fun _ => (k_wI (by decide) hM5 fun M6 hM6 => (k_f_X8_expand_77  _ _ _ _ _ hM6)))) (k_wI (by decide) hM5 fun M7 hM7 => (k_f_X8_expand_77  _ _ _ _ _ hM7))))))))))))))))))))))))
theorem k_b_X8_explore_46 {q46 : Option Nat → Int32 → Mem → Option (Unit × Mem)} {r0 : Option Nat} {i3 : Int32} {M : Mem} (hq46 : ∀ (x0 : Option Nat) (x1 : Int32) (x2 : Mem), G0 M0 x2 → K0 M0 (q46 x0 x1 x2)) (hM : G0 M0 M) : K0 M0 (b_X8_explore_46 q46 r0 i3 M) := by
  unfold b_X8_explore_46
  exact (k_if (k_some hM) (k_gI fun _ => (k_if (k_some hM) (k_gI fun _ => (k_if (k_cR (k_cA (k_f_X8_expand  hM) fun _ M1 hM1 => (hq46 _ _ _ hM1))) (k_some hM))))))
theorem k_f_X8_explore_46   : ∀ (n : Nat) (x0 : Option Nat) (x1 : Int32) (x2 : Mem), G0 M0 x2 → K0 M0 (f_X8_explore_46  n x0 x1 x2)
  | 0 => fun _ _ _ _ => k_none
  | n + 1 => fun _ _ _ h => k_b_X8_explore_46  (k_f_X8_explore_46  n) h
theorem k_f_X8_explore {r0 : Option Nat} {r1 : Option Nat} {r2 : Option Nat} {M : Mem}  (hM : G0 M0 M) : K0 M0 (f_X8_explore r0 r1 r2 M) := by
  unfold f_X8_explore
  exact (k_gR fun _ => (k_cR (k_cA (k_f_X4_take  hM) fun _ M1 hM1 => (k_pR hM1 fun M2 hM2 => (k_pI hM2 fun M3 hM3 => (k_tv (k_pI hM3 fun M4 hM4 => (k_gR fun _ => (k_cA (k_f_J7_fill_53178  hM4) fun _ M5 hM5 => (k_cR (k_cA (k_f_X4_boardAndTurn  hM5) fun _ M6 hM6 => (k_gI fun _ => (k_cR (k_cA (k_f_X8_numberOf  hM6) fun _ M7 hM7 => (k_f_X8_explore_46  _ _ _ _ hM7)))))))))))))))
theorem k_f_X8_isFrom {r0 : Option Nat} {r1 : Option Nat} {r2 : Option Nat} {M : Mem}  (hM : G0 M0 M) : K0 M0 (f_X8_isFrom r0 r1 r2 M) := by
  unfold f_X8_isFrom
  exact (k_gR fun _ => (k_ac (k_gR fun _ => (k_cR (k_cA (k_f_X4_boardAndTurn  hM) fun _ M1 hM1 => (k_cR (k_cA (k_f_X4_boardAndTurn  hM1) fun _ M2 hM2 => (k_if (k_gR fun _ => (k_gI fun _ => (k_gI fun _ => (k_if (k_tv (k_some hM2)) (k_tv (k_some hM2)))))) (k_tv (k_some hM2)))))))) (k_tv (k_some hM))))
theorem k_f_X11_solved {r0 : Option Nat} {r1 : Option Nat} {M : Mem}  (hM : G0 M0 M) : K0 M0 (f_X11_solved r0 r1 M) := by
  unfold f_X11_solved
  exact (k_gR fun _ => (k_gI fun _ => (k_cR (k_cA (k_f_X11_rules  hM) fun _ M1 hM1 => (k_gR fun _ => (k_cR (k_cA (k_f_X8_isFrom  hM1) fun _ M2 hM2 => (k_if (k_gR fun _ => (k_cR (k_cA (k_f_X8_explore  hM2) fun _ M3 hM3 => (k_gR fun _ => (k_gI fun _ => (k_if (k_gR fun _ => (k_cR (k_cA (k_f_X0_prepare  hM3) fun _ M4 hM4 => (k_gR fun _ => (k_cR (k_cA (k_f_X0_decideAll  hM4) fun _ M5 hM5 => (k_gR fun _ => (k_gI fun _ => (k_if (k_tv (k_some hM5)) (k_tv (k_some hM5))))))))))) (k_gR fun _ => (k_gI fun _ => (k_if (k_tv (k_some hM3)) (k_tv (k_some hM3))))))))))) (k_gR fun _ => (k_gI fun _ => (k_if (k_tv (k_some hM2)) (k_tv (k_some hM2)))))))))))))
theorem k_f_X4_setCount {r0 : Option Nat} {i1 : Int32} {i2 : Int32} {M : Mem}  (hM : G0 M0 M) : K0 M0 (f_X4_setCount r0 i1 i2 M) := by
  unfold f_X4_setCount
  exact (k_gI fun _ => (k_pI hM fun M1 hM1 => (k_some hM1)))
theorem k_b_X11_balanced_25 {q25 : Option Nat → Int32 → Int32 → Mem → Option (Int32 × Mem)} {r0 : Option Nat} {i1 : Int32} {i2 : Int32} {M : Mem} (hq25 : ∀ (x0 : Option Nat) (x1 : Int32) (x2 : Int32) (x3 : Mem), G0 M0 x3 → K0 M0 (q25 x0 x1 x2 x3)) (hM : G0 M0 M) : K0 M0 (b_X11_balanced_25 q25 r0 i1 i2 M) := by
  unfold b_X11_balanced_25
  exact (k_if (k_some hM) (k_gR fun _ => (k_cR (k_cA (k_f_X4_setCount  hM) fun _ M1 hM1 => (k_gR fun _ => (k_cR (k_cA (k_f_X11_solved  hM1) fun _ M2 hM2 => (k_if (hq25 _ _ _ _ hM2) (k_gR fun _ => (k_gR fun _ => (k_aI fun _ => (k_if (k_some hM2) (hq25 _ _ _ _ hM2)))))))))))))
theorem k_f_X11_balanced_25   : ∀ (n : Nat) (x0 : Option Nat) (x1 : Int32) (x2 : Int32) (x3 : Mem), G0 M0 x3 → K0 M0 (f_X11_balanced_25  n x0 x1 x2 x3)
  | 0 => fun _ _ _ _ _ => k_none
  | n + 1 => fun _ _ _ _ h => k_b_X11_balanced_25  (k_f_X11_balanced_25  n) h
theorem k_f_X11_balanced {r0 : Option Nat} {i1 : Int32} {M : Mem}  (hM : G0 M0 M) : K0 M0 (f_X11_balanced r0 i1 M) := by
  unfold f_X11_balanced
  exact (k_cA (k_f_X11_isMove  hM) fun _ M1 hM1 => (k_if (k_some hM1) (k_gR fun _ => (k_gR fun _ => (k_gR fun _ => (k_cR (k_cA (k_f_X4_take  hM1) fun _ M2 hM2 => (k_f_X11_balanced_25  _ _ _ _ _ hM2))))))))
theorem k_f_X11_best {r0 : Option Nat} {i1 : Int32} {M : Mem}  (hM : G0 M0 M) : K0 M0 (f_X11_best r0 i1 M) := by
  unfold f_X11_best
  exact (k_if (k_some hM) (k_if (k_gR fun _ => (k_gR fun _ => (k_cR (k_cA (k_f_X11_solved  hM) fun _ M1 hM1 => (k_if (k_some hM1) (k_if (k_gR fun _ => (k_gR fun _ => (k_aI fun _ => (k_some hM1)))) (k_gR fun _ => (k_gR fun _ => (k_aI fun _ => (k_some hM1)))))))))) (k_some hM)))
theorem k_f_X11_isTextOrNone {r0 : Option Nat} {i1 : Int32} {M : Mem}  (hM : G0 M0 M) : K0 M0 (f_X11_isTextOrNone r0 i1 M) := by
  unfold f_X11_isTextOrNone
  exact (k_if (k_tv (k_some hM)) (k_gR fun _ => (k_gI fun _ => (k_if (k_tv (k_some hM)) (k_tv (k_some hM))))))
theorem k_f_X11_book {r0 : Option Nat} {i1 : Int32} {M : Mem}  (hM : G0 M0 M) : K0 M0 (f_X11_book r0 i1 M) := by
  unfold f_X11_book
  exact (k_cR (k_cA (k_f_X11_isTextOrNone  hM) fun _ M1 hM1 => (k_if (k_tv (k_some hM1)) (k_gR fun _ => (k_pI hM1 fun M2 hM2 => (k_tv (k_some hM2)))))))
theorem k_f_X11_can {r0 : Option Nat} {i1 : Int32} {i2 : Int32} {M : Mem}  (hM : G0 M0 M) : K0 M0 (f_X11_can r0 i1 i2 M) := by
  unfold f_X11_can
  exact (k_cA (k_f_X11_isMove  hM) fun _ M1 hM1 => (k_if (k_some hM1) (k_gR fun _ => (k_gR fun _ => (k_gR fun _ => (k_gR fun _ => (k_gI fun _ => (k_cR (k_cA (k_f_X11_rules  hM1) fun _ M2 hM2 => (k_cR (k_cA (k_f_X2_look  hM2) fun _ M3 hM3 => (k_gR fun _ => (k_gI fun _ => (k_if (k_some hM3) (k_if (k_gR fun _ => (k_gR fun _ => (k_aI fun _ => (k_some hM3)))) (k_if (k_gR fun _ => (k_gR fun _ => (k_aI fun _ => (k_some hM3)))) (k_if (k_gR fun _ => (k_gR fun _ => (k_aI fun _ => (k_some hM3)))) (k_some hM3))))))))))))))))))
theorem k_b_X10_count_4 {q4 : Option Nat → Int32 → Int32 → Int32 → Mem → Option (Int32 × Mem)} {r0 : Option Nat} {i1 : Int32} {i2 : Int32} {i3 : Int32} {M : Mem} (hq4 : ∀ (x0 : Option Nat) (x1 : Int32) (x2 : Int32) (x3 : Int32) (x4 : Mem), G0 M0 x4 → K0 M0 (q4 x0 x1 x2 x3 x4)) (hM : G0 M0 M) : K0 M0 (b_X10_count_4 q4 r0 i1 i2 i3 M) := by
  unfold b_X10_count_4
  exact (k_if (k_some hM) (k_gR fun _ => (k_aI fun _ => (k_gR fun _ => (k_aI fun _ => (k_if (hq4 _ _ _ _ _ hM) (hq4 _ _ _ _ _ hM)))))))
theorem k_f_X10_count_4   : ∀ (n : Nat) (x0 : Option Nat) (x1 : Int32) (x2 : Int32) (x3 : Int32) (x4 : Mem), G0 M0 x4 → K0 M0 (f_X10_count_4  n x0 x1 x2 x3 x4)
  | 0 => fun _ _ _ _ _ _ => k_none
  | n + 1 => fun _ _ _ _ _ h => k_b_X10_count_4  (k_f_X10_count_4  n) h
theorem k_f_X10_count {r0 : Option Nat} {i1 : Int32} {M : Mem}  (hM : G0 M0 M) : K0 M0 (f_X10_count r0 i1 M) := by
  unfold f_X10_count
  exact (k_f_X10_count_4  _ _ _ _ _ _ hM)
theorem k_b_X10_member_4 {q4 : Int32 → Int32 → Int32 → Int32 → Mem → Option (Int32 × Mem)} {i0 : Int32} {i1 : Int32} {i2 : Int32} {i3 : Int32} {M : Mem} (hq4 : ∀ (x0 : Int32) (x1 : Int32) (x2 : Int32) (x3 : Int32) (x4 : Mem), G0 M0 x4 → K0 M0 (q4 x0 x1 x2 x3 x4)) (hM : G0 M0 M) : K0 M0 (b_X10_member_4 q4 i0 i1 i2 i3 M) := by
  unfold b_X10_member_4
  exact (k_if (k_some hM) (k_if (hq4 _ _ _ _ _ hM) (k_if (k_some hM) (hq4 _ _ _ _ _ hM))))
theorem k_f_X10_member_4   : ∀ (n : Nat) (x0 : Int32) (x1 : Int32) (x2 : Int32) (x3 : Int32) (x4 : Mem), G0 M0 x4 → K0 M0 (f_X10_member_4  n x0 x1 x2 x3 x4)
  | 0 => fun _ _ _ _ _ _ => k_none
  | n + 1 => fun _ _ _ _ _ h => k_b_X10_member_4  (k_f_X10_member_4  n) h
theorem k_f_X10_member {i0 : Int32} {i1 : Int32} {M : Mem}  (hM : G0 M0 M) : K0 M0 (f_X10_member i0 i1 M) := by
  unfold f_X10_member
  exact (k_f_X10_member_4  _ _ _ _ _ _ hM)
theorem k_b_X10_nth_5 {q5 : Option Nat → Int32 → Int32 → Int32 → Int32 → Mem → Option (Int32 × Mem)} {r0 : Option Nat} {i1 : Int32} {i2 : Int32} {i3 : Int32} {i4 : Int32} {M : Mem} (hq5 : ∀ (x0 : Option Nat) (x1 : Int32) (x2 : Int32) (x3 : Int32) (x4 : Int32) (x5 : Mem), G0 M0 x5 → K0 M0 (q5 x0 x1 x2 x3 x4 x5)) (hM : G0 M0 M) : K0 M0 (b_X10_nth_5 q5 r0 i1 i2 i3 i4 M) := by
  unfold b_X10_nth_5
  exact (k_if (k_some hM) (k_gR fun _ => (k_aI fun _ => (k_gR fun _ => (k_aI fun _ => (k_if (k_if (k_gR fun _ => (k_aI fun _ => (k_some hM))) (hq5 _ _ _ _ _ _ hM)) (hq5 _ _ _ _ _ _ hM)))))))
theorem k_f_X10_nth_5   : ∀ (n : Nat) (x0 : Option Nat) (x1 : Int32) (x2 : Int32) (x3 : Int32) (x4 : Int32) (x5 : Mem), G0 M0 x5 → K0 M0 (f_X10_nth_5  n x0 x1 x2 x3 x4 x5)
  | 0 => fun _ _ _ _ _ _ _ => k_none
  | n + 1 => fun _ _ _ _ _ _ h => k_b_X10_nth_5  (k_f_X10_nth_5  n) h
theorem k_f_X10_nth {r0 : Option Nat} {i1 : Int32} {i2 : Int32} {M : Mem}  (hM : G0 M0 M) : K0 M0 (f_X10_nth r0 i1 i2 M) := by
  unfold f_X10_nth
  exact (k_f_X10_nth_5  _ _ _ _ _ _ _ hM)
theorem k_f_X11_draw {r0 : Option Nat} {i1 : Int32} {M : Mem}  (hM : G0 M0 M) : K0 M0 (f_X11_draw r0 i1 M) := by
  unfold f_X11_draw
  exact (k_if (k_gI fun _ => (k_nzI (k_pI hM fun M1 hM1 => (k_some hM1)))) (k_gI fun _ => (k_nzI (k_gI fun _ => (k_nzI (k_pI hM fun M2 hM2 => (k_some hM2)))))))
theorem k_f_X11_winner {r0 : Option Nat} {r1 : Option Nat} {M : Mem}  (hM : G0 M0 M) : K0 M0 (f_X11_winner r0 r1 M) := by
  unfold f_X11_winner
  exact (k_cR (k_cA (k_f_X11_isOver  hM) fun _ M1 hM1 => (k_if (k_some hM1) (k_gI fun _ => (k_some hM1)))))
theorem k_b_X11_drawnWinner_16 {q16 : Option Nat → Int32 → Mem → Option (Int32 × Mem)} {r0 : Option Nat} {i1 : Int32} {M : Mem} (hq16 : ∀ (x0 : Option Nat) (x1 : Int32) (x2 : Mem), G0 M0 x2 → K0 M0 (q16 x0 x1 x2)) (hM : G0 M0 M) : K0 M0 (b_X11_drawnWinner_16 q16 r0 i1 M) := by
  unfold b_X11_drawnWinner_16
  exact (k_if (k_gR fun _ => (k_cR (k_cA (k_f_X11_winner  hM) fun _ M1 hM1 => (k_some hM1)))) (k_gR fun _ => (k_cR (k_cA (k_f_X11_isOver  hM) fun _ M2 hM2 => (k_if (k_gR fun _ => (k_gR fun _ => (k_gI fun _ => (k_gR fun _ => (k_gR fun _ => (k_gI fun _ => (k_cR (k_cA (k_f_X10_count  hM2) fun _ M3 hM3 => (k_cR (k_cA (k_f_X11_draw  hM3) fun _ M4 hM4 => (k_cR (k_cA (k_f_X10_nth  hM4) fun _ M5 hM5 => (k_cR (k_cA (k_f_X11_draw  hM5) fun _ M6 hM6 => (k_cA (k_f_X10_member  hM6) fun _ M7 hM7 => (k_cR (k_cA (k_f_X11_draw  hM7) fun _ M8 hM8 => (k_cA (k_f_X10_member  hM8) fun _ M9 hM9 => (k_gR fun _ => (k_gR fun _ => (k_gR fun _ => (k_gI fun _ => (k_cR (k_cA (k_f_X11_rules  hM9) fun _ M10 hM10 => (k_cR (k_cA (k_f_X2_advance  hM10) fun _ M11 hM11 => (hq16 _ _ _ hM11))))))))))))))))))))))))))) (k_gR fun _ => (k_gI fun _ => (k_some hM2))))))))
theorem k_f_X11_drawnWinner_16   : ∀ (n : Nat) (x0 : Option Nat) (x1 : Int32) (x2 : Mem), G0 M0 x2 → K0 M0 (f_X11_drawnWinner_16  n x0 x1 x2)
  | 0 => fun _ _ _ _ => k_none
  | n + 1 => fun _ _ _ h => k_b_X11_drawnWinner_16  (k_f_X11_drawnWinner_16  n) h
theorem k_f_X11_drawnWinner {r0 : Option Nat} {M : Mem}  (hM : G0 M0 M) : K0 M0 (f_X11_drawnWinner r0 M) := by
  unfold f_X11_drawnWinner
  exact (k_gR fun _ => (k_gR fun _ => (k_gR fun _ => (k_cR (k_cA (k_f_X4_take  hM) fun _ M1 hM1 => (k_f_X11_drawnWinner_16  _ _ _ _ hM1))))))
theorem k_f_X11_isSide {i0 : Int32} {M : Mem}  (hM : G0 M0 M) : K0 M0 (f_X11_isSide i0 M) := by
  unfold f_X11_isSide
  exact (k_if (k_tv (k_some hM)) (k_if (k_tv (k_some hM)) (k_tv (k_some hM))))
theorem k_b_X11_drawn_48 {q48 : Option Nat → Int32 → Int32 → Int32 → Int32 → Mem → Option (Int32 × Mem)} {r0 : Option Nat} {i2 : Int32} {i3 : Int32} {i4 : Int32} {i5 : Int32} {M : Mem} (hq48 : ∀ (x0 : Option Nat) (x1 : Int32) (x2 : Int32) (x3 : Int32) (x4 : Int32) (x5 : Mem), G0 M0 x5 → K0 M0 (q48 x0 x1 x2 x3 x4 x5)) (hM : G0 M0 M) : K0 M0 (b_X11_drawn_48 q48 r0 i2 i3 i4 i5 M) := by
  unfold b_X11_drawn_48
  exact (k_if (k_some hM) (k_cR (k_cA (k_f_X11_drawnWinner  hM) fun _ M1 hM1 => (k_if (hq48 _ _ _ _ _ _ hM1) (hq48 _ _ _ _ _ _ hM1)))))
theorem k_f_X11_drawn_48   : ∀ (n : Nat) (x0 : Option Nat) (x1 : Int32) (x2 : Int32) (x3 : Int32) (x4 : Int32) (x5 : Mem), G0 M0 x5 → K0 M0 (f_X11_drawn_48  n x0 x1 x2 x3 x4 x5)
  | 0 => fun _ _ _ _ _ _ _ => k_none
  | n + 1 => fun _ _ _ _ _ _ h => k_b_X11_drawn_48  (k_f_X11_drawn_48  n) h
theorem k_f_X11_drawn {r0 : Option Nat} {i1 : Int32} {i2 : Int32} {i3 : Int32} {M : Mem}  (hM : G0 M0 M) : K0 M0 (f_X11_drawn r0 i1 i2 i3 M) := by
  unfold f_X11_drawn
  exact (k_if (k_some hM) (k_if (k_some hM) (k_if (k_some hM) (k_if (k_some hM) (k_cA (k_f_X11_isSide  hM) fun _ M1 hM1 => (k_if (k_some hM1) (k_pI hM1 fun M2 hM2 => (k_f_X11_drawn_48  _ _ _ _ _ _ _ hM2))))))))
theorem k_f_X11_end {r0 : Option Nat} {i1 : Int32} {M : Mem}  (hM : G0 M0 M) : K0 M0 (f_X11_end r0 i1 M) := by
  unfold f_X11_end
  exact (k_if (k_some hM) (k_gR fun _ => (k_gI fun _ => (k_if (k_gR fun _ => (k_pI hM fun M1 hM1 => (k_some hM1))) (k_some hM)))))
theorem k_f_X11_fault {r0 : Option Nat} {i1 : Int32} {M : Mem}  (hM : G0 M0 M) : K0 M0 (f_X11_fault r0 i1 M) := by
  unfold f_X11_fault
  exact (k_if (k_gR fun _ => (k_gI fun _ => (k_some hM))) (k_if (k_gR fun _ => (k_gI fun _ => (k_some hM))) (k_some hM)))
theorem k_b_X5_append_3 {q3 : Option Nat → Int32 → Int32 → Mem → Option (Unit × Mem)} {r0 : Option Nat} {i1 : Int32} {i2 : Int32} {M : Mem} (hq3 : ∀ (x0 : Option Nat) (x1 : Int32) (x2 : Int32) (x3 : Mem), G0 M0 x3 → K0 M0 (q3 x0 x1 x2 x3)) (hM : G0 M0 M) : K0 M0 (b_X5_append_3 q3 r0 i1 i2 M) := by
  unfold b_X5_append_3
  exact (k_if (k_some hM) (k_gI fun _ => (k_if (k_some hM) (k_gR fun _ => (k_gI fun _ => (k_wI (by decide) hM fun M1 hM1 => (k_gI fun _ => (k_pI hM1 fun M2 hM2 => (hq3 _ _ _ _ hM2)))))))))
theorem k_f_X5_append_3   : ∀ (n : Nat) (x0 : Option Nat) (x1 : Int32) (x2 : Int32) (x3 : Mem), G0 M0 x3 → K0 M0 (f_X5_append_3  n x0 x1 x2 x3)
  | 0 => fun _ _ _ _ _ => k_none
  | n + 1 => fun _ _ _ _ h => k_b_X5_append_3  (k_f_X5_append_3  n) h
theorem k_f_X5_append {r0 : Option Nat} {i1 : Int32} {M : Mem}  (hM : G0 M0 M) : K0 M0 (f_X5_append r0 i1 M) := by
  unfold f_X5_append
  exact (k_f_X5_append_3  _ _ _ _ _ hM)
theorem k_f_X11_feed {r0 : Option Nat} {i1 : Int32} {i2 : Int32} {i3 : Int32} {i4 : Int32} {i5 : Int32} {M : Mem}  (hM : G0 M0 M) : K0 M0 (f_X11_feed r0 i1 i2 i3 i4 i5 M) := by
  unfold f_X11_feed
  exact (k_gR fun _ => (k_gI fun _ => (k_if (k_gR fun _ => (k_cR (k_cA (k_f_X5_append  hM) fun _ M1 hM1 => (k_gR fun _ => (k_cR (k_cA (k_f_X5_append  hM1) fun _ M2 hM2 => (k_gR fun _ => (k_cR (k_cA (k_f_X5_append  hM2) fun _ M3 hM3 => (k_gR fun _ => (k_cR (k_cA (k_f_X5_append  hM3) fun _ M4 hM4 => (k_gR fun _ => (k_cR (k_cA (k_f_X5_append  hM4) fun _ M5 hM5 => (k_gR fun _ => (k_gI fun _ => (k_some hM5)))))))))))))))))) (k_some hM))))
end K01
