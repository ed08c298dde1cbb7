/-! written by wip/gen/mkk0.py -/
section K02
variable {M0 : Mem}
theorem k_f_X10_asTold {i0 : Int32} {M : Mem}  (hM : G0 M0 M) : K0 M0 (f_X10_asTold i0 M) := by
  unfold f_X10_asTold
  exact (k_if (k_some hM) (k_cA (k_f_X10_member  hM) fun _ M1 hM1 => (k_cA (k_f_X10_member  hM1) fun _ M2 hM2 => (k_cA (k_f_X10_member  hM2) fun _ M3 hM3 => (k_some hM3)))))
theorem k_b_X0_pickGood_4 {q4 : Option Nat → Int32 → Int32 → Int32 → Mem → Option (Int32 × Mem)} {r0 : Option Nat} {i1 : Int32} {i2 : Int32} {i3 : Int32} {M : Mem} (hq4 : ∀ (x0 : Option Nat) (x1 : Int32) (x2 : Int32) (x3 : Int32) (x4 : Mem), G0 M0 x4 → K0 M0 (q4 x0 x1 x2 x3 x4)) (hM : G0 M0 M) : K0 M0 (b_X0_pickGood_4 q4 r0 i1 i2 i3 M) := by
  unfold b_X0_pickGood_4
  exact (k_if (k_if (k_some hM) (k_some hM)) (k_gR fun _ => (k_gR fun _ => (k_aI fun _ => (k_gR fun _ => (k_gR fun _ => (k_aI fun _ => (k_if (k_cR (k_cA (k_f_X0_losingNoes  hM) fun _ M1 hM1 => (k_if (k_if (k_cA (k_f_X10_asTold  hM1) fun _ M2 hM2 => (k_some hM2)) (hq4 _ _ _ _ _ hM1)) (hq4 _ _ _ _ _ hM1)))) (hq4 _ _ _ _ _ hM)))))))))
theorem k_f_X0_pickGood_4   : ∀ (n : Nat) (x0 : Option Nat) (x1 : Int32) (x2 : Int32) (x3 : Int32) (x4 : Mem), G0 M0 x4 → K0 M0 (f_X0_pickGood_4  n x0 x1 x2 x3 x4)
  | 0 => fun _ _ _ _ _ _ => k_none
  | n + 1 => fun _ _ _ _ _ h => k_b_X0_pickGood_4  (k_f_X0_pickGood_4  n) h
theorem k_f_X0_pickGood {r0 : Option Nat} {i1 : Int32} {M : Mem}  (hM : G0 M0 M) : K0 M0 (f_X0_pickGood r0 i1 M) := by
  unfold f_X0_pickGood
  exact (k_f_X0_pickGood_4  _ _ _ _ _ _ hM)
theorem k_f_X11_good {r0 : Option Nat} {i1 : Int32} {M : Mem}  (hM : G0 M0 M) : K0 M0 (f_X11_good r0 i1 M) := by
  unfold f_X11_good
  exact (k_if (k_gR fun _ => (k_gR fun _ => (k_cR (k_cA (k_f_X11_solved  hM) fun _ M1 hM1 => (k_if (k_some hM1) (k_gR fun _ => (k_cR (k_cA (k_f_X0_pickGood  hM1) fun _ M2 hM2 => (k_some hM2))))))))) (k_some hM))
theorem k_f_X11_heap {r0 : Option Nat} {i1 : Int32} {i2 : Int32} {M : Mem}  (hM : G0 M0 M) : K0 M0 (f_X11_heap r0 i1 i2 M) := by
  unfold f_X11_heap
  exact (k_cA (k_f_X11_isMove  hM) fun _ M1 hM1 => (k_if (k_tv (k_some hM1)) (k_if (k_tv (k_some hM1)) (k_if (k_gR fun _ => (k_gR fun _ => (k_cR (k_cA (k_f_X4_setCount  hM1) fun _ M2 hM2 => (k_tv (k_some hM2)))))) (k_tv (k_some hM1))))))
theorem k_f_X11_image {r0 : Option Nat} {M : Mem}  (hM : G0 M0 M) : K0 M0 (f_X11_image r0 M) := by
  unfold f_X11_image
  exact (k_gR fun _ => (k_gR fun _ => (k_cR (k_cA (k_f_X7_take  hM) fun _ M1 hM1 => (k_cR (k_cA (k_f_X11_piecesNow  hM1) fun _ M2 hM2 => (k_some hM2)))))))
theorem k_b_X10_init_37 {q16 : Option Nat → Int32 → Int32 → Mem → Option (Unit × Mem)} {q26 : Option Nat → Int32 → Int32 → Int32 → Mem → Option (Unit × Mem)} {q37 : Option Nat → Int32 → Int32 → Int32 → Int32 → Mem → Option (Unit × Mem)} {r0 : Option Nat} {i1 : Int32} {i2 : Int32} {i3 : Int32} {i4 : Int32} {M : Mem} (hq16 : ∀ (x0 : Option Nat) (x1 : Int32) (x2 : Int32) (x3 : Mem), G0 M0 x3 → K0 M0 (q16 x0 x1 x2 x3)) (hq26 : ∀ (x0 : Option Nat) (x1 : Int32) (x2 : Int32) (x3 : Int32) (x4 : Mem), G0 M0 x4 → K0 M0 (q26 x0 x1 x2 x3 x4)) (hq37 : ∀ (x0 : Option Nat) (x1 : Int32) (x2 : Int32) (x3 : Int32) (x4 : Int32) (x5 : Mem), G0 M0 x5 → K0 M0 (q37 x0 x1 x2 x3 x4 x5)) (hM : G0 M0 M) : K0 M0 (b_X10_init_37 q16 q26 q37 r0 i1 i2 i3 i4 M) := by
  unfold b_X10_init_37
  exact (k_if (hq26 _ _ _ _ _ hM) (k_if (hq37 _ _ _ _ _ _ hM) (k_gR fun _ => (k_wI (by decide) hM fun M1 hM1 => (hq37 _ _ _ _ _ _ hM1)))))
theorem k_f_X10_init_37 {q16 : Option Nat → Int32 → Int32 → Mem → Option (Unit × Mem)} {q26 : Option Nat → Int32 → Int32 → Int32 → Mem → Option (Unit × Mem)} (hq16 : ∀ (x0 : Option Nat) (x1 : Int32) (x2 : Int32) (x3 : Mem), G0 M0 x3 → K0 M0 (q16 x0 x1 x2 x3)) (hq26 : ∀ (x0 : Option Nat) (x1 : Int32) (x2 : Int32) (x3 : Int32) (x4 : Mem), G0 M0 x4 → K0 M0 (q26 x0 x1 x2 x3 x4)) : ∀ (n : Nat) (x0 : Option Nat) (x1 : Int32) (x2 : Int32) (x3 : Int32) (x4 : Int32) (x5 : Mem), G0 M0 x5 → K0 M0 (f_X10_init_37 q16 q26 n x0 x1 x2 x3 x4 x5)
  | 0 => fun _ _ _ _ _ _ _ => k_none
  | n + 1 => fun _ _ _ _ _ _ h => k_b_X10_init_37 hq16 hq26 (k_f_X10_init_37 hq16 hq26 n) h
theorem k_b_X10_init_26 {q16 : Option Nat → Int32 → Int32 → Mem → Option (Unit × Mem)} {q26 : Option Nat → Int32 → Int32 → Int32 → Mem → Option (Unit × Mem)} {r0 : Option Nat} {i1 : Int32} {i2 : Int32} {i3 : Int32} {M : Mem} (hq16 : ∀ (x0 : Option Nat) (x1 : Int32) (x2 : Int32) (x3 : Mem), G0 M0 x3 → K0 M0 (q16 x0 x1 x2 x3)) (hq26 : ∀ (x0 : Option Nat) (x1 : Int32) (x2 : Int32) (x3 : Int32) (x4 : Mem), G0 M0 x4 → K0 M0 (q26 x0 x1 x2 x3 x4)) (hM : G0 M0 M) : K0 M0 (b_X10_init_26 q16 q26 r0 i1 i2 i3 M) := by
  unfold b_X10_init_26
  exact (k_if (hq16 _ _ _ _ hM) (k_f_X10_init_37 hq16 hq26 _ _ _ _ _ _ _ hM))
theorem k_f_X10_init_26 {q16 : Option Nat → Int32 → Int32 → Mem → Option (Unit × Mem)} (hq16 : ∀ (x0 : Option Nat) (x1 : Int32) (x2 : Int32) (x3 : Mem), G0 M0 x3 → K0 M0 (q16 x0 x1 x2 x3)) : ∀ (n : Nat) (x0 : Option Nat) (x1 : Int32) (x2 : Int32) (x3 : Int32) (x4 : Mem), G0 M0 x4 → K0 M0 (f_X10_init_26 q16 n x0 x1 x2 x3 x4)
  | 0 => fun _ _ _ _ _ _ => k_none
  | n + 1 => fun _ _ _ _ _ h => k_b_X10_init_26 hq16 (k_f_X10_init_26 hq16 n) h
theorem k_b_X10_init_16 {q16 : Option Nat → Int32 → Int32 → Mem → Option (Unit × Mem)} {r0 : Option Nat} {i1 : Int32} {i2 : Int32} {M : Mem} (hq16 : ∀ (x0 : Option Nat) (x1 : Int32) (x2 : Int32) (x3 : Mem), G0 M0 x3 → K0 M0 (q16 x0 x1 x2 x3)) (hM : G0 M0 M) : K0 M0 (b_X10_init_16 q16 r0 i1 i2 M) := by
  unfold b_X10_init_16
  exact (k_if (k_some hM) (k_f_X10_init_26 hq16 _ _ _ _ _ _ hM))
theorem k_f_X10_init_16   : ∀ (n : Nat) (x0 : Option Nat) (x1 : Int32) (x2 : Int32) (x3 : Mem), G0 M0 x3 → K0 M0 (f_X10_init_16  n x0 x1 x2 x3)
  | 0 => fun _ _ _ _ _ => k_none
  | n + 1 => fun _ _ _ _ h => k_b_X10_init_16  (k_f_X10_init_16  n) h
theorem k_f_X2_init_154 {q58 : Option Nat → Int32 → Int32 → Option Nat → Int32 → Mem → Option (Unit × Mem)} {r0 : Option Nat} {i1 : Int32} {i2 : Int32} {r3 : Option Nat} {i4 : Int32} {i5 : Int32} {sr0 : Option Nat} {si1 : Int32} {si2 : Int32} {M : Mem} (hq58 : ∀ (x0 : Option Nat) (x1 : Int32) (x2 : Int32) (x3 : Option Nat) (x4 : Int32) (x5 : Mem), G0 M0 x5 → K0 M0 (q58 x0 x1 x2 x3 x4 x5)) (hM : G0 M0 M) : K0 M0 (f_X2_init_154 q58 r0 i1 i2 r3 i4 i5 sr0 si1 si2 M) := by
  unfold f_X2_init_154
  exact (k_wI (by decide) hM fun M1 hM1 => (k_gR fun _ => (k_if (k_wI (by decide) hM1 fun M2 hM2 => (hq58 _ _ _ _ _ _ hM2)) (k_wI (by decide) hM1 fun M3 hM3 => (hq58 _ _ _ _ _ _ hM3)))))
theorem k_f_X2_init_127 {q58 : Option Nat → Int32 → Int32 → Option Nat → Int32 → Mem → Option (Unit × Mem)} {r0 : Option Nat} {i1 : Int32} {i2 : Int32} {r3 : Option Nat} {i4 : Int32} {i5 : Int32} {i6 : Int32} {sr0 : Option Nat} {si1 : Int32} {si2 : Int32} {M : Mem} (hq58 : ∀ (x0 : Option Nat) (x1 : Int32) (x2 : Int32) (x3 : Option Nat) (x4 : Int32) (x5 : Mem), G0 M0 x5 → K0 M0 (q58 x0 x1 x2 x3 x4 x5)) (hM : G0 M0 M) : K0 M0 (f_X2_init_127 q58 r0 i1 i2 r3 i4 i5 i6 sr0 si1 si2 M) := by
  unfold f_X2_init_127
  exact (k_wI (by decide) hM fun M1 hM1 => (k_gR fun _ => (k_if (k_f_X2_init_154 hq58 hM1) (k_f_X2_init_154 hq58 hM1))))
theorem k_f_X2_init_100 {q58 : Option Nat → Int32 → Int32 → Option Nat → Int32 → Mem → Option (Unit × Mem)} {r0 : Option Nat} {i1 : Int32} {i2 : Int32} {r3 : Option Nat} {i4 : Int32} {i5 : Int32} {i6 : Int32} {sr0 : Option Nat} {si1 : Int32} {si2 : Int32} {M : Mem} (hq58 : ∀ (x0 : Option Nat) (x1 : Int32) (x2 : Int32) (x3 : Option Nat) (x4 : Int32) (x5 : Mem), G0 M0 x5 → K0 M0 (q58 x0 x1 x2 x3 x4 x5)) (hM : G0 M0 M) : K0 M0 (f_X2_init_100 q58 r0 i1 i2 r3 i4 i5 i6 sr0 si1 si2 M) := by
  unfold f_X2_init_100
  exact (k_wI (by decide) hM fun M1 hM1 => (k_gR fun _ => (k_if (k_f_X2_init_127 hq58 hM1) (k_f_X2_init_127 hq58 hM1))))
theorem k_b_X2_init_58 {q58 : Option Nat → Int32 → Int32 → Option Nat → Int32 → Mem → Option (Unit × Mem)} {r0 : Option Nat} {i1 : Int32} {i2 : Int32} {r3 : Option Nat} {i4 : Int32} {M : Mem} (hq58 : ∀ (x0 : Option Nat) (x1 : Int32) (x2 : Int32) (x3 : Option Nat) (x4 : Int32) (x5 : Mem), G0 M0 x5 → K0 M0 (q58 x0 x1 x2 x3 x4 x5)) (hM : G0 M0 M) : K0 M0 (b_X2_init_58 q58 r0 i1 i2 r3 i4 M) := by
  unfold b_X2_init_58
  exact (k_gI fun _ => (k_if (k_pR hM fun M1 hM1 => (k_pI hM1 fun M2 hM2 => (k_some hM2))) (k_nzI (k_nzI (k_gR fun _ => (k_if (k_f_X2_init_100 hq58 hM) (k_f_X2_init_100 hq58 hM)))))))
theorem k_f_X2_init_58   : ∀ (n : Nat) (x0 : Option Nat) (x1 : Int32) (x2 : Int32) (x3 : Option Nat) (x4 : Int32) (x5 : Mem), G0 M0 x5 → K0 M0 (f_X2_init_58  n x0 x1 x2 x3 x4 x5)
  | 0 => fun _ _ _ _ _ _ _ => k_none
  | n + 1 => fun _ _ _ _ _ _ h => k_b_X2_init_58  (k_f_X2_init_58  n) h
theorem k_b_X11_judge_16 {q16 : Option Nat → Int32 → Mem → Option (Int32 × Mem)} {r0 : Option Nat} {i1 : Int32} {M : Mem} (hq16 : ∀ (x0 : Option Nat) (x1 : Int32) (x2 : Mem), G0 M0 x2 → K0 M0 (q16 x0 x1 x2)) (hM : G0 M0 M) : K0 M0 (b_X11_judge_16 q16 r0 i1 M) := by
  unfold b_X11_judge_16
  exact (k_gR fun _ => (k_gI fun _ => (k_if (k_some hM) (k_cR (k_cA (k_f_X11_tryPly  hM) fun _ M1 hM1 => (k_if (k_some hM1) (hq16 _ _ _ hM1)))))))
theorem k_f_X11_judge_16   : ∀ (n : Nat) (x0 : Option Nat) (x1 : Int32) (x2 : Mem), G0 M0 x2 → K0 M0 (f_X11_judge_16  n x0 x1 x2)
  | 0 => fun _ _ _ _ => k_none
  | n + 1 => fun _ _ _ h => k_b_X11_judge_16  (k_f_X11_judge_16  n) h
theorem k_f_X11_judge {r0 : Option Nat} {M : Mem}  (hM : G0 M0 M) : K0 M0 (f_X11_judge r0 M) := by
  unfold f_X11_judge
  exact (k_gR fun _ => (k_gR fun _ => (k_gR fun _ => (k_cR (k_cA (k_f_X4_take  hM) fun _ M1 hM1 => (k_f_X11_judge_16  _ _ _ _ hM1))))))
theorem k_b_X0_lineDone_3 {q3 : Option Nat → Int32 → Int32 → Int32 → Int32 → Mem → Option (Int32 × Mem)} {r0 : Option Nat} {i1 : Int32} {i2 : Int32} {i3 : Int32} {i4 : Int32} {M : Mem} (hq3 : ∀ (x0 : Option Nat) (x1 : Int32) (x2 : Int32) (x3 : Int32) (x4 : Int32) (x5 : Mem), G0 M0 x5 → K0 M0 (q3 x0 x1 x2 x3 x4 x5)) (hM : G0 M0 M) : K0 M0 (b_X0_lineDone_3 q3 r0 i1 i2 i3 i4 M) := by
  unfold b_X0_lineDone_3
  exact (k_if (k_some hM) (k_if (hq3 _ _ _ _ _ _ hM) (k_if (hq3 _ _ _ _ _ _ hM) (k_gR fun _ => (k_gR fun _ => (k_aI fun _ => (k_gR fun _ => (k_aI fun _ => (k_gR fun _ => (k_aI fun _ => (k_if (k_gR fun _ => (k_aI fun _ => (k_gR fun _ => (k_aI fun _ => (k_if (k_some hM) (hq3 _ _ _ _ _ _ hM)))))) (hq3 _ _ _ _ _ _ hM))))))))))))
theorem k_f_X0_lineDone_3   : ∀ (n : Nat) (x0 : Option Nat) (x1 : Int32) (x2 : Int32) (x3 : Int32) (x4 : Int32) (x5 : Mem), G0 M0 x5 → K0 M0 (f_X0_lineDone_3  n x0 x1 x2 x3 x4 x5)
  | 0 => fun _ _ _ _ _ _ _ => k_none
  | n + 1 => fun _ _ _ _ _ _ h => k_b_X0_lineDone_3  (k_f_X0_lineDone_3  n) h
theorem k_f_X0_lineDone {r0 : Option Nat} {i1 : Int32} {i2 : Int32} {i3 : Int32} {M : Mem}  (hM : G0 M0 M) : K0 M0 (f_X0_lineDone r0 i1 i2 i3 M) := by
  unfold f_X0_lineDone
  exact (k_f_X0_lineDone_3  _ _ _ _ _ _ _ hM)
theorem k_f_X0_noLength_107 {q33 : Option Nat → Int32 → Int32 → Int32 → Int32 → Int32 → Int32 → Mem → Option (Int32 × Mem)} {r0 : Option Nat} {i1 : Int32} {i2 : Int32} {i3 : Int32} {i4 : Int32} {i5 : Int32} {i6 : Int32} {si0 : Int32} {M : Mem} (hq33 : ∀ (x0 : Option Nat) (x1 : Int32) (x2 : Int32) (x3 : Int32) (x4 : Int32) (x5 : Int32) (x6 : Int32) (x7 : Mem), G0 M0 x7 → K0 M0 (q33 x0 x1 x2 x3 x4 x5 x6 x7)) (hM : G0 M0 M) : K0 M0 (f_X0_noLength_107 q33 r0 i1 i2 i3 i4 i5 i6 si0 M) := by
  unfold f_X0_noLength_107
  exact (k_if (hq33 _ _ _ _ _ _ _ _ hM) (hq33 _ _ _ _ _ _ _ _ hM))
theorem k_b_X0_noLength_33 {q33 : Option Nat → Int32 → Int32 → Int32 → Int32 → Int32 → Int32 → Mem → Option (Int32 × Mem)} {r0 : Option Nat} {i1 : Int32} {i2 : Int32} {i3 : Int32} {i4 : Int32} {i5 : Int32} {i6 : Int32} {M : Mem} (hq33 : ∀ (x0 : Option Nat) (x1 : Int32) (x2 : Int32) (x3 : Int32) (x4 : Int32) (x5 : Int32) (x6 : Int32) (x7 : Mem), G0 M0 x7 → K0 M0 (q33 x0 x1 x2 x3 x4 x5 x6 x7)) (hM : G0 M0 M) : K0 M0 (b_X0_noLength_33 q33 r0 i1 i2 i3 i4 i5 i6 M) := by
  unfold b_X0_noLength_33
  exact (k_if (k_some hM) (k_if (hq33 _ _ _ _ _ _ _ _ hM) (k_if (hq33 _ _ _ _ _ _ _ _ hM) (k_gR fun _ => (k_gR fun _ => (k_aI fun _ => (k_gR fun _ => (k_aI fun _ => (k_gR fun _ => (k_aI fun _ => (k_if (k_gR fun _ => (k_aI fun _ => (k_f_X0_noLength_107 hq33 hM))) (k_f_X0_noLength_107 hq33 hM))))))))))))
theorem k_f_X0_noLength_33   : ∀ (n : Nat) (x0 : Option Nat) (x1 : Int32) (x2 : Int32) (x3 : Int32) (x4 : Int32) (x5 : Int32) (x6 : Int32) (x7 : Mem), G0 M0 x7 → K0 M0 (f_X0_noLength_33  n x0 x1 x2 x3 x4 x5 x6 x7)
  | 0 => fun _ _ _ _ _ _ _ _ _ => k_none
  | n + 1 => fun _ _ _ _ _ _ _ _ h => k_b_X0_noLength_33  (k_f_X0_noLength_33  n) h
theorem k_f_X0_noLength {r0 : Option Nat} {i1 : Int32} {i2 : Int32} {i3 : Int32} {M : Mem}  (hM : G0 M0 M) : K0 M0 (f_X0_noLength r0 i1 i2 i3 M) := by
  unfold f_X0_noLength
  exact (k_gR fun _ => (k_aI fun _ => (k_if (k_if (k_f_X0_noLength_33  _ _ _ _ _ _ _ _ _ hM) (k_f_X0_noLength_33  _ _ _ _ _ _ _ _ _ hM)) (k_if (k_f_X0_noLength_33  _ _ _ _ _ _ _ _ _ hM) (k_f_X0_noLength_33  _ _ _ _ _ _ _ _ _ hM)))))
theorem k_b_X0_lineNo_2 {q2 : Option Nat → Int32 → Int32 → Int32 → Mem → Option (Int32 × Mem)} {r0 : Option Nat} {i1 : Int32} {i2 : Int32} {i3 : Int32} {M : Mem} (hq2 : ∀ (x0 : Option Nat) (x1 : Int32) (x2 : Int32) (x3 : Int32) (x4 : Mem), G0 M0 x4 → K0 M0 (q2 x0 x1 x2 x3 x4)) (hM : G0 M0 M) : K0 M0 (b_X0_lineNo_2 q2 r0 i1 i2 i3 M) := by
  unfold b_X0_lineNo_2
  exact (k_if (k_some hM) (k_if (hq2 _ _ _ _ _ hM) (k_cR (k_cA (k_f_X0_noLength  hM) fun _ M1 hM1 => (k_gR fun _ => (k_aI fun _ => (k_if (k_some hM1) (hq2 _ _ _ _ _ hM1))))))))
theorem k_f_X0_lineNo_2   : ∀ (n : Nat) (x0 : Option Nat) (x1 : Int32) (x2 : Int32) (x3 : Int32) (x4 : Mem), G0 M0 x4 → K0 M0 (f_X0_lineNo_2  n x0 x1 x2 x3 x4)
  | 0 => fun _ _ _ _ _ _ => k_none
  | n + 1 => fun _ _ _ _ _ h => k_b_X0_lineNo_2  (k_f_X0_lineNo_2  n) h
theorem k_f_X0_lineNo {r0 : Option Nat} {i1 : Int32} {i2 : Int32} {M : Mem}  (hM : G0 M0 M) : K0 M0 (f_X0_lineNo r0 i1 i2 M) := by
  unfold f_X0_lineNo
  exact (k_f_X0_lineNo_2  _ _ _ _ _ _ hM)
theorem k_b_X0_offerLength_31 {q31 : Option Nat → Int32 → Int32 → Int32 → Int32 → Int32 → Mem → Option (Int32 × Mem)} {r0 : Option Nat} {i1 : Int32} {i2 : Int32} {i3 : Int32} {i4 : Int32} {i5 : Int32} {M : Mem} (hq31 : ∀ (x0 : Option Nat) (x1 : Int32) (x2 : Int32) (x3 : Int32) (x4 : Int32) (x5 : Int32) (x6 : Mem), G0 M0 x6 → K0 M0 (q31 x0 x1 x2 x3 x4 x5 x6)) (hM : G0 M0 M) : K0 M0 (b_X0_offerLength_31 q31 r0 i1 i2 i3 i4 i5 M) := by
  unfold b_X0_offerLength_31
  exact (k_if (k_some hM) (k_if (hq31 _ _ _ _ _ _ _ hM) (k_cR (k_cA (k_f_X0_noLength  hM) fun _ M1 hM1 => (k_if (hq31 _ _ _ _ _ _ _ hM1) (hq31 _ _ _ _ _ _ _ hM1))))))
theorem k_f_X0_offerLength_31   : ∀ (n : Nat) (x0 : Option Nat) (x1 : Int32) (x2 : Int32) (x3 : Int32) (x4 : Int32) (x5 : Int32) (x6 : Mem), G0 M0 x6 → K0 M0 (f_X0_offerLength_31  n x0 x1 x2 x3 x4 x5 x6)
  | 0 => fun _ _ _ _ _ _ _ _ => k_none
  | n + 1 => fun _ _ _ _ _ _ _ h => k_b_X0_offerLength_31  (k_f_X0_offerLength_31  n) h
theorem k_f_X0_offerLength {r0 : Option Nat} {i1 : Int32} {i2 : Int32} {M : Mem}  (hM : G0 M0 M) : K0 M0 (f_X0_offerLength r0 i1 i2 M) := by
  unfold f_X0_offerLength
  exact (k_gR fun _ => (k_aI fun _ => (k_if (k_if (k_f_X0_offerLength_31  _ _ _ _ _ _ _ _ hM) (k_f_X0_offerLength_31  _ _ _ _ _ _ _ _ hM)) (k_if (k_f_X0_offerLength_31  _ _ _ _ _ _ _ _ hM) (k_f_X0_offerLength_31  _ _ _ _ _ _ _ _ hM)))))
theorem k_b_X0_lineOffer_2 {q2 : Option Nat → Int32 → Int32 → Mem → Option (Int32 × Mem)} {r0 : Option Nat} {i1 : Int32} {i2 : Int32} {M : Mem} (hq2 : ∀ (x0 : Option Nat) (x1 : Int32) (x2 : Int32) (x3 : Mem), G0 M0 x3 → K0 M0 (q2 x0 x1 x2 x3)) (hM : G0 M0 M) : K0 M0 (b_X0_lineOffer_2 q2 r0 i1 i2 M) := by
  unfold b_X0_lineOffer_2
  exact (k_if (k_some hM) (k_gR fun _ => (k_gR fun _ => (k_aI fun _ => (k_gR fun _ => (k_gR fun _ => (k_aI fun _ => (k_if (k_cR (k_cA (k_f_X0_offerLength  hM) fun _ M1 hM1 => (k_gR fun _ => (k_aI fun _ => (k_if (k_some hM1) (hq2 _ _ _ _ hM1)))))) (hq2 _ _ _ _ hM)))))))))
theorem k_f_X0_lineOffer_2   : ∀ (n : Nat) (x0 : Option Nat) (x1 : Int32) (x2 : Int32) (x3 : Mem), G0 M0 x3 → K0 M0 (f_X0_lineOffer_2  n x0 x1 x2 x3)
  | 0 => fun _ _ _ _ _ => k_none
  | n + 1 => fun _ _ _ _ h => k_b_X0_lineOffer_2  (k_f_X0_lineOffer_2  n) h
theorem k_f_X0_lineOffer {r0 : Option Nat} {i1 : Int32} {M : Mem}  (hM : G0 M0 M) : K0 M0 (f_X0_lineOffer r0 i1 M) := by
  unfold f_X0_lineOffer
  exact (k_f_X0_lineOffer_2  _ _ _ _ _ hM)
theorem k_b_X0_lineAt_26 {q26 : Option Nat → Int32 → Int32 → Int32 → Int32 → Mem → Option (Int32 × Mem)} {r0 : Option Nat} {i1 : Int32} {i2 : Int32} {i3 : Int32} {i4 : Int32} {M : Mem} (hq26 : ∀ (x0 : Option Nat) (x1 : Int32) (x2 : Int32) (x3 : Int32) (x4 : Int32) (x5 : Mem), G0 M0 x5 → K0 M0 (q26 x0 x1 x2 x3 x4 x5)) (hM : G0 M0 M) : K0 M0 (b_X0_lineAt_26 q26 r0 i1 i2 i3 i4 M) := by
  unfold b_X0_lineAt_26
  exact (k_if (k_cR (k_cA (k_f_X0_lineOffer  hM) fun _ M1 hM1 => (k_if (k_cR (k_cA (k_f_X0_lineNo  hM1) fun _ M2 hM2 => (k_if (k_some hM2) (k_cR (k_cA (k_f_X0_lineDone  hM2) fun _ M3 hM3 => (k_some hM3)))))) (k_cA (k_f_X10_member  hM1) fun _ M4 hM4 => (k_some hM4))))) (k_cR (k_cA (k_f_X0_lineOffer  hM) fun _ M5 hM5 => (k_cR (k_cA (k_f_X0_lineNo  hM5) fun _ M6 hM6 => (k_gR fun _ => (k_gR fun _ => (k_cR (k_cA (k_f_X0_lineDone  hM6) fun _ M7 hM7 => (k_aI fun _ => (hq26 _ _ _ _ _ _ hM7)))))))))))
theorem k_f_X0_lineAt_26   : ∀ (n : Nat) (x0 : Option Nat) (x1 : Int32) (x2 : Int32) (x3 : Int32) (x4 : Int32) (x5 : Mem), G0 M0 x5 → K0 M0 (f_X0_lineAt_26  n x0 x1 x2 x3 x4 x5)
  | 0 => fun _ _ _ _ _ _ _ => k_none
  | n + 1 => fun _ _ _ _ _ _ h => k_b_X0_lineAt_26  (k_f_X0_lineAt_26  n) h
theorem k_f_X0_lineAt {r0 : Option Nat} {i1 : Int32} {i2 : Int32} {M : Mem}  (hM : G0 M0 M) : K0 M0 (f_X0_lineAt r0 i1 i2 M) := by
  unfold f_X0_lineAt
  exact (k_gR fun _ => (k_aI fun _ => (k_if (k_some hM) (k_gR fun _ => (k_aI fun _ => (k_if (k_f_X0_lineAt_26  _ _ _ _ _ _ _ hM) (k_some hM)))))))
theorem k_f_X11_line {r0 : Option Nat} {i1 : Int32} {i2 : Int32} {M : Mem}  (hM : G0 M0 M) : K0 M0 (f_X11_line r0 i1 i2 M) := by
  unfold f_X11_line
  exact (k_if (k_some hM) (k_if (k_some hM) (k_if (k_gR fun _ => (k_gR fun _ => (k_cR (k_cA (k_f_X11_solved  hM) fun _ M1 hM1 => (k_if (k_some hM1) (k_gR fun _ => (k_cR (k_cA (k_f_X0_lineAt  hM1) fun _ M2 hM2 => (k_some hM2))))))))) (k_some hM))))
theorem k_f_X11_loses {r0 : Option Nat} {i1 : Int32} {i2 : Int32} {i3 : Int32} {M : Mem}  (hM : G0 M0 M) : K0 M0 (f_X11_loses r0 i1 i2 i3 M) := by
  unfold f_X11_loses
  exact (k_cA (k_f_X10_bitsOf  hM) fun _ M1 hM1 => (k_gR fun _ => (k_gR fun _ => (k_cR (k_cA (k_f_X11_isOver  hM1) fun _ M2 hM2 => (k_if (k_if (k_some hM2) (k_gR fun _ => (k_gI fun _ => (k_if (k_gR fun _ => (k_gR fun _ => (k_cR (k_cA (k_f_X11_solved  hM2) fun _ M3 hM3 => (k_if (k_some hM3) (k_gR fun _ => (k_cR (k_cA (k_f_X0_losingNoes  hM3) fun _ M4 hM4 => (k_some hM4))))))))) (k_some hM2))))) (k_some hM2)))))))
theorem k_f_X3_value {r0 : Option Nat} {r1 : Option Nat} {r2 : Option Nat} {r3 : Option Nat} {i4 : Int32} {M : Mem}  (hM : G0 M0 M) : K0 M0 (f_X3_value r0 r1 r2 r3 i4 M) := by
  unfold f_X3_value
  exact (k_gR fun _ => (k_cR (k_cA (k_f_X4_count  hM) fun _ M1 hM1 => (k_gR fun _ => (k_gR fun _ => (k_aI fun _ => (k_gR fun _ => (k_gR fun _ => (k_aI fun _ => (k_cR (k_cA (k_f_X9_aim  hM1) fun _ M2 hM2 => (k_gR fun _ => (k_cR (k_cA (k_f_X9_value  hM2) fun _ M3 hM3 => (k_some hM3)))))))))))))))
theorem k_f_X3_weigh_42 {q10 : Option Nat → Option Nat → Option Nat → Option Nat → Int32 → Mem → Option (Unit × Mem)} {r0 : Option Nat} {r1 : Option Nat} {r2 : Option Nat} {r4 : Option Nat} {i5 : Int32} {si0 : Int32} {M : Mem} (hq10 : ∀ (x0 : Option Nat) (x1 : Option Nat) (x2 : Option Nat) (x3 : Option Nat) (x4 : Int32) (x5 : Mem), G0 M0 x5 → K0 M0 (q10 x0 x1 x2 x3 x4 x5)) (hM : G0 M0 M) : K0 M0 (f_X3_weigh_42 q10 r0 r1 r2 r4 i5 si0 M) := by
  unfold f_X3_weigh_42
  exact (k_gR fun _ => (k_if (k_wI (by decide) hM fun M1 hM1 => (hq10 _ _ _ _ _ _ hM1)) (k_cR (k_cA (k_f_X3_value  hM) fun _ M2 hM2 => (k_wI (by decide) hM2 fun M3 hM3 => (hq10 _ _ _ _ _ _ hM3))))))
theorem k_b_X3_weigh_10 {q10 : Option Nat → Option Nat → Option Nat → Option Nat → Int32 → Mem → Option (Unit × Mem)} {r0 : Option Nat} {r1 : Option Nat} {r2 : Option Nat} {r4 : Option Nat} {i5 : Int32} {M : Mem} (hq10 : ∀ (x0 : Option Nat) (x1 : Option Nat) (x2 : Option Nat) (x3 : Option Nat) (x4 : Int32) (x5 : Mem), G0 M0 x5 → K0 M0 (q10 x0 x1 x2 x3 x4 x5)) (hM : G0 M0 M) : K0 M0 (b_X3_weigh_10 q10 r0 r1 r2 r4 i5 M) := by
  unfold b_X3_weigh_10
  exact (k_if (k_some hM) (k_if (k_f_X3_weigh_42 hq10 hM) (k_gR fun _ => (k_gI fun _ => (k_if (k_f_X3_weigh_42 hq10 hM) (k_f_X3_weigh_42 hq10 hM))))))
theorem k_f_X3_weigh_10   : ∀ (n : Nat) (x0 : Option Nat) (x1 : Option Nat) (x2 : Option Nat) (x3 : Option Nat) (x4 : Int32) (x5 : Mem), G0 M0 x5 → K0 M0 (f_X3_weigh_10  n x0 x1 x2 x3 x4 x5)
  | 0 => fun _ _ _ _ _ _ _ => k_none
  | n + 1 => fun _ _ _ _ _ _ h => k_b_X3_weigh_10  (k_f_X3_weigh_10  n) h
theorem k_f_X3_weigh {r0 : Option Nat} {r1 : Option Nat} {r2 : Option Nat} {i3 : Int32} {M : Mem}  (hM : G0 M0 M) : K0 M0 (f_X3_weigh r0 r1 r2 i3 M) := by
  unfold f_X3_weigh
  exact (k_cR (k_cA (k_f_X6_singleOf  hM) fun _ M1 hM1 => (k_f_X3_weigh_10  _ _ _ _ _ _ _ hM1)))
theorem k_b_X3_greatest_13 {q13 : Option Nat → Int32 → Int32 → Int32 → Mem → Option (Int32 × Mem)} {r0 : Option Nat} {i4 : Int32} {i5 : Int32} {i6 : Int32} {M : Mem} (hq13 : ∀ (x0 : Option Nat) (x1 : Int32) (x2 : Int32) (x3 : Int32) (x4 : Mem), G0 M0 x4 → K0 M0 (q13 x0 x1 x2 x3 x4)) (hM : G0 M0 M) : K0 M0 (b_X3_greatest_13 q13 r0 i4 i5 i6 M) := by
  unfold b_X3_greatest_13
  exact (k_if (k_if (k_some hM) (k_some hM)) (k_if (hq13 _ _ _ _ _ hM) (k_if (hq13 _ _ _ _ _ hM) (k_gR fun _ => (k_aI fun _ => (k_gR fun _ => (k_aI fun _ => (k_if (hq13 _ _ _ _ _ hM) (hq13 _ _ _ _ _ hM)))))))))
theorem k_f_X3_greatest_13   : ∀ (n : Nat) (x0 : Option Nat) (x1 : Int32) (x2 : Int32) (x3 : Int32) (x4 : Mem), G0 M0 x4 → K0 M0 (f_X3_greatest_13  n x0 x1 x2 x3 x4)
  | 0 => fun _ _ _ _ _ _ => k_none
  | n + 1 => fun _ _ _ _ _ h => k_b_X3_greatest_13  (k_f_X3_greatest_13  n) h
theorem k_f_X3_greatest {r0 : Option Nat} {r1 : Option Nat} {r2 : Option Nat} {i3 : Int32} {i4 : Int32} {M : Mem}  (hM : G0 M0 M) : K0 M0 (f_X3_greatest r0 r1 r2 i3 i4 M) := by
  unfold f_X3_greatest
  exact (k_cR (k_cA (k_f_X3_weigh  hM) fun _ M1 hM1 => (k_f_X3_greatest_13  _ _ _ _ _ _ hM1)))
theorem k_b_X3_allowed_32 {q11 : Option Nat → Option Nat → Option Nat → Int32 → Int32 → Mem → Option (Int32 × Mem)} {q32 : Option Nat → Option Nat → Option Nat → Int32 → Int32 → Option Nat → Int32 → Mem → Option (Int32 × Mem)} {r0 : Option Nat} {r1 : Option Nat} {r2 : Option Nat} {i3 : Int32} {i4 : Int32} {r5 : Option Nat} {i6 : Int32} {M : Mem} (hq11 : ∀ (x0 : Option Nat) (x1 : Option Nat) (x2 : Option Nat) (x3 : Int32) (x4 : Int32) (x5 : Mem), G0 M0 x5 → K0 M0 (q11 x0 x1 x2 x3 x4 x5)) (hq32 : ∀ (x0 : Option Nat) (x1 : Option Nat) (x2 : Option Nat) (x3 : Int32) (x4 : Int32) (x5 : Option Nat) (x6 : Int32) (x7 : Mem), G0 M0 x7 → K0 M0 (q32 x0 x1 x2 x3 x4 x5 x6 x7)) (hM : G0 M0 M) : K0 M0 (b_X3_allowed_32 q11 q32 r0 r1 r2 i3 i4 r5 i6 M) := by
  unfold b_X3_allowed_32
  exact (k_if (hq11 _ _ _ _ _ _ hM) (k_gI fun _ => (k_if (k_if (hq32 _ _ _ _ _ _ _ _ hM) (k_cR (k_cA (k_f_X3_value  hM) fun _ M1 hM1 => (k_if (hq32 _ _ _ _ _ _ _ _ hM1) (hq32 _ _ _ _ _ _ _ _ hM1))))) (hq11 _ _ _ _ _ _ hM))))
theorem k_f_X3_allowed_32 {q11 : Option Nat → Option Nat → Option Nat → Int32 → Int32 → Mem → Option (Int32 × Mem)} (hq11 : ∀ (x0 : Option Nat) (x1 : Option Nat) (x2 : Option Nat) (x3 : Int32) (x4 : Int32) (x5 : Mem), G0 M0 x5 → K0 M0 (q11 x0 x1 x2 x3 x4 x5)) : ∀ (n : Nat) (x0 : Option Nat) (x1 : Option Nat) (x2 : Option Nat) (x3 : Int32) (x4 : Int32) (x5 : Option Nat) (x6 : Int32) (x7 : Mem), G0 M0 x7 → K0 M0 (f_X3_allowed_32 q11 n x0 x1 x2 x3 x4 x5 x6 x7)
  | 0 => fun _ _ _ _ _ _ _ _ _ => k_none
  | n + 1 => fun _ _ _ _ _ _ _ _ h => k_b_X3_allowed_32 hq11 (k_f_X3_allowed_32 hq11 n) h
theorem k_b_X3_allowed_11 {q11 : Option Nat → Option Nat → Option Nat → Int32 → Int32 → Mem → Option (Int32 × Mem)} {r0 : Option Nat} {r1 : Option Nat} {r2 : Option Nat} {i3 : Int32} {i4 : Int32} {M : Mem} (hq11 : ∀ (x0 : Option Nat) (x1 : Option Nat) (x2 : Option Nat) (x3 : Int32) (x4 : Int32) (x5 : Mem), G0 M0 x5 → K0 M0 (q11 x0 x1 x2 x3 x4 x5)) (hM : G0 M0 M) : K0 M0 (b_X3_allowed_11 q11 r0 r1 r2 i3 i4 M) := by
  unfold b_X3_allowed_11
  exact (k_gI fun _ => (k_if (k_cA (k_f_J6_bitCount_0f7a4  hM) fun _ M1 hM1 => (k_if (k_some hM1) (k_gR fun _ => (k_gI fun _ => (k_some hM1))))) (k_gR fun _ => (k_aR fun _ => (k_f_X3_allowed_32 hq11 _ _ _ _ _ _ _ _ _ hM)))))
theorem k_f_X3_allowed_11   : ∀ (n : Nat) (x0 : Option Nat) (x1 : Option Nat) (x2 : Option Nat) (x3 : Int32) (x4 : Int32) (x5 : Mem), G0 M0 x5 → K0 M0 (f_X3_allowed_11  n x0 x1 x2 x3 x4 x5)
  | 0 => fun _ _ _ _ _ _ _ => k_none
  | n + 1 => fun _ _ _ _ _ _ h => k_b_X3_allowed_11  (k_f_X3_allowed_11  n) h
theorem k_f_X3_allowed {r0 : Option Nat} {r1 : Option Nat} {r2 : Option Nat} {M : Mem}  (hM : G0 M0 M) : K0 M0 (f_X3_allowed r0 r1 r2 M) := by
  unfold f_X3_allowed
  exact (k_gR fun _ => (k_gI fun _ => (k_f_X3_allowed_11  _ _ _ _ _ _ _ hM)))
theorem k_b_X3_offered_61 {q24 : Option Nat → Int32 → Int32 → Int32 → Int32 → Mem → Option (Int32 × Mem)} {q61 : Option Nat → Int32 → Int32 → Int32 → Int32 → Int32 → Int32 → Int32 → Mem → Option (Int32 × Mem)} {r0 : Option Nat} {i3 : Int32} {i4 : Int32} {i5 : Int32} {i6 : Int32} {i7 : Int32} {i8 : Int32} {i9 : Int32} {M : Mem} (hq24 : ∀ (x0 : Option Nat) (x1 : Int32) (x2 : Int32) (x3 : Int32) (x4 : Int32) (x5 : Mem), G0 M0 x5 → K0 M0 (q24 x0 x1 x2 x3 x4 x5)) (hq61 : ∀ (x0 : Option Nat) (x1 : Int32) (x2 : Int32) (x3 : Int32) (x4 : Int32) (x5 : Int32) (x6 : Int32) (x7 : Int32) (x8 : Mem), G0 M0 x8 → K0 M0 (q61 x0 x1 x2 x3 x4 x5 x6 x7 x8)) (hM : G0 M0 M) : K0 M0 (b_X3_offered_61 q24 q61 r0 i3 i4 i5 i6 i7 i8 i9 M) := by
  unfold b_X3_offered_61
  exact (k_if (k_if (hq24 _ _ _ _ _ _ hM) (k_if (hq24 _ _ _ _ _ _ hM) (hq24 _ _ _ _ _ _ hM))) (k_if (hq61 _ _ _ _ _ _ _ _ _ hM) (k_gR fun _ => (k_aI fun _ => (hq61 _ _ _ _ _ _ _ _ _ hM)))))
theorem k_f_X3_offered_61 {q24 : Option Nat → Int32 → Int32 → Int32 → Int32 → Mem → Option (Int32 × Mem)} (hq24 : ∀ (x0 : Option Nat) (x1 : Int32) (x2 : Int32) (x3 : Int32) (x4 : Int32) (x5 : Mem), G0 M0 x5 → K0 M0 (q24 x0 x1 x2 x3 x4 x5)) : ∀ (n : Nat) (x0 : Option Nat) (x1 : Int32) (x2 : Int32) (x3 : Int32) (x4 : Int32) (x5 : Int32) (x6 : Int32) (x7 : Int32) (x8 : Mem), G0 M0 x8 → K0 M0 (f_X3_offered_61 q24 n x0 x1 x2 x3 x4 x5 x6 x7 x8)
  | 0 => fun _ _ _ _ _ _ _ _ _ _ => k_none
  | n + 1 => fun _ _ _ _ _ _ _ _ _ h => k_b_X3_offered_61 hq24 (k_f_X3_offered_61 hq24 n) h
theorem k_b_X3_offered_24 {q24 : Option Nat → Int32 → Int32 → Int32 → Int32 → Mem → Option (Int32 × Mem)} {r0 : Option Nat} {i3 : Int32} {i4 : Int32} {i5 : Int32} {i6 : Int32} {M : Mem} (hq24 : ∀ (x0 : Option Nat) (x1 : Int32) (x2 : Int32) (x3 : Int32) (x4 : Int32) (x5 : Mem), G0 M0 x5 → K0 M0 (q24 x0 x1 x2 x3 x4 x5)) (hM : G0 M0 M) : K0 M0 (b_X3_offered_24 q24 r0 i3 i4 i5 i6 M) := by
  unfold b_X3_offered_24
  exact (k_if (k_some hM) (k_gR fun _ => (k_gR fun _ => (k_aI fun _ => (k_if (k_f_X3_offered_61 hq24 _ _ _ _ _ _ _ _ _ _ hM) (hq24 _ _ _ _ _ _ hM))))))
theorem k_f_X3_offered_24   : ∀ (n : Nat) (x0 : Option Nat) (x1 : Int32) (x2 : Int32) (x3 : Int32) (x4 : Int32) (x5 : Mem), G0 M0 x5 → K0 M0 (f_X3_offered_24  n x0 x1 x2 x3 x4 x5)
  | 0 => fun _ _ _ _ _ _ _ => k_none
  | n + 1 => fun _ _ _ _ _ _ h => k_b_X3_offered_24  (k_f_X3_offered_24  n) h
theorem k_f_X3_offered {r0 : Option Nat} {r1 : Option Nat} {r2 : Option Nat} {M : Mem}  (hM : G0 M0 M) : K0 M0 (f_X3_offered r0 r1 r2 M) := by
  unfold f_X3_offered
  exact (k_cR (k_cA (k_f_X3_allowed  hM) fun _ M1 hM1 => (k_cR (k_cA (k_f_X3_weigh  hM1) fun _ M2 hM2 => (k_f_X3_offered_24  _ _ _ _ _ _ _ hM2)))))
theorem k_f_X3_decide {r0 : Option Nat} {r1 : Option Nat} {r2 : Option Nat} {r3 : Option Nat} {M : Mem}  (hM : G0 M0 M) : K0 M0 (f_X3_decide r0 r1 r2 r3 M) := by
  unfold f_X3_decide
  exact (k_cR (k_cA (k_f_X3_offered  hM) fun _ M1 hM1 => (k_cR (k_cA (k_f_X3_greatest  hM1) fun _ M2 hM2 => (k_pI hM2 fun M3 hM3 => (k_gI fun _ => (k_cR (k_cA (k_f_X3_greatest  hM3) fun _ M4 hM4 => (k_pI hM4 fun M5 hM5 => (k_some hM5))))))))))
theorem k_b_X11_byWays_2 {q2 : Option Nat → Option Nat → Int32 → Int32 → Mem → Option (Int32 × Mem)} {r0 : Option Nat} {r1 : Option Nat} {i2 : Int32} {i3 : Int32} {M : Mem} (hq2 : ∀ (x0 : Option Nat) (x1 : Option Nat) (x2 : Int32) (x3 : Int32) (x4 : Mem), G0 M0 x4 → K0 M0 (q2 x0 x1 x2 x3 x4)) (hM : G0 M0 M) : K0 M0 (b_X11_byWays_2 q2 r0 r1 i2 i3 M) := by
  unfold b_X11_byWays_2
  exact (k_if (k_some hM) (k_cR (k_cA (k_f_X11_isOver  hM) fun _ M1 hM1 => (k_if (k_gI fun _ => (k_gR fun _ => (k_gR fun _ => (k_aI fun _ => (k_cR (k_cA (k_f_X11_rules  hM1) fun _ M2 hM2 => (k_gR fun _ => (k_gR fun _ => (k_aI fun _ => (k_cR (k_cA (k_f_X11_rules  hM2) fun _ M3 hM3 => (k_gR fun _ => (k_cR (k_cA (k_f_X3_decide  hM3) fun _ M4 hM4 => (k_gR fun _ => (k_gR fun _ => (k_gI fun _ => (k_cR (k_cA (k_f_X11_rules  hM4) fun _ M5 hM5 => (k_gR fun _ => (k_gI fun _ => (k_gR fun _ => (k_gI fun _ => (k_cR (k_cA (k_f_X2_advance  hM5) fun _ M6 hM6 => (hq2 _ _ _ _ _ hM6)))))))))))))))))))))))))) (k_some hM1)))))
theorem k_f_X11_byWays_2   : ∀ (n : Nat) (x0 : Option Nat) (x1 : Option Nat) (x2 : Int32) (x3 : Int32) (x4 : Mem), G0 M0 x4 → K0 M0 (f_X11_byWays_2  n x0 x1 x2 x3 x4)
  | 0 => fun _ _ _ _ _ _ => k_none
  | n + 1 => fun _ _ _ _ _ h => k_b_X11_byWays_2  (k_f_X11_byWays_2  n) h
theorem k_f_X11_byWays {r0 : Option Nat} {r1 : Option Nat} {i2 : Int32} {M : Mem}  (hM : G0 M0 M) : K0 M0 (f_X11_byWays r0 r1 i2 M) := by
  unfold f_X11_byWays
  exact (k_f_X11_byWays_2  _ _ _ _ _ _ hM)
theorem k_f_X11_match {r0 : Option Nat} {i1 : Int32} {i2 : Int32} {M : Mem}  (hM : G0 M0 M) : K0 M0 (f_X11_match r0 i1 i2 M) := by
  unfold f_X11_match
  exact (k_if (k_some hM) (k_if (k_some hM) (k_if (k_some hM) (k_if (k_gR fun _ => (k_gR fun _ => (k_gR fun _ => (k_cR (k_cA (k_f_X4_take  hM) fun _ M1 hM1 => (k_gR fun _ => (k_cR (k_cA (k_f_X11_byWays  hM1) fun _ M2 hM2 => (k_if (k_some hM2) (k_gR fun _ => (k_cR (k_cA (k_f_X11_winner  hM2) fun _ M3 hM3 => (k_some hM3))))))))))))) (k_some hM)))))
theorem k_f_X10_pick {r0 : Option Nat} {i1 : Int32} {i2 : Int32} {M : Mem}  (hM : G0 M0 M) : K0 M0 (f_X10_pick r0 i1 i2 M) := by
  unfold f_X10_pick
  exact (k_if (k_cR (k_cA (k_f_X10_count  hM) fun _ M1 hM1 => (k_some hM1))) (k_cR (k_cA (k_f_X10_nth  hM) fun _ M2 hM2 => (k_cA (k_f_X10_asTold  hM2) fun _ M3 hM3 => (k_some hM3)))))
theorem k_f_X11_offers {r0 : Option Nat} {i1 : Int32} {M : Mem}  (hM : G0 M0 M) : K0 M0 (f_X11_offers r0 i1 M) := by
  unfold f_X11_offers
  exact (k_gR fun _ => (k_gR fun _ => (k_gR fun _ => (k_gR fun _ => (k_gI fun _ => (k_cR (k_cA (k_f_X11_rules  hM) fun _ M1 hM1 => (k_gR fun _ => (k_gR fun _ => (k_cR (k_cA (k_f_X4_stock  hM1) fun _ M2 hM2 => (k_cR (k_cA (k_f_X2_look  hM2) fun _ M3 hM3 => (k_gR fun _ => (k_gR fun _ => (k_gI fun _ => (k_cR (k_cA (k_f_X10_pick  hM3) fun _ M4 hM4 => (k_some hM4)))))))))))))))))))
theorem k_f_X11_piece {r0 : Option Nat} {i1 : Int32} {i2 : Int32} {i3 : Int32} {M : Mem}  (hM : G0 M0 M) : K0 M0 (f_X11_piece r0 i1 i2 i3 M) := by
  unfold f_X11_piece
  exact (k_if (k_tv (k_some hM)) (k_gI fun _ => (k_gI fun _ => (k_if (k_if (k_gR fun _ => (k_gR fun _ => (k_cR (k_cA (k_f_X4_setCell  hM) fun _ M1 hM1 => (k_tv (k_some hM1)))))) (k_if (k_tv (k_some hM)) (k_if (k_tv (k_some hM)) (k_cA (k_f_X11_isSide  hM) fun _ M2 hM2 => (k_if (k_tv (k_some hM2)) (k_gR fun _ => (k_gR fun _ => (k_cR (k_cA (k_f_X4_setCell  hM2) fun _ M3 hM3 => (k_tv (k_some hM3))))))))))) (k_tv (k_some hM))))))
theorem k_f_X11_play {r0 : Option Nat} {i1 : Int32} {i2 : Int32} {i3 : Int32} {i4 : Int32} {i5 : Int32} {M : Mem}  (hM : G0 M0 M) : K0 M0 (f_X11_play r0 i1 i2 i3 i4 i5 M) := by
  unfold f_X11_play
  exact (k_gR fun _ => (k_gR fun _ => (k_cA (k_f_X10_bitsOf  hM) fun _ M1 hM1 => (k_cR (k_cA (k_f_X11_told  hM1) fun _ M2 hM2 => (k_tv (k_some hM2)))))))
theorem k_f_X11_ply_57 {r0 : Option Nat} {i1 : Int32} {i2 : Int32} {i3 : Int32} {i4 : Int32} {i5 : Int32} {si0 : Int32} {M : Mem}  (hM : G0 M0 M) : K0 M0 (f_X11_ply_57 r0 i1 i2 i3 i4 i5 si0 M) := by
  unfold f_X11_ply_57
  exact (k_if (k_some hM) (k_gR fun _ => (k_gI fun _ => (k_if (k_gR fun _ => (k_gI fun _ => (k_gR fun _ => (k_gR fun _ => (k_wI (by decide) hM fun M1 hM1 => (k_gR fun _ => (k_gR fun _ => (k_wI (by decide) hM1 fun M2 hM2 => (k_gR fun _ => (k_gR fun _ => (k_wI (by decide) hM2 fun M3 hM3 => (k_gR fun _ => (k_gR fun _ => (k_wI (by decide) hM3 fun M4 hM4 => (k_gR fun _ => (k_gR fun _ => (k_wI (by decide) hM4 fun M5 hM5 => (k_gR fun _ => (k_gI fun _ => (k_pI hM5 fun M6 hM6 => (k_gR fun _ => (k_gI fun _ => (k_some hM6))))))))))))))))))))))) (k_some hM)))))
theorem k_f_X11_ply {r0 : Option Nat} {i1 : Int32} {i2 : Int32} {i3 : Int32} {i4 : Int32} {i5 : Int32} {M : Mem}  (hM : G0 M0 M) : K0 M0 (f_X11_ply r0 i1 i2 i3 i4 i5 M) := by
  unfold f_X11_ply
  exact (k_if (k_gR fun _ => (k_pI hM fun M1 hM1 => (k_some hM1))) (k_cA (k_f_X11_isMove  hM) fun _ M2 hM2 => (k_if (k_f_X11_ply_57  hM2) (k_cA (k_f_X11_isMove  hM2) fun _ M3 hM3 => (k_if (k_f_X11_ply_57  hM3) (k_cA (k_f_X11_isMove  hM3) fun _ M4 hM4 => (k_if (k_f_X11_ply_57  hM4) (k_cA (k_f_X11_isMove  hM4) fun _ M5 hM5 => (k_if (k_f_X11_ply_57  hM5) (k_cA (k_f_X11_isMove  hM5) fun _ M6 hM6 => (k_if (k_f_X11_ply_57  hM6) (k_f_X11_ply_57  hM6))))))))))))
theorem k_f_X11_run {r0 : Option Nat} {i1 : Int32} {M : Mem}  (hM : G0 M0 M) : K0 M0 (f_X11_run r0 i1 M) := by
  unfold f_X11_run
  exact (k_if (k_some hM) (k_if (k_gR fun _ => (k_gR fun _ => (k_cR (k_cA (k_f_X11_byWays  hM) fun _ M1 hM1 => (k_some hM1))))) (k_some hM)))
theorem k_b_X0_hasCircle_105 {q74 : Option Nat → Int32 → Mem → Option (Int32 × Mem)} {q105 : Option Nat → Int32 → Int32 → Int32 → Mem → Option (Int32 × Mem)} {r0 : Option Nat} {i1 : Int32} {i2 : Int32} {i3 : Int32} {M : Mem} (hq74 : ∀ (x0 : Option Nat) (x1 : Int32) (x2 : Mem), G0 M0 x2 → K0 M0 (q74 x0 x1 x2)) (hq105 : ∀ (x0 : Option Nat) (x1 : Int32) (x2 : Int32) (x3 : Int32) (x4 : Mem), G0 M0 x4 → K0 M0 (q105 x0 x1 x2 x3 x4)) (hM : G0 M0 M) : K0 M0 (b_X0_hasCircle_105 q74 q105 r0 i1 i2 i3 M) := by
  unfold b_X0_hasCircle_105
  exact (k_gR fun _ => (k_aN fun _ => (k_if (hq74 _ _ _ hM) (k_if (hq74 _ _ _ hM) (k_nzI (k_gR fun _ => (k_aI fun _ => (k_wI (by decide) hM fun M1 hM1 => (k_gR fun _ => (k_aI fun _ => (k_if (k_gI fun _ => (k_gR fun _ => (k_aN fun _ => (k_if (k_gR fun _ => (k_aI fun _ => (hq105 _ _ _ _ _ hM1))) (k_gR fun _ => (k_gI fun _ => (k_wI (by decide) hM1 fun M2 hM2 => (k_gI fun _ => (k_pI hM2 fun M3 hM3 => (k_gR fun _ => (k_aI fun _ => (hq105 _ _ _ _ _ hM3)))))))))))) (k_gR fun _ => (k_aI fun _ => (hq105 _ _ _ _ _ hM1))))))))))))))
theorem k_f_X0_hasCircle_105 {q74 : Option Nat → Int32 → Mem → Option (Int32 × Mem)} (hq74 : ∀ (x0 : Option Nat) (x1 : Int32) (x2 : Mem), G0 M0 x2 → K0 M0 (q74 x0 x1 x2)) : ∀ (n : Nat) (x0 : Option Nat) (x1 : Int32) (x2 : Int32) (x3 : Int32) (x4 : Mem), G0 M0 x4 → K0 M0 (f_X0_hasCircle_105 q74 n x0 x1 x2 x3 x4)
  | 0 => fun _ _ _ _ _ _ => k_none
  | n + 1 => fun _ _ _ _ _ h => k_b_X0_hasCircle_105 hq74 (k_f_X0_hasCircle_105 hq74 n) h
theorem k_b_X0_hasCircle_74 {q74 : Option Nat → Int32 → Mem → Option (Int32 × Mem)} {r0 : Option Nat} {i1 : Int32} {M : Mem} (hq74 : ∀ (x0 : Option Nat) (x1 : Int32) (x2 : Mem), G0 M0 x2 → K0 M0 (q74 x0 x1 x2)) (hM : G0 M0 M) : K0 M0 (b_X0_hasCircle_74 q74 r0 i1 M) := by
  unfold b_X0_hasCircle_74
  exact (k_gR fun _ => (k_aN fun _ => (k_if (k_gI fun _ => (k_gR fun _ => (k_gI fun _ => (k_if (k_tv (k_some hM)) (k_tv (k_some hM)))))) (k_gI fun _ => (k_if (k_gI fun _ => (k_gR fun _ => (k_gI fun _ => (k_if (k_tv (k_some hM)) (k_tv (k_some hM)))))) (k_gR fun _ => (k_gR fun _ => (k_aI fun _ => (k_aI fun _ => (k_f_X0_hasCircle_105 hq74 _ _ _ _ _ _ hM))))))))))
theorem k_f_X0_hasCircle_74   : ∀ (n : Nat) (x0 : Option Nat) (x1 : Int32) (x2 : Mem), G0 M0 x2 → K0 M0 (f_X0_hasCircle_74  n x0 x1 x2)
  | 0 => fun _ _ _ _ => k_none
  | n + 1 => fun _ _ _ h => k_b_X0_hasCircle_74  (k_f_X0_hasCircle_74  n) h
theorem k_b_X0_hasCircle_7 {q7 : Option Nat → Int32 → Mem → Option (Int32 × Mem)} {r0 : Option Nat} {i1 : Int32} {M : Mem} (hq7 : ∀ (x0 : Option Nat) (x1 : Int32) (x2 : Mem), G0 M0 x2 → K0 M0 (q7 x0 x1 x2)) (hM : G0 M0 M) : K0 M0 (b_X0_hasCircle_7 q7 r0 i1 M) := by
  unfold b_X0_hasCircle_7
  exact (k_gR fun _ => (k_gI fun _ => (k_if (k_f_X0_hasCircle_74  _ _ _ _ hM) (k_gR fun _ => (k_gR fun _ => (k_aI fun _ => (k_cA (k_f_J6_bitCount_0f7a4  hM) fun _ M1 hM1 => (k_gR fun _ => (k_wI (by decide) hM1 fun M2 hM2 => (k_if (k_gR fun _ => (k_gI fun _ => (k_wI (by decide) hM2 fun M3 hM3 => (k_gI fun _ => (k_pI hM3 fun M4 hM4 => (hq7 _ _ _ hM4)))))) (hq7 _ _ _ hM2)))))))))))
theorem k_f_X0_hasCircle_7   : ∀ (n : Nat) (x0 : Option Nat) (x1 : Int32) (x2 : Mem), G0 M0 x2 → K0 M0 (f_X0_hasCircle_7  n x0 x1 x2)
  | 0 => fun _ _ _ _ => k_none
  | n + 1 => fun _ _ _ h => k_b_X0_hasCircle_7  (k_f_X0_hasCircle_7  n) h
theorem k_f_X0_hasCircle {r0 : Option Nat} {M : Mem}  (hM : G0 M0 M) : K0 M0 (f_X0_hasCircle r0 M) := by
  unfold f_X0_hasCircle
  exact (k_pI hM fun M1 hM1 => (k_f_X0_hasCircle_7  _ _ _ _ hM1))
theorem k_f_X11_runs {r0 : Option Nat} {M : Mem}  (hM : G0 M0 M) : K0 M0 (f_X11_runs r0 M) := by
  unfold f_X11_runs
  exact (k_gR fun _ => (k_gR fun _ => (k_cR (k_cA (k_f_X11_solved  hM) fun _ M1 hM1 => (k_if (k_some hM1) (k_gR fun _ => (k_cR (k_cA (k_f_X0_hasCircle  hM1) fun _ M2 hM2 => (k_if (k_some hM2) (k_some hM2))))))))))
theorem k_f_X11_states {r0 : Option Nat} {M : Mem}  (hM : G0 M0 M) : K0 M0 (f_X11_states r0 M) := by
  unfold f_X11_states
  exact (k_gR fun _ => (k_gR fun _ => (k_cR (k_cA (k_f_X11_solved  hM) fun _ M1 hM1 => (k_if (k_some hM1) (k_gR fun _ => (k_gI fun _ => (k_some hM1))))))))
theorem k_f_X5_isDigit {i0 : Int32} {M : Mem}  (hM : G0 M0 M) : K0 M0 (f_X5_isDigit i0 M) := by
  unfold f_X5_isDigit
  exact (k_if (k_tv (k_some hM)) (k_if (k_tv (k_some hM)) (k_tv (k_some hM))))
theorem k_f_X5_isLetter {i0 : Int32} {M : Mem}  (hM : G0 M0 M) : K0 M0 (f_X5_isLetter i0 M) := by
  unfold f_X5_isLetter
  exact (k_if (k_if (k_tv (k_some hM)) (k_if (k_tv (k_some hM)) (k_tv (k_some hM)))) (k_if (k_tv (k_some hM)) (k_if (k_tv (k_some hM)) (k_if (k_tv (k_some hM)) (k_tv (k_some hM))))))
theorem k_f_J0_isLatin1_aae02 {r0 : Option Nat} {M : Mem}  (hM : G0 M0 M) : K0 M0 (f_J0_isLatin1_aae02 r0 M) := by
  unfold f_J0_isLatin1_aae02
  exact (k_if (k_tv (k_some hM)) (k_gSc fun _ => (k_if (k_tv (k_some hM)) (k_tv (k_some hM)))))
theorem k_f_J0_coder_7d493 {r0 : Option Nat} {M : Mem}  (hM : G0 M0 M) : K0 M0 (f_J0_coder_7d493 r0 M) := by
  unfold f_J0_coder_7d493
  exact (k_if (k_bv (k_some hM)) (k_gSc fun _ => (k_bv (k_some hM))))
theorem k_f_J0_length_8abf5 {r0 : Option Nat} {M : Mem}  (hM : G0 M0 M) : K0 M0 (f_J0_length_8abf5 r0 M) := by
  unfold f_J0_length_8abf5
  exact (k_gS fun _ => (k_aN fun _ => (k_cS (k_cA (k_f_J0_coder_7d493  hM) fun _ M1 hM1 => (k_some hM1)))))
theorem k_f_J1_canEncode_9a6ad {i0 : Int32} {M : Mem}  (hM : G0 M0 M) : K0 M0 (f_J1_canEncode_9a6ad i0 M) := by
  unfold f_J1_canEncode_9a6ad
  exact (k_if (k_tv (k_some hM)) (k_if (k_tv (k_some hM)) (k_tv (k_some hM))))
theorem k_b_J1_indexOfChar_4cfef_7 {q7 : Option Nat → Int32 → Int32 → Int32 → Mem → Option (Int32 × Mem)} {r0 : Option Nat} {i3 : Int32} {i4 : Int32} {i5 : Int32} {M : Mem} (hq7 : ∀ (x0 : Option Nat) (x1 : Int32) (x2 : Int32) (x3 : Int32) (x4 : Mem), G0 M0 x4 → K0 M0 (q7 x0 x1 x2 x3 x4)) (hM : G0 M0 M) : K0 M0 (b_J1_indexOfChar_4cfef_7 q7 r0 i3 i4 i5 M) := by
  unfold b_J1_indexOfChar_4cfef_7
  exact (k_if (k_some hM) (k_aI fun _ => (k_if (k_some hM) (hq7 _ _ _ _ _ hM))))
theorem k_f_J1_indexOfChar_4cfef_7   : ∀ (n : Nat) (x0 : Option Nat) (x1 : Int32) (x2 : Int32) (x3 : Int32) (x4 : Mem), G0 M0 x4 → K0 M0 (f_J1_indexOfChar_4cfef_7  n x0 x1 x2 x3 x4)
  | 0 => fun _ _ _ _ _ _ => k_none
  | n + 1 => fun _ _ _ _ _ h => k_b_J1_indexOfChar_4cfef_7  (k_f_J1_indexOfChar_4cfef_7  n) h
theorem k_f_J1_indexOfChar_4cfef {r0 : Option Nat} {i1 : Int32} {i2 : Int32} {i3 : Int32} {M : Mem}  (hM : G0 M0 M) : K0 M0 (f_J1_indexOfChar_4cfef r0 i1 i2 i3 M) := by
  unfold f_J1_indexOfChar_4cfef
  exact (k_f_J1_indexOfChar_4cfef_7  _ _ _ _ _ _ hM)
theorem k_f_J1_indexOf_4cfef {r0 : Option Nat} {i1 : Int32} {i2 : Int32} {i3 : Int32} {M : Mem}  (hM : G0 M0 M) : K0 M0 (f_J1_indexOf_4cfef r0 i1 i2 i3 M) := by
  unfold f_J1_indexOf_4cfef
  exact (k_cA (k_f_J1_canEncode_9a6ad  hM) fun _ M1 hM1 => (k_if (k_some hM1) (k_aN fun _ => (k_if (k_cA (k_f_J1_indexOfChar_4cfef  hM1) fun _ M2 hM2 => (k_some hM2)) (k_some hM1)))))
theorem k_f_J0_indexOf_7cf53 {r0 : Option Nat} {i1 : Int32} {i2 : Int32} {M : Mem}  (hM : G0 M0 M) : K0 M0 (f_J0_indexOf_7cf53 r0 i1 i2 M) := by
  unfold f_J0_indexOf_7cf53
  exact (k_cS (k_cA (k_f_J0_isLatin1_aae02  hM) fun _ M1 hM1 => (k_if (k_gS fun _ => (k_cS (k_cA (k_f_J0_length_8abf5  hM1) fun _ M2 hM2 => k_none))) (k_gS fun _ => (k_cS (k_cA (k_f_J0_length_8abf5  hM1) fun _ M3 hM3 => (k_cA (k_f_J1_indexOf_4cfef  hM3) fun _ M4 hM4 => (k_some hM4))))))))
theorem k_f_J0_indexOf_0f7a4 {r0 : Option Nat} {i1 : Int32} {M : Mem}  (hM : G0 M0 M) : K0 M0 (f_J0_indexOf_0f7a4 r0 i1 M) := by
  unfold f_J0_indexOf_0f7a4
  exact (k_cS (k_cA (k_f_J0_indexOf_7cf53  hM) fun _ M1 hM1 => (k_some hM1)))
theorem k_f_X5_sign_81 {i1 : Int32} {M : Mem}  (hM : G0 M0 M) : K0 M0 (f_X5_sign_81 i1 M) := by
  unfold f_X5_sign_81
  exact (k_cS (k_cA (k_f_J0_indexOf_0f7a4  hM) fun _ M1 hM1 => (k_if (k_some hM1) (k_aN fun _ => (k_if (k_some hM1) (k_aI fun _ => (k_some hM1)))))))
theorem k_f_X5_sign_32 {r0 : Option Nat} {i1 : Int32} {M : Mem}  (hM : G0 M0 M) : K0 M0 (f_X5_sign_32 r0 i1 M) := by
  unfold f_X5_sign_32
  exact (k_gI fun _ => (k_gI fun _ => (k_if (k_f_X5_sign_81  hM) (k_gR fun _ => (k_gI fun _ => (k_aI fun _ => (k_if (k_gI fun _ => (k_pI hM fun M1 hM1 => (k_if (k_some hM1) (k_some hM1)))) (k_f_X5_sign_81  hM))))))))
theorem k_f_X5_sign {r0 : Option Nat} {M : Mem}  (hM : G0 M0 M) : K0 M0 (f_X5_sign r0 M) := by
  unfold f_X5_sign
  exact (k_gR fun _ => (k_gI fun _ => (k_aI fun _ => (k_gI fun _ => (k_pI hM fun M1 hM1 => (k_if (k_f_X5_sign_32  hM1) (k_if (k_f_X5_sign_32  hM1) (k_f_X5_sign_81  hM1))))))))
theorem k_f_J3_checkIndex_8e157 {i0 : Int32} {i1 : Int32} {r2 : Option Nat} {M : Mem}  (hM : G0 M0 M) : K0 M0 (f_J3_checkIndex_8e157 i0 i1 r2 M) := by
  unfold f_J3_checkIndex_8e157
  exact (k_if k_none (k_if (k_some hM) k_none))
theorem k_f_J0_checkIndex_df160 {i0 : Int32} {i1 : Int32} {M : Mem}  (hM : G0 M0 M) : K0 M0 (f_J0_checkIndex_df160 i0 i1 M) := by
  unfold f_J0_checkIndex_df160
  exact (k_gF fun _ => (k_cA (k_f_J3_checkIndex_8e157  hM) fun _ M1 hM1 => (k_some hM1)))
theorem k_f_J1_charAt_3b067 {r0 : Option Nat} {i1 : Int32} {M : Mem}  (hM : G0 M0 M) : K0 M0 (f_J1_charAt_3b067 r0 i1 M) := by
  unfold f_J1_charAt_3b067
  exact (k_aN fun _ => (k_cA (k_f_J0_checkIndex_df160  hM) fun _ M1 hM1 => (k_aI fun _ => (k_cv (k_some hM1)))))
theorem k_f_J0_charAt_5068e {r0 : Option Nat} {i1 : Int32} {M : Mem}  (hM : G0 M0 M) : K0 M0 (f_J0_charAt_5068e r0 i1 M) := by
  unfold f_J0_charAt_5068e
  exact (k_cS (k_cA (k_f_J0_isLatin1_aae02  hM) fun _ M1 hM1 => (k_if (k_gS fun _ => k_none) (k_gS fun _ => (k_cA (k_f_J1_charAt_3b067  hM1) fun _ M2 hM2 => (k_cv (k_some hM2)))))))
theorem k_b_X5_word_12 {q12 : Option Nat → Int32 → Int32 → Int32 → Int32 → Mem → Option (Int32 × Mem)} {r0 : Option Nat} {i1 : Int32} {i2 : Int32} {i3 : Int32} {i4 : Int32} {M : Mem} (hq12 : ∀ (x0 : Option Nat) (x1 : Int32) (x2 : Int32) (x3 : Int32) (x4 : Int32) (x5 : Mem), G0 M0 x5 → K0 M0 (q12 x0 x1 x2 x3 x4 x5)) (hM : G0 M0 M) : K0 M0 (b_X5_word_12 q12 r0 i1 i2 i3 i4 M) := by
  unfold b_X5_word_12
  exact (k_cS (k_cA (k_f_J0_length_8abf5  hM) fun _ M1 hM1 => (k_if (k_some hM1) (k_cS (k_cA (k_f_J0_charAt_5068e  hM1) fun _ M2 hM2 => (k_if (k_if (k_gI fun _ => (hq12 _ _ _ _ _ _ hM2)) (k_gI fun _ => (k_if (k_some hM2) (k_gI fun _ => (hq12 _ _ _ _ _ _ hM2))))) (k_if (hq12 _ _ _ _ _ _ hM2) (k_gI fun _ => (k_if (hq12 _ _ _ _ _ _ hM2) (k_gR fun _ => (k_aI fun _ => (k_if (hq12 _ _ _ _ _ _ hM2) (hq12 _ _ _ _ _ _ hM2)))))))))))))
theorem k_f_X5_word_12   : ∀ (n : Nat) (x0 : Option Nat) (x1 : Int32) (x2 : Int32) (x3 : Int32) (x4 : Int32) (x5 : Mem), G0 M0 x5 → K0 M0 (f_X5_word_12  n x0 x1 x2 x3 x4 x5)
  | 0 => fun _ _ _ _ _ _ _ => k_none
  | n + 1 => fun _ _ _ _ _ _ h => k_b_X5_word_12  (k_f_X5_word_12  n) h
theorem k_f_X5_word {r0 : Option Nat} {M : Mem}  (hM : G0 M0 M) : K0 M0 (f_X5_word r0 M) := by
  unfold f_X5_word
  exact (k_gI fun _ => (k_f_X5_word_12  _ _ _ _ _ _ _ hM))
theorem k_b_X5_advance_171 {q171 : Option Nat → Mem → Option (Unit × Mem)} {r0 : Option Nat} {M : Mem} (hq171 : ∀ (x0 : Option Nat) (x1 : Mem), G0 M0 x1 → K0 M0 (q171 x0 x1)) (hM : G0 M0 M) : K0 M0 (b_X5_advance_171 q171 r0 M) := by
  unfold b_X5_advance_171
  exact (k_gI fun _ => (k_gI fun _ => (k_if (k_some hM) (k_gR fun _ => (k_gI fun _ => (k_aI fun _ => (k_cA (k_f_X5_isDigit  hM) fun _ M1 hM1 => (k_if (k_some hM1) (k_gI fun _ => (k_gR fun _ => (k_gI fun _ => (k_aI fun _ => (k_pI hM1 fun M2 hM2 => (k_gI fun _ => (k_pI hM2 fun M3 hM3 => (hq171 _ _ hM3))))))))))))))))
theorem k_f_X5_advance_171   : ∀ (n : Nat) (x0 : Option Nat) (x1 : Mem), G0 M0 x1 → K0 M0 (f_X5_advance_171  n x0 x1)
  | 0 => fun _ _ _ => k_none
  | n + 1 => fun _ _ h => k_b_X5_advance_171  (k_f_X5_advance_171  n) h
theorem k_b_X5_advance_95 {q95 : Option Nat → Mem → Option (Unit × Mem)} {r0 : Option Nat} {M : Mem} (hq95 : ∀ (x0 : Option Nat) (x1 : Mem), G0 M0 x1 → K0 M0 (q95 x0 x1)) (hM : G0 M0 M) : K0 M0 (b_X5_advance_95 q95 r0 M) := by
  unfold b_X5_advance_95
  exact (k_gI fun _ => (k_gI fun _ => (k_if (k_cR (k_cA (k_f_X5_word  hM) fun _ M1 hM1 => (k_pI hM1 fun M2 hM2 => (k_some hM2)))) (k_gR fun _ => (k_gI fun _ => (k_aI fun _ => (k_cA (k_f_X5_isLetter  hM) fun _ M3 hM3 => (k_if (k_cR (k_cA (k_f_X5_word  hM3) fun _ M4 hM4 => (k_pI hM4 fun M5 hM5 => (k_some hM5)))) (k_gI fun _ => (k_pI hM3 fun M6 hM6 => (hq95 _ _ hM6)))))))))))
theorem k_f_X5_advance_95   : ∀ (n : Nat) (x0 : Option Nat) (x1 : Mem), G0 M0 x1 → K0 M0 (f_X5_advance_95  n x0 x1)
  | 0 => fun _ _ _ => k_none
  | n + 1 => fun _ _ h => k_b_X5_advance_95  (k_f_X5_advance_95  n) h
theorem k_f_X5_advance_52 {r0 : Option Nat} {M : Mem}  (hM : G0 M0 M) : K0 M0 (f_X5_advance_52 r0 M) := by
  unfold f_X5_advance_52
  exact (k_gI fun _ => (k_pI hM fun M1 hM1 => (k_gI fun _ => (k_gI fun _ => (k_if (k_gR fun _ => (k_gI fun _ => (k_aI fun _ => (k_cA (k_f_X5_isLetter  hM1) fun _ M2 hM2 => (k_if (k_gR fun _ => (k_gI fun _ => (k_aI fun _ => (k_cA (k_f_X5_isDigit  hM2) fun _ M3 hM3 => (k_if (k_cR (k_cA (k_f_X5_sign  hM3) fun _ M4 hM4 => (k_pI hM4 fun M5 hM5 => (k_some hM5)))) (k_pI hM3 fun M6 hM6 => (k_pI hM6 fun M7 hM7 => (k_f_X5_advance_171  _ _ _ hM7)))))))) (k_f_X5_advance_95  _ _ _ hM2)))))) (k_pI hM1 fun M8 hM8 => (k_some hM8)))))))
theorem k_b_X5_advance_0 {q0 : Option Nat → Mem → Option (Unit × Mem)} {r0 : Option Nat} {M : Mem} (hq0 : ∀ (x0 : Option Nat) (x1 : Mem), G0 M0 x1 → K0 M0 (q0 x0 x1)) (hM : G0 M0 M) : K0 M0 (b_X5_advance_0 q0 r0 M) := by
  unfold b_X5_advance_0
  exact (k_gI fun _ => (k_gI fun _ => (k_if (k_f_X5_advance_52  hM) (k_gR fun _ => (k_gI fun _ => (k_aI fun _ => (k_if (k_gI fun _ => (k_pI hM fun M1 hM1 => (hq0 _ _ hM1))) (k_gR fun _ => (k_gI fun _ => (k_aI fun _ => (k_if (k_gI fun _ => (k_pI hM fun M2 hM2 => (hq0 _ _ hM2))) (k_f_X5_advance_52  hM))))))))))))
theorem k_f_X5_advance_0   : ∀ (n : Nat) (x0 : Option Nat) (x1 : Mem), G0 M0 x1 → K0 M0 (f_X5_advance_0  n x0 x1)
  | 0 => fun _ _ _ => k_none
  | n + 1 => fun _ _ h => k_b_X5_advance_0  (k_f_X5_advance_0  n) h
theorem k_f_X5_advance {r0 : Option Nat} {M : Mem}  (hM : G0 M0 M) : K0 M0 (f_X5_advance r0 M) := by
  unfold f_X5_advance
  exact (k_f_X5_advance_0  _ _ _ hM)
theorem k_f_X5_fail {r0 : Option Nat} {i1 : Int32} {M : Mem}  (hM : G0 M0 M) : K0 M0 (f_X5_fail r0 i1 M) := by
  unfold f_X5_fail
  exact (k_gI fun _ => (k_if (k_pI hM fun M1 hM1 => (k_gI fun _ => (k_pI hM1 fun M2 hM2 => (k_some hM2)))) (k_some hM)))
theorem k_f_X5_expect {r0 : Option Nat} {i1 : Int32} {M : Mem}  (hM : G0 M0 M) : K0 M0 (f_X5_expect r0 i1 M) := by
  unfold f_X5_expect
  exact (k_gI fun _ => (k_if (k_gI fun _ => (k_if (k_cR (k_cA (k_f_X5_advance  hM) fun _ M1 hM1 => (k_some hM1))) (k_cR (k_cA (k_f_X5_fail  hM) fun _ M2 hM2 => (k_some hM2))))) (k_some hM)))
theorem k_f_X5_number {r0 : Option Nat} {i1 : Int32} {M : Mem}  (hM : G0 M0 M) : K0 M0 (f_X5_number r0 i1 M) := by
  unfold f_X5_number
  exact (k_gI fun _ => (k_if (k_gI fun _ => (k_gI fun _ => (k_if (k_if (k_cR (k_cA (k_f_X5_advance  hM) fun _ M1 hM1 => (k_some hM1))) (k_cR (k_cA (k_f_X5_fail  hM) fun _ M2 hM2 => (k_some hM2)))) (k_cR (k_cA (k_f_X5_fail  hM) fun _ M3 hM3 => (k_some hM3)))))) (k_some hM)))
theorem k_f_X5_act_41 {r0 : Option Nat} {r1 : Option Nat} {M : Mem}  (hM : G0 M0 M) : K0 M0 (f_X5_act_41 r0 r1 M) := by
  unfold f_X5_act_41
  exact (k_gI fun _ => (k_cR (k_cA (k_f_X5_expect  hM) fun _ M1 hM1 => (k_cR (k_cA (k_f_X5_number  hM1) fun _ M2 hM2 => (k_pI hM2 fun M3 hM3 => (k_cR (k_cA (k_f_X5_expect  hM3) fun _ M4 hM4 => (k_cR (k_cA (k_f_X5_number  hM4) fun _ M5 hM5 => (k_pI hM5 fun M6 hM6 => (k_some hM6))))))))))))
theorem k_f_X5_act {r0 : Option Nat} {r1 : Option Nat} {M : Mem}  (hM : G0 M0 M) : K0 M0 (f_X5_act r0 r1 M) := by
  unfold f_X5_act
  exact (k_cR (k_cA (k_f_X5_number  hM) fun _ M1 hM1 => (k_pI hM1 fun M2 hM2 => (k_gI fun _ => (k_pI hM2 fun M3 hM3 => (k_gI fun _ => (k_if (k_cR (k_cA (k_f_X5_fail  hM3) fun _ M4 hM4 => (k_f_X5_act_41  hM4))) (k_gI fun _ => (k_if (k_f_X5_act_41  hM3) (k_cR (k_cA (k_f_X5_fail  hM3) fun _ M5 hM5 => (k_f_X5_act_41  hM5))))))))))))
theorem k_f_X5_mayOpen {r0 : Option Nat} {i1 : Int32} {M : Mem}  (hM : G0 M0 M) : K0 M0 (f_X5_mayOpen r0 i1 M) := by
  unfold f_X5_mayOpen
  exact (k_if (k_if (k_tv (k_some hM)) (k_tv (k_some hM))) (k_cR (k_cA (k_f_X5_fail  hM) fun _ M1 hM1 => (k_if (k_tv (k_some hM1)) (k_tv (k_some hM1))))))
theorem k_f_X6_emit {r0 : Option Nat} {i1 : Int32} {M : Mem}  (hM : G0 M0 M) : K0 M0 (f_X6_emit r0 i1 M) := by
  unfold f_X6_emit
  exact (k_gI fun _ => (k_gR fun _ => (k_aN fun _ => (k_if (k_some hM) (k_gR fun _ => (k_gI fun _ => (k_wI (by decide) hM fun M1 hM1 => (k_gI fun _ => (k_pI hM1 fun M2 hM2 => (k_some hM2))))))))))
theorem k_f_X5_levelOf {i0 : Int32} {M : Mem}  (hM : G0 M0 M) : K0 M0 (f_X5_levelOf i0 M) := by
  unfold f_X5_levelOf
  exact (k_if (k_some hM) (k_if (k_some hM) (k_if (k_some hM) (k_if (k_some hM) (k_if (k_some hM) (k_if (k_some hM) (k_if (k_some hM) (k_if (k_some hM) (k_if (k_some hM) (k_if (k_some hM) (k_if (k_some hM) (k_if (k_some hM) (k_if (k_some hM) (k_if (k_some hM) (k_some hM)))))))))))))))
theorem k_f_X6_add {r0 : Option Nat} {i1 : Int32} {M : Mem}  (hM : G0 M0 M) : K0 M0 (f_X6_add r0 i1 M) := by
  unfold f_X6_add
  exact (k_gI fun _ => (k_if (k_gR fun _ => (k_gI fun _ => (k_aR fun _ => (k_gI fun _ => (k_pI hM fun M1 hM1 => (k_pI hM1 fun M2 hM2 => (k_gI fun _ => (k_pI hM2 fun M3 hM3 => (k_cA (k_f_X6_isSingle  hM3) fun _ M4 hM4 => (k_if (k_some hM4) (k_gR fun _ => (k_wR hM4 fun M5 hM5 => (k_some hM5))))))))))))) (k_some hM)))
theorem k_b_X6_chain_7 {q7 : Option Nat → Int32 → Mem → Option (Unit × Mem)} {r0 : Option Nat} {i1 : Int32} {M : Mem} (hq7 : ∀ (x0 : Option Nat) (x1 : Int32) (x2 : Mem), G0 M0 x2 → K0 M0 (q7 x0 x1 x2)) (hM : G0 M0 M) : K0 M0 (b_X6_chain_7 q7 r0 i1 M) := by
  unfold b_X6_chain_7
  exact (k_if (k_some hM) (k_gR fun _ => (k_aR fun _ => (k_gI fun _ => (k_if (k_gI fun _ => (k_cA (k_f_X11_isMove  hM) fun _ M1 hM1 => (k_if (hq7 _ _ _ hM1) (k_gR fun _ => (k_gI fun _ => (k_aR fun _ => (k_pR hM1 fun M2 hM2 => (k_gR fun _ => (k_gI fun _ => (k_wR hM2 fun M3 hM3 => (hq7 _ _ _ hM3))))))))))) (hq7 _ _ _ hM))))))
theorem k_f_X6_chain_7   : ∀ (n : Nat) (x0 : Option Nat) (x1 : Int32) (x2 : Mem), G0 M0 x2 → K0 M0 (f_X6_chain_7  n x0 x1 x2)
  | 0 => fun _ _ _ _ => k_none
  | n + 1 => fun _ _ _ h => k_b_X6_chain_7  (k_f_X6_chain_7  n) h
theorem k_f_X6_chain {r0 : Option Nat} {M : Mem}  (hM : G0 M0 M) : K0 M0 (f_X6_chain r0 M) := by
  unfold f_X6_chain
  exact (k_gI fun _ => (k_f_X6_chain_7  _ _ _ _ hM))
theorem k_b_X6_clear_33 {q33 : Option Nat → Int32 → Mem → Option (Unit × Mem)} {r0 : Option Nat} {i1 : Int32} {M : Mem} (hq33 : ∀ (x0 : Option Nat) (x1 : Int32) (x2 : Mem), G0 M0 x2 → K0 M0 (q33 x0 x1 x2)) (hM : G0 M0 M) : K0 M0 (b_X6_clear_33 q33 r0 i1 M) := by
  unfold b_X6_clear_33
  exact (k_gR fun _ => (k_aN fun _ => (k_if (k_some hM) (k_gR fun _ => (k_wR hM fun M1 hM1 => (hq33 _ _ _ hM1))))))
theorem k_f_X6_clear_33   : ∀ (n : Nat) (x0 : Option Nat) (x1 : Int32) (x2 : Mem), G0 M0 x2 → K0 M0 (f_X6_clear_33  n x0 x1 x2)
  | 0 => fun _ _ _ _ => k_none
  | n + 1 => fun _ _ _ h => k_b_X6_clear_33  (k_f_X6_clear_33  n) h
theorem k_b_X6_clear_12 {q12 : Option Nat → Int32 → Mem → Option (Unit × Mem)} {r0 : Option Nat} {i1 : Int32} {M : Mem} (hq12 : ∀ (x0 : Option Nat) (x1 : Int32) (x2 : Mem), G0 M0 x2 → K0 M0 (q12 x0 x1 x2)) (hM : G0 M0 M) : K0 M0 (b_X6_clear_12 q12 r0 i1 M) := by
  unfold b_X6_clear_12
  exact (k_if (k_f_X6_clear_33  _ _ _ _ hM) (k_gR fun _ => (k_wR hM fun M1 hM1 => (hq12 _ _ _ hM1))))
theorem k_f_X6_clear_12   : ∀ (n : Nat) (x0 : Option Nat) (x1 : Int32) (x2 : Mem), G0 M0 x2 → K0 M0 (f_X6_clear_12  n x0 x1 x2)
  | 0 => fun _ _ _ _ => k_none
  | n + 1 => fun _ _ _ h => k_b_X6_clear_12  (k_f_X6_clear_12  n) h
theorem k_f_X6_clear {r0 : Option Nat} {M : Mem}  (hM : G0 M0 M) : K0 M0 (f_X6_clear r0 M) := by
  unfold f_X6_clear
  exact (k_pI hM fun M1 hM1 => (k_pI hM1 fun M2 hM2 => (k_f_X6_clear_12  _ _ _ _ hM2)))
theorem k_f_X11_turn {r0 : Option Nat} {i1 : Int32} {M : Mem}  (hM : G0 M0 M) : K0 M0 (f_X11_turn r0 i1 M) := by
  unfold f_X11_turn
  exact (k_cA (k_f_X11_isSide  hM) fun _ M1 hM1 => (k_if (k_tv (k_some hM1)) (k_gR fun _ => (k_gR fun _ => (k_pI hM1 fun M2 hM2 => (k_tv (k_some hM2)))))))
theorem k_f_X11_way {r0 : Option Nat} {i1 : Int32} {i2 : Int32} {M : Mem}  (hM : G0 M0 M) : K0 M0 (f_X11_way r0 i1 i2 M) := by
  unfold f_X11_way
  exact (k_cA (k_f_X11_isSide  hM) fun _ M1 hM1 => (k_if (k_tv (k_some hM1)) (k_cR (k_cA (k_f_X11_isTextOrNone  hM1) fun _ M2 hM2 => (k_if (k_tv (k_some hM2)) (k_gR fun _ => (k_gR fun _ => (k_wI (by decide) hM2 fun M3 hM3 => (k_tv (k_some hM3))))))))))
theorem k_f_X11_won {r0 : Option Nat} {M : Mem}  (hM : G0 M0 M) : K0 M0 (f_X11_won r0 M) := by
  unfold f_X11_won
  exact (k_gR fun _ => (k_gR fun _ => (k_cR (k_cA (k_f_X11_winner  hM) fun _ M1 hM1 => (k_some hM1)))))
theorem k_f_X12_in {i0 : Int32} {i1 : Int32} {i2 : Int32} {M : Mem}  (hM : G0 M0 M) : K0 M0 (f_X12_in i0 i1 i2 M) := by
  unfold f_X12_in
  exact (k_if (k_tv (k_some hM)) (k_if (k_tv (k_some hM)) (k_tv (k_some hM))))
theorem k_f_X12_isPlace {r0 : Option Nat} {i1 : Int32} {M : Mem}  (hM : G0 M0 M) : K0 M0 (f_X12_isPlace r0 i1 M) := by
  unfold f_X12_isPlace
  exact (k_gI fun _ => (k_cA (k_f_X12_in  hM) fun _ M1 hM1 => (k_tv (k_some hM1))))
theorem k_f_X12_about {r0 : Option Nat} {i1 : Int32} {M : Mem}  (hM : G0 M0 M) : K0 M0 (f_X12_about r0 i1 M) := by
  unfold f_X12_about
  exact (k_if (k_gI fun _ => (k_some hM)) (k_if (k_gI fun _ => (k_some hM)) (k_if (k_gR fun _ => (k_aI fun _ => (k_some hM))) (k_if (k_gR fun _ => (k_aI fun _ => (k_some hM))) (k_if (k_gR fun _ => (k_aI fun _ => (k_some hM))) (k_if (k_gR fun _ => (k_aI fun _ => (k_some hM))) (k_if (k_gR fun _ => (k_aI fun _ => (k_some hM))) (k_if (k_gR fun _ => (k_aI fun _ => (k_some hM))) (k_if (k_gI fun _ => (k_some hM)) (k_cA (k_f_X12_in  hM) fun _ M1 hM1 => (k_if (k_cR (k_cA (k_f_X12_isPlace  hM1) fun _ M2 hM2 => (k_if (k_some hM2) (k_gR fun _ => (k_aI fun _ => (k_some hM2)))))) (k_gR fun _ => (k_aI fun _ => (k_some hM1))))))))))))))
theorem k_b_X12_boardCode_8 {q8 : Option Nat → Int64 → Int32 → Mem → Option (Int64 × Mem)} {r0 : Option Nat} {l1 : Int64} {i3 : Int32} {M : Mem} (hq8 : ∀ (x0 : Option Nat) (x1 : Int64) (x2 : Int32) (x3 : Mem), G0 M0 x3 → K0 M0 (q8 x0 x1 x2 x3)) (hM : G0 M0 M) : K0 M0 (b_X12_boardCode_8 q8 r0 l1 i3 M) := by
  unfold b_X12_boardCode_8
  exact (k_gI fun _ => (k_if (k_some hM) (k_gR fun _ => (k_aI fun _ => (hq8 _ _ _ _ hM)))))
theorem k_f_X12_boardCode_8   : ∀ (n : Nat) (x0 : Option Nat) (x1 : Int64) (x2 : Int32) (x3 : Mem), G0 M0 x3 → K0 M0 (f_X12_boardCode_8  n x0 x1 x2 x3)
  | 0 => fun _ _ _ _ _ => k_none
  | n + 1 => fun _ _ _ _ h => k_b_X12_boardCode_8  (k_f_X12_boardCode_8  n) h
theorem k_f_X12_boardCode {r0 : Option Nat} {M : Mem}  (hM : G0 M0 M) : K0 M0 (f_X12_boardCode r0 M) := by
  unfold f_X12_boardCode
  exact (k_gI fun _ => (k_f_X12_boardCode_8  _ _ _ _ _ hM))
theorem k_f_X12_isMove {i0 : Int32} {M : Mem}  (hM : G0 M0 M) : K0 M0 (f_X12_isMove i0 M) := by
  unfold f_X12_isMove
  exact (k_cA (k_f_X12_in  hM) fun _ M1 hM1 => (k_tv (k_some hM1)))
theorem k_f_X12_isIn {r0 : Option Nat} {i1 : Int32} {M : Mem}  (hM : G0 M0 M) : K0 M0 (f_X12_isIn r0 i1 M) := by
  unfold f_X12_isIn
  exact (k_cA (k_f_X12_isMove  hM) fun _ M1 hM1 => (k_if (k_tv (k_some hM1)) (k_gI fun _ => (k_if (k_tv (k_some hM1)) (k_tv (k_some hM1))))))
theorem k_f_X12_isOffer {r0 : Option Nat} {i1 : Int32} {i2 : Int32} {i3 : Int32} {M : Mem}  (hM : G0 M0 M) : K0 M0 (f_X12_isOffer r0 i1 i2 i3 M) := by
  unfold f_X12_isOffer
  exact (k_if (k_tv (k_some hM)) (k_if (k_tv (k_some hM)) (k_cR (k_cA (k_f_X12_isIn  hM) fun _ M1 hM1 => (k_if (k_tv (k_some hM1)) (k_cR (k_cA (k_f_X12_isIn  hM1) fun _ M2 hM2 => (k_if (k_tv (k_some hM2)) (k_cR (k_cA (k_f_X12_isIn  hM2) fun _ M3 hM3 => (k_if (k_tv (k_some hM3)) (k_tv (k_some hM3)))))))))))))
theorem k_f_X12_isOneOf {i0 : Int32} {i1 : Int32} {i2 : Int32} {i3 : Int32} {M : Mem}  (hM : G0 M0 M) : K0 M0 (f_X12_isOneOf i0 i1 i2 i3 M) := by
  unfold f_X12_isOneOf
  exact (k_if (k_tv (k_some hM)) (k_if (k_tv (k_some hM)) (k_if (k_tv (k_some hM)) (k_tv (k_some hM)))))
theorem k_f_X12_canPly {r0 : Option Nat} {i1 : Int32} {i2 : Int32} {i3 : Int32} {i4 : Int32} {i5 : Int32} {M : Mem}  (hM : G0 M0 M) : K0 M0 (f_X12_canPly r0 i1 i2 i3 i4 i5 M) := by
  unfold f_X12_canPly
  exact (k_cR (k_cA (k_f_X12_isOffer  hM) fun _ M1 hM1 => (k_if (k_tv (k_some hM1)) (k_cA (k_f_X12_isOneOf  hM1) fun _ M2 hM2 => (k_if (k_tv (k_some hM2)) (k_cA (k_f_X12_isOneOf  hM2) fun _ M3 hM3 => (k_if (k_tv (k_some hM3)) (k_if (k_tv (k_some hM3)) (k_tv (k_some hM3))))))))))
theorem k_b_X12_heapCode_4 {q4 : Option Nat → Int32 → Int32 → Mem → Option (Int32 × Mem)} {r0 : Option Nat} {i1 : Int32} {i2 : Int32} {M : Mem} (hq4 : ∀ (x0 : Option Nat) (x1 : Int32) (x2 : Int32) (x3 : Mem), G0 M0 x3 → K0 M0 (q4 x0 x1 x2 x3)) (hM : G0 M0 M) : K0 M0 (b_X12_heapCode_4 q4 r0 i1 i2 M) := by
  unfold b_X12_heapCode_4
  exact (k_if (k_some hM) (k_gR fun _ => (k_aI fun _ => (hq4 _ _ _ _ hM))))
theorem k_f_X12_heapCode_4   : ∀ (n : Nat) (x0 : Option Nat) (x1 : Int32) (x2 : Int32) (x3 : Mem), G0 M0 x3 → K0 M0 (f_X12_heapCode_4  n x0 x1 x2 x3)
  | 0 => fun _ _ _ _ _ => k_none
  | n + 1 => fun _ _ _ _ h => k_b_X12_heapCode_4  (k_f_X12_heapCode_4  n) h
theorem k_f_X12_heapCode {r0 : Option Nat} {M : Mem}  (hM : G0 M0 M) : K0 M0 (f_X12_heapCode r0 M) := by
  unfold f_X12_heapCode
  exact (k_f_X12_heapCode_4  _ _ _ _ _ hM)
theorem k_f_X12_beside_58 {r0 : Option Nat} {i3 : Int32} {si0 : Int32} {si1 : Int32} {M : Mem}  (hM : G0 M0 M) : K0 M0 (f_X12_beside_58 r0 i3 si0 si1 M) := by
  unfold f_X12_beside_58
  exact (k_gI fun _ => (k_cA (k_f_X12_in  hM) fun _ M1 hM1 => (k_if (k_some hM1) (k_gI fun _ => (k_cA (k_f_X12_in  hM1) fun _ M2 hM2 => (k_if (k_some hM2) (k_gI fun _ => (k_some hM2))))))))
theorem k_f_X12_beside_32 {r0 : Option Nat} {i1 : Int32} {i2 : Int32} {si0 : Int32} {si1 : Int32} {M : Mem}  (hM : G0 M0 M) : K0 M0 (f_X12_beside_32 r0 i1 i2 si0 si1 M) := by
  unfold f_X12_beside_32
  exact (k_gI fun _ => (k_nzI (k_if (k_f_X12_beside_58  hM) (k_if (k_f_X12_beside_58  hM) (k_f_X12_beside_58  hM)))))
theorem k_f_X12_beside {r0 : Option Nat} {i1 : Int32} {i2 : Int32} {M : Mem}  (hM : G0 M0 M) : K0 M0 (f_X12_beside r0 i1 i2 M) := by
  unfold f_X12_beside
  exact (k_if (k_some hM) (k_gI fun _ => (k_nzI (k_if (k_f_X12_beside_32  hM) (k_if (k_f_X12_beside_32  hM) (k_f_X12_beside_32  hM))))))
end K02
