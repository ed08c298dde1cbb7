/-! ===== constructors: the class whole ===== -/
section INIT5
variable {L w h : Nat} {tR : List (Nat × Nat × Option Nat)} {tI : List (Nat × Nat × Int32)} {B M : Mem} {P : Unit → Mem → Prop}
def x2R (r3 : Option Nat) (t : List (Nat × Nat × Option Nat)) : List (Nat × Nat × Option Nat) := (203, 7, r3) :: (203, 5, some 208) :: (203, 6, some 207) :: (203, 2, some 206) :: (203, 1, some 205) :: (203, 0, some 204) :: t
theorem x_i2 {r3 : Option Nat} (hd : okD w h) (hS : St (w * h) L 204 tR tI B M) : FQ (f_X2_init (some 203) (nI w) (nI h) r3 M) (fun _ M' => St (w * h) L 209 (x2R r3 tR) ((203, 3, 0) :: n2 w h (w * h) 0 ((203, 4, nI (w * h)) :: tI)) B M') := by
  have h12 := hd.le
  unfold f_X2_init
  refine i_cN ?_
  refine i_nA (n := 8) hS rfl (by decide) (by decide) rfl (by decide) fun M1 h1 => ?_
  refine i_pR h1 rfl (by decide) (by decide) fun M2 h2 => ?_
  refine i_nA (n := 8) h2 rfl (by decide) (by decide) rfl (by decide) fun M3 h3 => ?_
  refine i_pR h3 rfl (by decide) (by decide) fun M4 h4 => ?_
  refine i_nA (n := 8) h4 rfl (by decide) (by decide) rfl (by decide) fun M5 h5 => ?_
  refine i_pR h5 rfl (by decide) (by decide) fun M6 h6 => ?_
  refine i_nA (n := 8) h6 rfl (by decide) (by decide) rfl (by decide) fun M7 h7 => ?_
  refine i_pR h7 rfl (by decide) (by decide) fun M8 h8 => ?_
  rw [pk_mul]
  refine i_pI h8 rfl (by decide) (by decide) fun M9 h9 => ?_
  refine i_gI (v := nI (w * h)) h9 rfl (by decide) (by decide) (by simp [lkp]) ?_
  refine i_nA (n := 4 * (w * h)) h9 (by rw [show (4 : Int32) = nI 4 from rfl, pk_mul, Nat.mul_comm]) (by omega) (by omega) rfl (by decide) fun M10 h10 => ?_
  refine i_pR h10 rfl (by decide) (by decide) fun M11 h11 => ?_
  exact x_i2l hd (w * h) FU 0 _ _ M11 (by omega) (by unfold FU; omega) h11 (by simp [lkp]) (by simp [lkp])
/-- the places of six texts -/
def rl6R : Nat → Nat → List (Nat × Nat × Option Nat) → List (Nat × Nat × Option Nat)
  | 0, _, t => t
  | k + 1, i, t => rl6R k (i + 1) ((17, i, some (50 + 25 * i)) :: x6R (50 + 25 * i) t)
def rl6I : Nat → Nat → List (Nat × Nat × Int32) → List (Nat × Nat × Int32)
  | 0, _, t => t
  | k + 1, i, t => rl6I k (i + 1) (c6I (50 + 25 * i) 20 0 t)
theorem lkp_c6I {r a j : Nat} (ha : a < r) : ∀ (k i : Nat) (t : List (Nat × Nat × Int32)), lkp (c6I r k i t) a j = lkp t a j
  | 0, i, t => by
    show (if a = r ∧ j = 5 then _ else if a = r ∧ j = 4 then _ else _) = _
    rw [if_neg (by omega), if_neg (by omega)]
  | k + 1, i, t => by
    show lkp (c6I r k (i + 1) ((r + 5 + i, 0, nI i) :: t)) a j = _
    rw [lkp_c6I ha k (i + 1) _]
    show (if a = r + 5 + i ∧ j = 0 then _ else _) = _
    rw [if_neg (by omega)]
theorem lkp_rl6I {a j : Nat} (ha : a < 50) : ∀ (k i : Nat) (t : List (Nat × Nat × Int32)), lkp (rl6I k i t) a j = lkp t a j
  | 0, i, t => rfl
  | k + 1, i, t => by
    show lkp (rl6I k (i + 1) (c6I (50 + 25 * i) 20 0 t)) a j = _
    rw [lkp_rl6I ha k (i + 1) _, lkp_c6I (by omega)]
theorem x_i6r {pl r : Nat} (hr : isRA r) (hS : St pl L (r + 1) tR tI B M) : FQ (f_X6_init (some r) M) (fun _ M' => St pl L (r + 25) (x6R r tR) (c6I r 20 0 tI) B M') := by
  have ht : TYF pl L r = (1, 6) ∧ TYF pl L (r + 1) = (6, 20) ∧ TYF pl L (r + 2) = (6, 8) ∧ TYF pl L (r + 3) = (6, 4) ∧ TYF pl L (r + 4) = (2, 300) ∧ ∀ i, i < 20 → TYF pl L (r + 5 + i) = (1, 1) := by
    rcases hr with rfl | ⟨t, ht, rfl⟩
    · exact ly_18 pl L
    · exact ly_ty pl L t ht
  obtain ⟨t0, t1, t2, t3, t4, t5⟩ := ht
  exact x_i6 hS (by rcases ra_cases hr with h | ⟨t, ht, h⟩ <;> omega) t0 t1 t2 t3 t4 t5
theorem x_i11l {pl : Nat} : ∀ (k i : Nat) (tR : List (Nat × Nat × Option Nat)) (tI : List (Nat × Nat × Int32)) (M : Mem), i + k = 6 → St pl L (50 + 25 * i) tR tI B M → lkp tR 8 4 = some (some 17) → (∀ M', St pl L 200 (rl6R k i tR) (rl6I k i tI) B M' → FQ (f_X11_init_123 1 (some 8) (nI 6) M') P) → FQ (f_X11_init_123 (k + 1) (some 8) (nI i) M) P
  | 0, i, tR, tI, M => by
    intro hi hS _ K
    obtain rfl : i = 6 := by omega
    exact K M hS
  | k + 1, i, tR, tI, M => by
    intro hi hS hR K
    rw [show f_X11_init_123 (k + 1 + 1) = b_X11_init_123 (f_X11_init_123 (k + 1)) from rfl]
    unfold b_X11_init_123
    rw [if_neg (show ¬ (6 : Int32) ≤ nI i from nI_ge (b := 6) (by omega) (by decide))]
    have hra : isRA (50 + 25 * i) := Or.inr ⟨i, by omega, rfl⟩
    have hty := ly_ty pl L i (by omega)
    refine i_gR (v := some 17) hS rfl (by decide) (by omega) (by rw [hR]; rfl) ?_
    refine i_nW hS hty.1 (by omega) fun M1 h1 => i_cN (i_cA (x_i6r hra h1) fun M2 h2 => ?_)
    refine i_wR (m := i) (n := 6) h2 rfl rfl (by omega) (by decide) (by decide) (by omega) (by omega) hty.1 fun M3 h3 => ?_
    rw [nI_1]
    exact x_i11l k (i + 1) _ _ M3 (by omega) (by rw [show 50 + 25 * (i + 1) = 50 + 25 * i + 25 by omega]; exact h3) (by
      show (if (8 : Nat) = 17 ∧ 4 = i then _ else _) = _
      rw [if_neg (by omega), lkp_x6R (by omega)]
      exact hR) K
def x11R (t : List (Nat × Nat × Option Nat)) : List (Nat × Nat × Option Nat) := (8, 11, some 220) :: x0R 220 (some 211) (some 45) ((8, 10, some 211) :: x8R 211 (some 203) ((8, 9, some 209) :: (209, 4, some 45) :: (209, 3, some 200) :: (209, 2, some 203) :: (209, 5, some 210) :: (8, 8, some 203) :: x2R (some 200) ((200, 1, some 202) :: (200, 0, some 201) :: t)))
def x11I (w h : Nat) (t : List (Nat × Nat × Int32)) : List (Nat × Nat × Int32) := (220, 12, 0) :: (220, 11, 0) :: x8I 211 ((209, 1, 0) :: (209, 0, 0) :: (203, 3, 0) :: n2 w h (w * h) 0 ((203, 4, nI (w * h)) :: t))
theorem x_i11e (hd : okD w h) (hS : St (w * h) L 200 tR tI B M) (hR : lkp tR 8 7 = some (some 45)) (h0 : lkp tI 8 0 = some (nI w)) (h1 : lkp tI 8 1 = some (nI h)) : FQ (f_X11_init_123 1 (some 8) (nI 6) M) (fun _ M' => St (w * h) L 230 (x11R tR) (x11I w h tI) B M') := by
  rw [show f_X11_init_123 1 = b_X11_init_123 (f_X11_init_123 0) from rfl]
  unfold b_X11_init_123
  rw [if_pos (show (6 : Int32) ≤ nI 6 from Int32.le_refl _)]
  refine i_nW hS rfl (by decide) fun M1 h1' => i_cN (i_cA (x_i9 h1' (by decide) rfl rfl rfl) fun M2 h2 => ?_)
  refine i_nW (z := 203) h2 rfl (by decide) fun M3 h3 => ?_
  refine i_gI (v := nI w) h3 rfl (by decide) (by decide) (by rw [h0]; rfl) ?_
  refine i_gI (v := nI h) h3 rfl (by decide) (by decide) (by rw [h1]; rfl) ?_
  refine i_cN (i_cA (x_i2 hd h3) fun M4 h4 => ?_)
  refine i_pR h4 rfl (by decide) (by decide) fun M5 h5 => ?_
  refine i_nW h5 rfl (by decide) fun M6 h6 => ?_
  refine i_gR (v := some 203) h6 rfl (by decide) (by decide) (by simp [lkp]) ?_
  refine i_gR (v := some 45) h6 rfl (by decide) (by decide) (by simp [lkp, x2R, hR]) ?_
  refine i_cN (i_cA (x_i3 (r := 209) h6 (by decide) rfl rfl) fun M7 h7 => ?_)
  refine i_pR h7 rfl (by decide) (by decide) fun M8 h8 => ?_
  refine i_nW (z := 211) h8 rfl (by decide) fun M9 h9 => ?_
  refine i_gR (v := some 203) h9 rfl (by decide) (by decide) (by simp [lkp]) ?_
  refine i_cN (i_cA (x_i8 (r := 211) h9 (by decide) rfl rfl rfl rfl rfl rfl rfl rfl rfl) fun M10 h10 => ?_)
  refine i_pR h10 rfl (by decide) (by decide) fun M11 h11 => ?_
  refine i_nW (z := 220) h11 rfl (by decide) fun M12 h12 => ?_
  refine i_gR (v := some 211) h12 rfl (by decide) (by decide) (by simp [lkp]) ?_
  refine i_gR (v := some 45) h12 rfl (by decide) (by decide) (by simp [lkp, x8R, x2R, hR]) ?_
  refine i_cN (i_cA (x_i0 (r := 220) h12 (by decide) rfl rfl rfl rfl rfl rfl rfl rfl rfl rfl) fun M13 h13 => ?_)
  refine i_pR h13 rfl (by decide) (by decide) fun M14 h14 => ?_
  exact i_end h14
def aR0 : List (Nat × Nat × Option Nat) := (8, 14, some 49) :: (8, 13, some 48) :: (8, 12, some 47) :: (8, 7, some 45) :: (45, 0, some 46) :: (8, 6, some 43) :: (43, 0, some 44) :: (8, 5, some 18) :: x6R 18 ((8, 4, some 17) :: (8, 3, some 13) :: (13, 2, some 16) :: (13, 1, some 15) :: (13, 0, some 14) :: (8, 2, some 9) :: (9, 2, some 12) :: (9, 1, some 11) :: (9, 0, some 10) :: [])
def aI0 (w h : Nat) : List (Nat × Nat × Int32) := (8, 1, nI h) :: (8, 0, nI w) :: (47, 2, 0) :: (47, 1, 0) :: w16 8 0 0 ((43, 3, -1) :: (43, 2, -1) :: (43, 1, 0) :: c6I 18 20 0 ((15, 1, -1) :: (15, 0, -1) :: (13, 5, -1) :: (13, 4, 0) :: (13, 3, 0) :: (14, 2, 0) :: (14, 1, 0) :: (11, 1, -1) :: (11, 0, -1) :: (9, 5, -1) :: (9, 4, 0) :: (9, 3, 0) :: (10, 2, 0) :: (10, 1, 0) :: []))
theorem x_i11 {i1 i2 : Int32} (hd : okD w h) (hS : St (w * h) L 9 [] [] B M) (e1 : (if (2 : Int32) < (if i1 < (4 : Int32) then i1 else (4 : Int32)) then (if i1 < (4 : Int32) then i1 else (4 : Int32)) else (2 : Int32)) = nI w) (e2 : (if (1 : Int32) < (if i2 < (3 : Int32) then i2 else (3 : Int32)) then (if i2 < (3 : Int32) then i2 else (3 : Int32)) else (1 : Int32)) = nI h) : FQ (f_X11_init (some 8) i1 i2 M) (fun _ M' => St (w * h) L 230 (x11R (rl6R 6 0 aR0)) (x11I w h (rl6I 6 0 (aI0 w h))) B M') := by
  unfold f_X11_init
  rw [e1, e2]
  refine i_cN (i_nW hS rfl (by decide) fun M1 h1 => i_cN (i_cA (x_i7 (r := 9) h1 (by decide) rfl rfl rfl rfl) fun M2 h2 => ?_))
  refine i_pR h2 rfl (by decide) (by decide) fun M3 h3 => ?_
  refine i_nW (z := 13) h3 rfl (by decide) fun M4 h4 => i_cN (i_cA (x_i7 (r := 13) h4 (by decide) rfl rfl rfl rfl) fun M5 h5 => ?_)
  refine i_pR h5 rfl (by decide) (by decide) fun M6 h6 => ?_
  refine i_nA (z := 17) (n := 6) h6 rfl (by decide) (by decide) rfl (by decide) fun M7 h7 => ?_
  refine i_pR h7 rfl (by decide) (by decide) fun M8 h8 => ?_
  refine i_nW (z := 18) h8 rfl (by decide) fun M9 h9 => i_cN (i_cA (x_i6r (r := 18) (Or.inl rfl) h9) fun M10 h10 => ?_)
  refine i_pR h10 rfl (by decide) (by decide) fun M11 h11 => ?_
  refine i_nW (z := 43) h11 rfl (by decide) fun M12 h12 => i_cN (i_cA (x_i5 (r := 43) h12 (by decide) rfl rfl) fun M13 h13 => ?_)
  refine i_pR h13 rfl (by decide) (by decide) fun M14 h14 => ?_
  refine i_nW (z := 45) h14 rfl (by decide) fun M15 h15 => i_cN (i_cA (x_i10 h15) fun M16 h16 => ?_)
  refine i_pR h16 rfl (by decide) (by decide) fun M17 h17 => ?_
  refine i_nW (z := 47) h17 rfl (by decide) fun M18 h18 => i_cN (i_cA (x_i4 (a := 47) h18 rfl (by decide) (by decide)) fun M19 h19 => ?_)
  refine i_pR h19 rfl (by decide) (by decide) fun M20 h20 => ?_
  refine i_nA (z := 48) (n := 41) h20 rfl (by decide) (by decide) rfl (by decide) fun M21 h21 => ?_
  refine i_pR h21 rfl (by decide) (by decide) fun M22 h22 => ?_
  refine i_nA (z := 49) (n := 41) h22 rfl (by decide) (by decide) rfl (by decide) fun M23 h23 => ?_
  refine i_pR h23 rfl (by decide) (by decide) fun M24 h24 => ?_
  refine i_pI h24 rfl (by decide) (by decide) fun M25 h25 => ?_
  refine i_pI h25 rfl (by decide) (by decide) fun M26 h26 => ?_
  refine x_i11l 6 0 aR0 (aI0 w h) M26 (by decide) h26 (by decide +kernel) (fun M' hM' => x_i11e hd hM' (by decide +kernel) ?_ ?_)
  · rw [lkp_rl6I (by decide)]; simp [aI0, lkp]
  · rw [lkp_rl6I (by decide)]; simp [aI0, lkp]
end INIT5
