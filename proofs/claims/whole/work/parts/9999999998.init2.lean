/-! ===== constructors of the class, piece by piece ===== -/
section INIT2
variable {pl L z a j c r : Nat} {tR : List (Nat × Nat × Option Nat)} {tI : List (Nat × Nat × Int32)} {B M : Mem} {P : Unit → Mem → Prop}
theorem x_i7 (h : St pl L (r + 1) tR tI B M) (h8 : 8 ≤ r) (t0 : TYF pl L r = (1, 7)) (t1 : TYF pl L (r + 1) = (1, 4)) (t2 : TYF pl L (r + 2) = (2, 2)) (t3 : TYF pl L (r + 3) = (2, 200)) : FQ (f_X7_init (some r) M) (fun _ M' => St pl L (r + 4) ((r, 2, some (r + 3)) :: (r, 1, some (r + 2)) :: (r, 0, some (r + 1)) :: tR) ((r + 2, 1, -1) :: (r + 2, 0, -1) :: (r, 5, -1) :: (r, 4, 0) :: (r, 3, 0) :: (r + 1, 2, 0) :: (r + 1, 1, 0) :: tI) B M') := by
  unfold f_X7_init
  refine i_cN (i_nW h t1 (by omega) fun M1 h1 => i_cN (i_cA (x_i4 h1 t1 (by omega) (by omega)) fun M2 h2 => ?_))
  refine i_pR h2 t0 h8 (by omega) fun M3 h3 => ?_
  refine i_nA (n := 2) h3 rfl (by decide) (by decide) t2 (by omega) fun M4 h4 => ?_
  refine i_pR h4 t0 h8 (by omega) fun M5 h5 => ?_
  refine i_nA (n := 200) h5 rfl (by decide) (by decide) t3 (by omega) fun M6 h6 => ?_
  refine i_pR h6 t0 h8 (by omega) fun M7 h7 => ?_
  refine i_pI h7 t0 h8 (by omega) fun M8 h8' => ?_
  refine i_pI h8' t0 h8 (by omega) fun M9 h9 => ?_
  refine i_pI h9 t0 h8 (by omega) fun M10 h10 => ?_
  refine i_gR (v := some (r + 2)) h10 t0 h8 (by omega) (by simp [lkp]) ?_
  refine i_wI (m := 0) h10 t2 rfl (by decide) (by decide) (by omega) (by omega) fun M11 h11 => ?_
  refine i_gR (v := some (r + 2)) h11 t0 h8 (by omega) (by simp [lkp]) ?_
  refine i_wI (m := 1) h11 t2 rfl (by decide) (by decide) (by omega) (by omega) fun M12 h12 => ?_
  exact i_end h12
/-- the clauses of a text's place -/
def c6R (r : Nat) : Nat → Nat → List (Nat × Nat × Option Nat) → List (Nat × Nat × Option Nat)
  | 0, _, t => t
  | k + 1, i, t => c6R r k (i + 1) ((r + 1, i, some (r + 5 + i)) :: t)
def c6I (r : Nat) : Nat → Nat → List (Nat × Nat × Int32) → List (Nat × Nat × Int32)
  | 0, _, t => (r, 5, 0) :: (r, 4, 0) :: t
  | k + 1, i, t => c6I r k (i + 1) ((r + 5 + i, 0, nI i) :: t)
theorem x_i6l (h8 : 8 ≤ r) (t0 : TYF pl L r = (1, 6)) (t1 : TYF pl L (r + 1) = (6, 20)) (tc : ∀ i, i < 20 → TYF pl L (r + 5 + i) = (1, 1)) : ∀ (k f i : Nat) (tR : List (Nat × Nat × Option Nat)) (tI : List (Nat × Nat × Int32)) (M : Mem), i + k = 20 → k < f → St pl L (r + 5 + i) tR tI B M → lkp tR r 0 = some (some (r + 1)) → FQ (f_X6_init_41 f (some r) (nI i) M) (fun _ M' => St pl L (r + 25) (c6R r k i tR) (c6I r k i tI) B M')
  | k, 0, i, tR, tI, M => fun _ z => absurd z (by omega)
  | 0, f + 1, i, tR, tI, M => by
    intro hi _ h hk
    obtain rfl : i = 20 := by omega
    rw [show f_X6_init_41 (f + 1) = b_X6_init_41 (f_X6_init_41 f) from rfl]
    unfold b_X6_init_41
    rw [if_pos (show (20 : Int32) ≤ nI 20 from Int32.le_refl _)]
    exact i_pI h t0 h8 (by omega) fun M1 h1 => i_pI h1 t0 h8 (by omega) fun M2 h2 => i_end h2
  | k + 1, f + 1, i, tR, tI, M => by
    intro hi hf h hk
    rw [show f_X6_init_41 (f + 1) = b_X6_init_41 (f_X6_init_41 f) from rfl]
    unfold b_X6_init_41
    rw [if_neg (show ¬ (20 : Int32) ≤ nI i from nI_ge (b := 20) (by omega) (by decide))]
    refine i_gR (v := some (r + 1)) h t0 h8 (by omega) (by rw [hk]; rfl) ?_
    refine i_nW h (tc i (by omega)) (by omega) fun M1 h1 => i_cN (i_cA (x_i1 h1 (tc i (by omega)) (by omega) (by omega)) fun M2 h2 => ?_)
    refine i_wR (m := i) h2 t1 rfl (by omega) (by decide) (by omega) (by omega) (by omega) (tc i (by omega)) fun M3 h3 => ?_
    rw [nI_1]
    exact x_i6l h8 t0 t1 tc k f (i + 1) _ _ M3 (by omega) (by omega) h3 (by
      show (if r = r + 1 ∧ 0 = i then _ else _) = _
      rw [if_neg (by omega)]
      exact hk)
def x6R (r : Nat) (t : List (Nat × Nat × Option Nat)) : List (Nat × Nat × Option Nat) := c6R r 20 0 ((r, 3, some (r + 4)) :: (r, 2, some (r + 3)) :: (r, 1, some (r + 2)) :: (r, 0, some (r + 1)) :: t)
theorem x_i6 (h : St pl L (r + 1) tR tI B M) (h8 : 8 ≤ r) (t0 : TYF pl L r = (1, 6)) (t1 : TYF pl L (r + 1) = (6, 20)) (t2 : TYF pl L (r + 2) = (6, 8)) (t3 : TYF pl L (r + 3) = (6, 4)) (t4 : TYF pl L (r + 4) = (2, 300)) (tc : ∀ i, i < 20 → TYF pl L (r + 5 + i) = (1, 1)) : FQ (f_X6_init (some r) M) (fun _ M' => St pl L (r + 25) (x6R r tR) (c6I r 20 0 tI) B M') := by
  unfold f_X6_init
  refine i_cN ?_
  refine i_nA (n := 20) h rfl (by decide) (by decide) t1 (by omega) fun M1 h1 => ?_
  refine i_pR h1 t0 h8 (by omega) fun M2 h2 => ?_
  refine i_nA (n := 8) h2 rfl (by decide) (by decide) t2 (by omega) fun M3 h3 => ?_
  refine i_pR h3 t0 h8 (by omega) fun M4 h4 => ?_
  refine i_nA (n := 4) h4 rfl (by decide) (by decide) t3 (by omega) fun M5 h5 => ?_
  refine i_pR h5 t0 h8 (by omega) fun M6 h6 => ?_
  refine i_nA (n := 300) h6 rfl (by decide) (by decide) t4 (by omega) fun M7 h7 => ?_
  refine i_pR h7 t0 h8 (by omega) fun M8 h8' => ?_
  exact x_i6l h8 t0 t1 tc 20 21 0 _ _ M8 (by omega) (by omega) h8' (by simp [lkp])
theorem lkp_c6R {a j : Nat} (ha : a ≠ r + 1) : ∀ (k i : Nat) (t : List (Nat × Nat × Option Nat)), lkp (c6R r k i t) a j = lkp t a j
  | 0, _, _ => rfl
  | k + 1, i, t => by
    show lkp (c6R r k (i + 1) ((r + 1, i, some (r + 5 + i)) :: t)) a j = _
    rw [lkp_c6R ha k (i + 1) _]
    show (if a = r + 1 ∧ j = i then _ else _) = _
    rw [if_neg (fun q => ha q.1)]
theorem lkp_x6R {a j : Nat} {t : List (Nat × Nat × Option Nat)} (ha : a < r) : lkp (x6R r t) a j = lkp t a j := by
  unfold x6R
  rw [lkp_c6R (by omega)]
  simp only [lkp]
  rw [if_neg (by omega), if_neg (by omega), if_neg (by omega), if_neg (by omega)]
theorem x_i5 (h : St pl L (r + 1) tR tI B M) (h8 : 8 ≤ r) (t0 : TYF pl L r = (1, 5)) (t1 : TYF pl L (r + 1) = (2, 300)) : FQ (f_X5_init (some r) M) (fun _ M' => St pl L (r + 2) ((r, 0, some (r + 1)) :: tR) ((r, 3, -1) :: (r, 2, -1) :: (r, 1, 0) :: tI) B M') := by
  unfold f_X5_init
  refine i_cN ?_
  refine i_nA (n := 300) h rfl (by decide) (by decide) t1 (by omega) fun M1 h1 => ?_
  refine i_pR h1 t0 h8 (by omega) fun M2 h2 => ?_
  refine i_pI h2 t0 h8 (by omega) fun M3 h3 => ?_
  refine i_pI h3 t0 h8 (by omega) fun M4 h4 => ?_
  refine i_pI h4 t0 h8 (by omega) fun M5 h5 => ?_
  exact i_end h5
theorem x_i9 (h : St pl L (r + 1) tR tI B M) (h8 : 8 ≤ r) (t0 : TYF pl L r = (1, 9)) (t1 : TYF pl L (r + 1) = (2, 7)) (t2 : TYF pl L (r + 2) = (2, 64)) : FQ (f_X9_init (some r) M) (fun _ M' => St pl L (r + 3) ((r, 1, some (r + 2)) :: (r, 0, some (r + 1)) :: tR) tI B M') := by
  unfold f_X9_init
  refine i_cN ?_
  refine i_nA (n := 7) h rfl (by decide) (by decide) t1 (by omega) fun M1 h1 => ?_
  refine i_pR h1 t0 h8 (by omega) fun M2 h2 => ?_
  refine i_nA (n := 64) h2 rfl (by decide) (by decide) t2 (by omega) fun M3 h3 => ?_
  refine i_pR h3 t0 h8 (by omega) fun M4 h4 => ?_
  exact i_end h4
theorem x_i3 {a1 a2 a3 : Option Nat} (h : St pl L (r + 1) tR tI B M) (h8 : 8 ≤ r) (t0 : TYF pl L r = (1, 3)) (t1 : TYF pl L (r + 1) = (2, 8)) : FQ (f_X3_init (some r) a1 a2 a3 M) (fun _ M' => St pl L (r + 2) ((r, 4, a3) :: (r, 3, a2) :: (r, 2, a1) :: (r, 5, some (r + 1)) :: tR) ((r, 1, 0) :: (r, 0, 0) :: tI) B M') := by
  unfold f_X3_init
  refine i_cN ?_
  refine i_nA (n := 8) h rfl (by decide) (by decide) t1 (by omega) fun M1 h1 => ?_
  refine i_pR h1 t0 h8 (by omega) fun M2 h2 => ?_
  refine i_pR h2 t0 h8 (by omega) fun M3 h3 => ?_
  refine i_pR h3 t0 h8 (by omega) fun M4 h4 => ?_
  refine i_pR h4 t0 h8 (by omega) fun M5 h5 => ?_
  refine i_pI h5 t0 h8 (by omega) fun M6 h6 => ?_
  refine i_pI h6 t0 h8 (by omega) fun M7 h7 => ?_
  exact i_end h7
def x8R (r : Nat) (a1 : Option Nat) (t : List (Nat × Nat × Option Nat)) : List (Nat × Nat × Option Nat) := (r, 11, none) :: (r, 7, a1) :: (r, 10, some (r + 8)) :: (r, 9, some (r + 7)) :: (r, 8, some (r + 6)) :: (r, 6, some (r + 5)) :: (r, 5, some (r + 4)) :: (r, 4, some (r + 3)) :: (r, 1, some (r + 2)) :: (r, 0, some (r + 1)) :: t
def x8I (r : Nat) (t : List (Nat × Nat × Int32)) : List (Nat × Nat × Int32) := (r, 3, 0) :: (r, 2, 0) :: (r + 8, 2, 0) :: (r + 8, 1, 0) :: (r + 7, 2, 0) :: (r + 7, 1, 0) :: (r + 6, 2, 0) :: (r + 6, 1, 0) :: t
theorem x_i8 {a1 : Option Nat} (h : St pl L (r + 1) tR tI B M) (h8 : 8 ≤ r) (t0 : TYF pl L r = (1, 8)) (t1 : TYF pl L (r + 1) = (2, 2000)) (t2 : TYF pl L (r + 2) = (2, 128000)) (t3 : TYF pl L (r + 3) = (3, 2000)) (t4 : TYF pl L (r + 4) = (2, 2000)) (t5 : TYF pl L (r + 5) = (2, 4096)) (t6 : TYF pl L (r + 6) = (1, 4)) (t7 : TYF pl L (r + 7) = (1, 4)) (t8 : TYF pl L (r + 8) = (1, 4)) : FQ (f_X8_init (some r) a1 M) (fun _ M' => St pl L (r + 9) (x8R r a1 tR) (x8I r tI) B M') := by
  unfold f_X8_init
  refine i_cN ?_
  refine i_nA (n := 2000) h rfl (by decide) (by decide) t1 (by omega) fun M1 h1 => ?_
  refine i_pR h1 t0 h8 (by omega) fun M2 h2 => ?_
  refine i_nA (n := 128000) h2 rfl (by decide) (by decide) t2 (by omega) fun M3 h3 => ?_
  refine i_pR h3 t0 h8 (by omega) fun M4 h4 => ?_
  refine i_nA (n := 2000) h4 rfl (by decide) (by decide) t3 (by omega) fun M5 h5 => ?_
  refine i_pR h5 t0 h8 (by omega) fun M6 h6 => ?_
  refine i_nA (n := 2000) h6 rfl (by decide) (by decide) t4 (by omega) fun M7 h7 => ?_
  refine i_pR h7 t0 h8 (by omega) fun M8 h8' => ?_
  refine i_nA (n := 4096) h8' rfl (by decide) (by decide) t5 (by omega) fun M9 h9 => ?_
  refine i_pR h9 t0 h8 (by omega) fun M10 h10 => ?_
  refine i_nW h10 t6 (by omega) fun M11 h11 => i_cN (i_cA (x_i4 h11 t6 (by omega) (by omega)) fun M12 h12 => ?_)
  refine i_pR h12 t0 h8 (by omega) fun M13 h13 => ?_
  refine i_nW h13 t7 (by omega) fun M14 h14 => i_cN (i_cA (x_i4 h14 t7 (by omega) (by omega)) fun M15 h15 => ?_)
  refine i_pR h15 t0 h8 (by omega) fun M16 h16 => ?_
  refine i_nW h16 t8 (by omega) fun M17 h17 => i_cN (i_cA (x_i4 h17 t8 (by omega) (by omega)) fun M18 h18 => ?_)
  refine i_pR h18 t0 h8 (by omega) fun M19 h19 => ?_
  refine i_pR h19 t0 h8 (by omega) fun M20 h20 => ?_
  refine i_pI h20 t0 h8 (by omega) fun M21 h21 => ?_
  rw [tv_0]
  refine i_pI h21 t0 h8 (by omega) fun M22 h22 => ?_
  refine i_pR h22 t0 h8 (by omega) fun M23 h23 => ?_
  exact i_end h23
def x0R (r : Nat) (a1 a2 : Option Nat) (t : List (Nat × Nat × Option Nat)) : List (Nat × Nat × Option Nat) := (r, 3, a2) :: (r, 2, a1) :: (r, 10, some (r + 9)) :: (r, 9, some (r + 8)) :: (r, 8, some (r + 7)) :: (r, 7, some (r + 6)) :: (r, 6, some (r + 5)) :: (r, 5, some (r + 4)) :: (r, 4, some (r + 3)) :: (r, 1, some (r + 2)) :: (r, 0, some (r + 1)) :: t
theorem x_i0 {a1 a2 : Option Nat} (h : St pl L (r + 1) tR tI B M) (h8 : 8 ≤ r) (t0 : TYF pl L r = (1, 0)) (t1 : TYF pl L (r + 1) = (2, 2000)) (t2 : TYF pl L (r + 2) = (2, 2000)) (t3 : TYF pl L (r + 3) = (2, 16000)) (t4 : TYF pl L (r + 4) = (2, 16000)) (t5 : TYF pl L (r + 5) = (2, 2000)) (t6 : TYF pl L (r + 6) = (2, 128000)) (t7 : TYF pl L (r + 7) = (2, 2000)) (t8 : TYF pl L (r + 8) = (2, 2000)) (t9 : TYF pl L (r + 9) = (2, 2000)) : FQ (f_X0_init (some r) a1 a2 M) (fun _ M' => St pl L (r + 10) (x0R r a1 a2 tR) ((r, 12, 0) :: (r, 11, 0) :: tI) B M') := by
  unfold f_X0_init
  refine i_cN ?_
  refine i_nA (n := 2000) h rfl (by decide) (by decide) t1 (by omega) fun M1 h1 => ?_
  refine i_pR h1 t0 h8 (by omega) fun M2 h2 => ?_
  refine i_nA (n := 2000) h2 rfl (by decide) (by decide) t2 (by omega) fun M3 h3 => ?_
  refine i_pR h3 t0 h8 (by omega) fun M4 h4 => ?_
  refine i_nA (n := 16000) h4 rfl (by decide) (by decide) t3 (by omega) fun M5 h5 => ?_
  refine i_pR h5 t0 h8 (by omega) fun M6 h6 => ?_
  refine i_nA (n := 16000) h6 rfl (by decide) (by decide) t4 (by omega) fun M7 h7 => ?_
  refine i_pR h7 t0 h8 (by omega) fun M8 h8' => ?_
  refine i_nA (n := 2000) h8' rfl (by decide) (by decide) t5 (by omega) fun M9 h9 => ?_
  refine i_pR h9 t0 h8 (by omega) fun M10 h10 => ?_
  refine i_nA (n := 128000) h10 rfl (by decide) (by decide) t6 (by omega) fun M11 h11 => ?_
  refine i_pR h11 t0 h8 (by omega) fun M12 h12 => ?_
  refine i_nA (n := 2000) h12 rfl (by decide) (by decide) t7 (by omega) fun M13 h13 => ?_
  refine i_pR h13 t0 h8 (by omega) fun M14 h14 => ?_
  refine i_nA (n := 2000) h14 rfl (by decide) (by decide) t8 (by omega) fun M15 h15 => ?_
  refine i_pR h15 t0 h8 (by omega) fun M16 h16 => ?_
  refine i_nA (n := 2000) h16 rfl (by decide) (by decide) t9 (by omega) fun M17 h17 => ?_
  refine i_pR h17 t0 h8 (by omega) fun M18 h18 => ?_
  refine i_pR h18 t0 h8 (by omega) fun M19 h19 => ?_
  refine i_pR h19 t0 h8 (by omega) fun M20 h20 => ?_
  refine i_pI h20 t0 h8 (by omega) fun M21 h21 => ?_
  refine i_pI h21 t0 h8 (by omega) fun M22 h22 => ?_
  exact i_end h22
end INIT2
