/-! ===== constructors: triples, neighbours ===== -/
def v3 (i2 i3 i4 : Nat) : Int32 := (((1 : Int32) <<< (nI i2 &&& 31)) ||| ((1 : Int32) <<< (nI i3 &&& 31))) ||| ((1 : Int32) <<< (nI i4 &&& 31))
def w37 : Nat → Nat → Nat → Nat → Nat → List (Nat × Nat × Int32) → List (Nat × Nat × Int32)
  | 0, _, _, _, _, t => t
  | k + 1, i1, i2, i3, i4, t => w37 k (i1 + 1) i2 i3 (i4 + 1) ((46, i1, v3 i2 i3 i4) :: t)
def w26 : Nat → Nat → Nat → Nat → List (Nat × Nat × Int32) → List (Nat × Nat × Int32)
  | 0, _, _, _, t => t
  | k + 1, i1, i2, i3, t => w26 k (i1 + (7 - i3)) i2 (i3 + 1) (w37 (7 - i3) i1 i2 i3 (i3 + 1) t)
def e26 : Nat → Nat → Nat → Nat
  | 0, i1, _ => i1
  | k + 1, i1, i3 => e26 k (i1 + (7 - i3)) (i3 + 1)
def w16 : Nat → Nat → Nat → List (Nat × Nat × Int32) → List (Nat × Nat × Int32)
  | 0, _, _, t => t
  | k + 1, i1, i2, t => w16 k (e26 (7 - i2) i1 (i2 + 1)) (i2 + 1) (w26 (7 - i2) i1 i2 (i2 + 1) t)
def e16 : Nat → Nat → Nat → Nat
  | 0, i1, _ => i1
  | k + 1, i1, i2 => e16 k (e26 (7 - i2) i1 (i2 + 1)) (i2 + 1)
theorem e26_le : ∀ (k i1 i3 : Nat), i1 ≤ e26 k i1 i3
  | 0, _, _ => Nat.le_refl _
  | k + 1, i1, i3 => Nat.le_trans (Nat.le_add_right _ _) (e26_le k (i1 + (7 - i3)) (i3 + 1))
theorem e16_le : ∀ (k i1 i2 : Nat), i1 ≤ e16 k i1 i2
  | 0, _, _ => Nat.le_refl _
  | k + 1, i1, i2 => Nat.le_trans (e26_le _ _ _) (e16_le k (e26 (7 - i2) i1 (i2 + 1)) (i2 + 1))
section INIT3
variable {pl L z a j c r : Nat} {tR : List (Nat × Nat × Option Nat)} {B : Mem} {P : Unit → Mem → Prop}
theorem x_i37 {q16 : Option Nat → Int32 → Int32 → Mem → Option (Unit × Mem)} {q26 : Option Nat → Int32 → Int32 → Int32 → Mem → Option (Unit × Mem)} {i2 i3 : Nat} (hz : 46 < z) (hR : lkp tR 45 0 = some (some 46)) : ∀ (k f i1 i4 : Nat) (tI : List (Nat × Nat × Int32)) (M : Mem), i4 + k = 8 → k < f → i1 + k ≤ 56 → St pl L z tR tI B M → (∀ M', St pl L z tR (w37 k i1 i2 i3 i4 tI) B M' → FQ (q26 (some 45) (nI (i1 + k)) (nI i2) (nI (i3 + 1)) M') P) → FQ (f_X10_init_37 q16 q26 f (some 45) (nI i1) (nI i2) (nI i3) (nI i4) M) P
  | k, 0, i1, i4, tI, M => fun _ z => absurd z (by omega)
  | 0, f + 1, i1, i4, tI, M => by
    intro hi _ _ h K
    obtain rfl : i4 = 8 := by omega
    rw [show f_X10_init_37 q16 q26 (f + 1) = b_X10_init_37 q16 q26 (f_X10_init_37 q16 q26 f) from rfl]
    unfold b_X10_init_37
    rw [if_pos (show (8 : Int32) ≤ nI 8 from Int32.le_refl _), nI_1]
    exact K M h
  | k + 1, f + 1, i1, i4, tI, M => by
    intro hi hf h1 h K
    rw [show f_X10_init_37 q16 q26 (f + 1) = b_X10_init_37 q16 q26 (f_X10_init_37 q16 q26 f) from rfl]
    unfold b_X10_init_37
    rw [if_neg (show ¬ (8 : Int32) ≤ nI i4 from nI_ge (b := 8) (by omega) (by decide)), if_neg (show ¬ (56 : Int32) ≤ nI i1 from nI_ge (b := 56) (by omega) (by decide))]
    refine i_gR (v := some 46) h rfl (by decide) (by omega) (by rw [hR]; rfl) ?_
    refine i_wI (m := i1) (n := 56) h rfl rfl (by omega) (by decide) (by decide) hz fun M1 h1' => ?_
    rw [nI_1, nI_1]
    exact x_i37 hz hR k f (i1 + 1) (i4 + 1) _ M1 (by omega) (by omega) (by omega) h1' (fun M' hM' => by
      rw [show i1 + 1 + k = i1 + (k + 1) by omega]
      exact K M' hM')
theorem x_i26 {q16 : Option Nat → Int32 → Int32 → Mem → Option (Unit × Mem)} {i2 : Nat} (hz : 46 < z) (hR : lkp tR 45 0 = some (some 46)) : ∀ (k f i1 i3 : Nat) (tI : List (Nat × Nat × Int32)) (M : Mem), i3 + k = 8 → k < f → e26 k i1 i3 ≤ 56 → St pl L z tR tI B M → (∀ M', St pl L z tR (w26 k i1 i2 i3 tI) B M' → FQ (q16 (some 45) (nI (e26 k i1 i3)) (nI (i2 + 1)) M') P) → FQ (f_X10_init_26 q16 f (some 45) (nI i1) (nI i2) (nI i3) M) P
  | k, 0, i1, i3, tI, M => fun _ z => absurd z (by omega)
  | 0, f + 1, i1, i3, tI, M => by
    intro hi _ _ h K
    obtain rfl : i3 = 8 := by omega
    rw [show f_X10_init_26 q16 (f + 1) = b_X10_init_26 q16 (f_X10_init_26 q16 f) from rfl]
    unfold b_X10_init_26
    rw [if_pos (show (8 : Int32) ≤ nI 8 from Int32.le_refl _), nI_1]
    exact K M h
  | k + 1, f + 1, i1, i3, tI, M => by
    intro hi hf h1 h K
    rw [show f_X10_init_26 q16 (f + 1) = b_X10_init_26 q16 (f_X10_init_26 q16 f) from rfl]
    unfold b_X10_init_26
    rw [if_neg (show ¬ (8 : Int32) ≤ nI i3 from nI_ge (b := 8) (by omega) (by decide)), nI_1]
    have h1 : e26 k (i1 + (7 - i3)) (i3 + 1) ≤ 56 := h1
    have hle := e26_le k (i1 + (7 - i3)) (i3 + 1)
    exact x_i37 hz hR (7 - i3) FU i1 (i3 + 1) tI M (by omega) (by unfold FU; omega) (by omega) h (fun M' hM' => x_i26 hz hR k f (i1 + (7 - i3)) (i3 + 1) _ M' (by omega) (by omega) h1 hM' K)
theorem x_i16 (hz : 46 < z) (hR : lkp tR 45 0 = some (some 46)) : ∀ (k f i1 i2 : Nat) (tI : List (Nat × Nat × Int32)) (M : Mem), i2 + k = 8 → k < f → e16 k i1 i2 ≤ 56 → St pl L z tR tI B M → FQ (f_X10_init_16 f (some 45) (nI i1) (nI i2) M) (fun _ M' => St pl L z tR (w16 k i1 i2 tI) B M')
  | k, 0, i1, i2, tI, M => fun _ z => absurd z (by omega)
  | 0, f + 1, i1, i2, tI, M => by
    intro hi _ _ h
    obtain rfl : i2 = 8 := by omega
    rw [show f_X10_init_16 (f + 1) = b_X10_init_16 (f_X10_init_16 f) from rfl]
    unfold b_X10_init_16
    rw [if_pos (show (8 : Int32) ≤ nI 8 from Int32.le_refl _)]
    exact i_end h
  | k + 1, f + 1, i1, i2, tI, M => by
    intro hi hf h1 h
    rw [show f_X10_init_16 (f + 1) = b_X10_init_16 (f_X10_init_16 f) from rfl]
    unfold b_X10_init_16
    rw [if_neg (show ¬ (8 : Int32) ≤ nI i2 from nI_ge (b := 8) (by omega) (by decide)), nI_1]
    have h1 : e16 k (e26 (7 - i2) i1 (i2 + 1)) (i2 + 1) ≤ 56 := h1
    have hle := e16_le k (e26 (7 - i2) i1 (i2 + 1)) (i2 + 1)
    exact x_i26 hz hR (7 - i2) FU i1 (i2 + 1) tI M (by omega) (by unfold FU; omega) (by omega) h (fun M' hM' => x_i16 hz hR k f _ (i2 + 1) _ M' (by omega) (by omega) h1 hM')
theorem x_i10 {tI : List (Nat × Nat × Int32)} {M : Mem} (h : St pl L 46 tR tI B M) : FQ (f_X10_init (some 45) M) (fun _ M' => St pl L 47 ((45, 0, some 46) :: tR) (w16 8 0 0 tI) B M') := by
  unfold f_X10_init
  refine i_cN ?_
  refine i_nA (n := 56) h rfl (by decide) (by decide) rfl (by decide) fun M1 h1 => ?_
  refine i_pR h1 rfl (by decide) (by decide) fun M2 h2 => ?_
  exact x_i16 (by decide) (by simp [lkp]) 8 FU 0 0 tI M2 (by omega) (by decide) (by decide) h2
/-- the neighbours -/
def n2 (w h : Nat) : Nat → Nat → List (Nat × Nat × Int32) → List (Nat × Nat × Int32)
  | 0, _, t => t
  | k + 1, p, t => n2 w h k (p + 1) ((208, p * 4 + 3, oI (besS w h p 3)) :: (208, p * 4 + 2, oI (besS w h p 2)) :: (208, p * 4 + 1, oI (besS w h p 1)) :: (208, p * 4, oI (besS w h p 0)) :: t)
theorem i4p {p k : Nat} : nI p * (4 : Int32) + nI k = nI (p * 4 + k) := by rw [show (4 : Int32) = nI 4 from rfl, pk_mul, nI_add]
theorem x_i2l {w h : Nat} {r3 : Option Nat} (hd : okD w h) : ∀ (k f p : Nat) (tR : List (Nat × Nat × Option Nat)) (tI : List (Nat × Nat × Int32)) (M : Mem), p + k = w * h → k < f → St (w * h) L 209 tR tI B M → lkp tR 203 5 = some (some 208) → lkp tI 203 4 = some (nI (w * h)) → FQ (f_X2_init_58 f (some 203) (nI w) (nI h) r3 (nI p) M) (fun _ M' => St (w * h) L 209 ((203, 7, r3) :: tR) ((203, 3, 0) :: n2 w h k p tI) B M')
  | k, 0, p, tR, tI, M => fun _ z => absurd z (by omega)
  | 0, f + 1, p, tR, tI, M => by
    intro hp _ hS hR hI
    have h12 := hd.le
    obtain rfl : p = w * h := by omega
    rw [show f_X2_init_58 (f + 1) = b_X2_init_58 (f_X2_init_58 f) from rfl]
    unfold b_X2_init_58
    refine i_gI (v := nI (w * h)) hS rfl (by decide) (by decide) (by rw [hI]; rfl) ?_
    rw [if_pos (Int32.le_refl _)]
    exact i_pR hS rfl (by decide) (by decide) fun M1 h1 => i_pI h1 rfl (by decide) (by decide) fun M2 h2 => i_end h2
  | k + 1, f + 1, p, tR, tI, M => by
    intro hp hf hS hR hI
    have h12 := hd.le
    obtain ⟨d1, d2, d3, d4⟩ := id hd
    have hrow : ∀ {t : List (Nat × Nat × Int32)} {q : Nat} {v : Int32}, lkp ((208, q, v) :: t) 203 4 = lkp t 203 4 := by
      intro t q v
      show (if (203 : Nat) = 208 ∧ 4 = q then _ else _) = _
      rw [if_neg (by omega)]
    have go3 : ∀ (tI : List (Nat × Nat × Int32)) (M : Mem), St (w * h) L 209 tR tI B M → lkp tI 203 4 = some (nI (w * h)) → FQ (f_X2_init_58 f (some 203) (nI w) (nI h) r3 (nI (p + 1)) M) (fun _ M' => St (w * h) L 209 ((203, 7, r3) :: tR) ((203, 3, 0) :: n2 w h k (p + 1) tI) B M') := fun tI M h1 h2 => x_i2l hd k f (p + 1) tR tI M (by omega) (by omega) h1 hR h2
    have ty : TYF (w * h) L 208 = (2, 4 * (w * h)) := rfl
    have g154 : ∀ (tI : List (Nat × Nat × Int32)) (M : Mem), St (w * h) L 209 tR tI B M → lkp tI 203 4 = some (nI (w * h)) → FQ (f_X2_init_154 (f_X2_init_58 f) (some 203) (nI w) (nI h) r3 (nI p) (nI (p % w)) (some 208) (nI (p * 4 + 2)) (oI (besS w h p 2)) M) (fun _ M' => St (w * h) L 209 ((203, 7, r3) :: tR) ((203, 3, 0) :: n2 w h k (p + 1) ((208, p * 4 + 3, oI (besS w h p 3)) :: (208, p * 4 + 2, oI (besS w h p 2)) :: tI)) B M') := fun tI M h1 h2 => by
      unfold f_X2_init_154
      refine i_wI (m := p * 4 + 2) h1 ty rfl (by omega) (by omega) (by decide) (by decide) fun M1 h3 => ?_
      refine i_gR (v := some 208) h3 rfl (by decide) (by decide) (by rw [hR]; rfl) ?_
      by_cases e : p % w = 0
      · rw [if_pos (show nI (p % w) ≤ 0 by rw [e]; decide)]
        refine i_wI (m := p * 4 + 3) h3 ty i4p (by omega) (by omega) (by decide) (by decide) fun M2 h4 => ?_
        rw [nI_1]
        have e3 : oI (besS w h p 3) = (-1 : Int32) := by unfold besS; rw [if_neg (by decide), if_neg (by decide), if_neg (by decide), if_pos e]; rfl
        rw [e3]
        exact go3 _ M2 h4 (by rw [hrow, hrow]; exact h2)
      · have hlt := Nat.mod_lt p (show 0 < w by omega)
        rw [if_neg (show ¬ nI (p % w) ≤ 0 from nI_ge (a := 0) (by omega) (by omega))]
        refine i_wI (m := p * 4 + 3) h3 ty i4p (by omega) (by omega) (by decide) (by decide) fun M2 h4 => ?_
        rw [nI_1]
        have hp1 : 1 ≤ p := by
          rcases Nat.eq_zero_or_pos p with q | q
          · exact absurd (by rw [q]; exact Nat.zero_mod _) e
          · exact q
        have e3 : oI (besS w h p 3) = nI p - (1 : Int32) := by unfold besS; rw [if_neg (by decide), if_neg (by decide), if_neg (by decide), if_neg e, show (1 : Int32) = nI 1 from rfl, pk_sub hp1]; rfl
        rw [e3]
        exact go3 _ M2 h4 (by rw [hrow, hrow]; exact h2)
    have g127 : ∀ (tI : List (Nat × Nat × Int32)) (M : Mem), St (w * h) L 209 tR tI B M → lkp tI 203 4 = some (nI (w * h)) → FQ (f_X2_init_127 (f_X2_init_58 f) (some 203) (nI w) (nI h) r3 (nI p) (nI (p % w)) (nI (p / w)) (some 208) (nI (p * 4 + 1)) (oI (besS w h p 1)) M) (fun _ M' => St (w * h) L 209 ((203, 7, r3) :: tR) ((203, 3, 0) :: n2 w h k (p + 1) ((208, p * 4 + 3, oI (besS w h p 3)) :: (208, p * 4 + 2, oI (besS w h p 2)) :: (208, p * 4 + 1, oI (besS w h p 1)) :: tI)) B M') := fun tI M h1 h2 => by
      have hdiv : p / w ≤ p := Nat.div_le_self p w
      unfold f_X2_init_127
      refine i_wI (m := p * 4 + 1) h1 ty rfl (by omega) (by omega) (by decide) (by decide) fun M1 h3 => ?_
      refine i_gR (v := some 208) h3 rfl (by decide) (by decide) (by rw [hR]; rfl) ?_
      rw [show (2 : Int32) = nI 2 from rfl, i4p, show (-1 : Int32) = m1 from rfl, show (1 : Int32) = nI 1 from rfl, pk_sub d3]
      by_cases e : p / w + 1 < h
      · rw [if_neg (nI_ge (by omega) (by omega)), nI_add]
        have e2 : nI (p + w) = oI (besS w h p 2) := by unfold besS; rw [if_neg (by decide), if_neg (by decide), if_pos rfl, if_pos e]; rfl
        rw [e2]
        exact g154 _ M1 h3 (by rw [hrow]; exact h2)
      · rw [if_pos (nI_le (by omega) (by omega))]
        have e2 : m1 = oI (besS w h p 2) := by unfold besS; rw [if_neg (by decide), if_neg (by decide), if_pos rfl, if_neg e]; rfl
        rw [e2]
        exact g154 _ M1 h3 (by rw [hrow]; exact h2)
    have g100 : ∀ (tI : List (Nat × Nat × Int32)) (M : Mem), St (w * h) L 209 tR tI B M → lkp tI 203 4 = some (nI (w * h)) → FQ (f_X2_init_100 (f_X2_init_58 f) (some 203) (nI w) (nI h) r3 (nI p) (nI (p % w)) (nI (p / w)) (some 208) (nI (p * 4)) (oI (besS w h p 0)) M) (fun _ M' => St (w * h) L 209 ((203, 7, r3) :: tR) ((203, 3, 0) :: n2 w h (k + 1) p tI) B M') := fun tI M h1 h2 => by
      have hlt := Nat.mod_lt p (show 0 < w by omega)
      unfold f_X2_init_100
      refine i_wI (m := p * 4) h1 ty rfl (by omega) (by omega) (by decide) (by decide) fun M1 h3 => ?_
      refine i_gR (v := some 208) h3 rfl (by decide) (by decide) (by rw [hR]; rfl) ?_
      rw [show (-1 : Int32) = m1 from rfl, show (1 : Int32) = nI 1 from rfl, i4p, pk_sub (by omega)]
      by_cases e : p % w + 1 < w
      · rw [if_neg (nI_ge (by omega) (by omega)), nI_add]
        have e2 : nI (p + 1) = oI (besS w h p 1) := by unfold besS; rw [if_neg (by decide), if_pos rfl, if_pos e]; rfl
        rw [e2]
        exact g127 _ M1 h3 (by rw [hrow]; exact h2)
      · rw [if_pos (nI_le (by omega) (by omega))]
        have e2 : m1 = oI (besS w h p 1) := by unfold besS; rw [if_neg (by decide), if_pos rfl, if_neg e]; rfl
        rw [e2]
        exact g127 _ M1 h3 (by rw [hrow]; exact h2)
    rw [show f_X2_init_58 (f + 1) = b_X2_init_58 (f_X2_init_58 f) from rfl]
    unfold b_X2_init_58
    refine i_gI (v := nI (w * h)) hS rfl (by decide) (by decide) (by rw [hI]; rfl) ?_
    rw [if_neg (nI_ge (by omega) (by omega)), nz_y ⟨by omega, by omega⟩, nz_y ⟨by omega, by omega⟩]
    refine i_gR (v := some 208) hS rfl (by decide) (by decide) (by rw [hR]; rfl) ?_
    rw [pk_div (by omega) (by omega) (by omega), nI_remN (by omega) (by omega) (by omega), show nI p * (4 : Int32) = nI (p * 4) by rw [show (4 : Int32) = nI 4 from rfl, pk_mul]]
    have hpw : p / w = 0 ↔ p < w := by rw [Nat.div_eq_zero_iff]; omega
    by_cases e : p < w
    · rw [if_pos (show nI (p / w) ≤ 0 by rw [hpw.mpr e]; decide)]
      have e2 : (-1 : Int32) = oI (besS w h p 0) := by unfold besS; rw [if_pos rfl, if_pos e]; rfl
      rw [e2]
      exact g100 _ M hS hI
    · have hpos : p / w ≠ 0 := fun q => e (hpw.mp q)
      have hdiv : p / w ≤ p := Nat.div_le_self p w
      rw [if_neg (show ¬ nI (p / w) ≤ 0 from nI_ge (a := 0) (Nat.pos_of_ne_zero hpos) (by omega)), pk_sub (by omega)]
      have e2 : nI (p - w) = oI (besS w h p 0) := by unfold besS; rw [if_pos rfl, if_neg e]; rfl
      rw [e2]
      exact g100 _ M hS hI
end INIT3
