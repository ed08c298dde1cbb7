/-! ===== constructors: the reference whole; measures ===== -/
theorem clW (i : Int32) : ∃ w, 2 ≤ w ∧ w ≤ 4 ∧ (if (2 : Int32) < (if i < (4 : Int32) then i else (4 : Int32)) then (if i < (4 : Int32) then i else (4 : Int32)) else (2 : Int32)) = nI w ∧ ∀ {β : Type} (F : Int32 → β), (if (2 : Int32) ≤ i then (if i ≤ (4 : Int32) then F i else F 4) else F 2) = F (nI w) := by
  have a2 : (2 : Int32).toInt = 2 := rfl
  have a3 : (3 : Int32).toInt = 3 := rfl
  have a4 : (4 : Int32).toInt = 4 := rfl
  by_cases h1 : i.toInt ≤ 2
  · refine ⟨2, by decide, by decide, ?_, fun F => ?_⟩
    · rw [if_pos (show i < 4 by rw [Int32.lt_iff_toInt_lt]; omega), if_neg (show ¬ (2 : Int32) < i by rw [Int32.lt_iff_toInt_lt]; omega)]
      rfl
    · by_cases h2 : (2 : Int32) ≤ i
      · have e : i = 2 := by
          rw [Int32.le_iff_toInt_le] at h2
          exact Int32.toInt_inj.mp (by omega)
        subst e
        rw [if_pos h2, if_pos (by decide)]
        rfl
      · rw [if_neg h2]
        rfl
  · by_cases h3 : i.toInt = 3
    · have e : i = 3 := Int32.toInt_inj.mp (by omega)
      subst e
      exact ⟨3, by decide, by decide, by decide, fun F => by rw [if_pos (by decide), if_pos (by decide)]; rfl⟩
    · refine ⟨4, by decide, by decide, ?_, fun F => ?_⟩
      · rw [if_neg (show ¬ i < 4 by rw [Int32.lt_iff_toInt_lt]; omega), if_pos (by decide)]
        rfl
      · rw [if_pos (show (2 : Int32) ≤ i by rw [Int32.le_iff_toInt_le]; omega)]
        by_cases h2 : i ≤ (4 : Int32)
        · have e : i = 4 := by
            rw [Int32.le_iff_toInt_le] at h2
            exact Int32.toInt_inj.mp (by omega)
          subst e
          rw [if_pos h2]
          rfl
        · rw [if_neg h2]
          rfl
theorem clH (i : Int32) : ∃ h, 1 ≤ h ∧ h ≤ 3 ∧ (if (1 : Int32) < (if i < (3 : Int32) then i else (3 : Int32)) then (if i < (3 : Int32) then i else (3 : Int32)) else (1 : Int32)) = nI h ∧ ∀ {β : Type} (F : Int32 → β), (if (1 : Int32) ≤ i then (if i ≤ (3 : Int32) then F i else F 3) else F 1) = F (nI h) := by
  have a1 : (1 : Int32).toInt = 1 := rfl
  have a2 : (2 : Int32).toInt = 2 := rfl
  have a3 : (3 : Int32).toInt = 3 := rfl
  by_cases h1 : i.toInt ≤ 1
  · refine ⟨1, by decide, by decide, ?_, fun F => ?_⟩
    · rw [if_pos (show i < 3 by rw [Int32.lt_iff_toInt_lt]; omega), if_neg (show ¬ (1 : Int32) < i by rw [Int32.lt_iff_toInt_lt]; omega)]
      rfl
    · by_cases h2 : (1 : Int32) ≤ i
      · have e : i = 1 := by
          rw [Int32.le_iff_toInt_le] at h2
          exact Int32.toInt_inj.mp (by omega)
        subst e
        rw [if_pos h2, if_pos (by decide)]
        rfl
      · rw [if_neg h2]
        rfl
  · by_cases h3 : i.toInt = 2
    · have e : i = 2 := Int32.toInt_inj.mp (by omega)
      subst e
      exact ⟨2, by decide, by decide, by decide, fun F => by rw [if_pos (by decide), if_pos (by decide)]; rfl⟩
    · refine ⟨3, by decide, by decide, ?_, fun F => ?_⟩
      · rw [if_neg (show ¬ i < 3 by rw [Int32.lt_iff_toInt_lt]; omega), if_pos (by decide)]
        rfl
      · rw [if_pos (show (1 : Int32) ≤ i by rw [Int32.le_iff_toInt_le]; omega)]
        by_cases h2 : i ≤ (3 : Int32)
        · have e : i = 3 := by
            rw [Int32.le_iff_toInt_le] at h2
            exact Int32.toInt_inj.mp (by omega)
          subst e
          rw [if_pos h2]
          rfl
        · rw [if_neg h2]
          rfl
def tRY : List (Nat × Nat × Option Nat) := y12R (x11R (rl6R 6 0 aR0))
def tIY (w h : Nat) : List (Nat × Nat × Int32) := (231, 4, -1) :: (231, 3, -1) :: (231, 2, -1) :: (230, 2, nI (w * h)) :: (230, 1, nI h) :: (230, 0, nI w) :: y12I (x11I w h (rl6I 6 0 (aI0 w h)))
section INIT6
variable {L w h : Nat} {tI : List (Nat × Nat × Int32)} {B M : Mem} {P : Unit → Mem → Prop}
theorem y_i384 (hS : St (w * h) L 270 tRY ((230, 0, nI w) :: tI) B M) (K : ∀ M', St (w * h) L 270 tRY ((231, 4, -1) :: (231, 3, -1) :: (231, 2, -1) :: (230, 2, nI (w * h)) :: (230, 1, nI h) :: (230, 0, nI w) :: tI) B M' → FQ (cA (f_X12_copies (some 230) (1 : Int32) M') fun _ M6 => some ((), M6)) P) : FQ (f_X12_init_384 (some 230) (some 230) (nI h) M) P := by
  unfold f_X12_init_384
  refine i_pI hS rfl (by decide) (by decide) fun M1 h1 => ?_
  refine i_gI (v := nI w) h1 rfl (by decide) (by decide) (by simp [lkp]) ?_
  refine i_gI (v := nI h) h1 rfl (by decide) (by decide) (by simp [lkp]) ?_
  rw [pk_mul]
  refine i_pI h1 rfl (by decide) (by decide) fun M2 h2 => ?_
  refine i_gR (v := some 231) h2 rfl (by decide) (by decide) (by decide +kernel) ?_
  refine i_wI (m := 2) (n := 240) h2 rfl rfl (by decide) (by decide) (by decide) (by decide) fun M3 h3 => ?_
  refine i_gR (v := some 231) h3 rfl (by decide) (by decide) (by decide +kernel) ?_
  refine i_wI (m := 3) (n := 240) h3 rfl rfl (by decide) (by decide) (by decide) (by decide) fun M4 h4 => ?_
  refine i_gR (v := some 231) h4 rfl (by decide) (by decide) (by decide +kernel) ?_
  refine i_wI (m := 4) (n := 240) h4 rfl rfl (by decide) (by decide) (by decide) (by decide) fun M5 h5 => ?_
  rw [cR_t (show mT M5 230 = (1, 12) from (h5.ty (by decide)).trans rfl)]
  exact K M5 h5
theorem y_i12 {i1 i2 : Int32} (hS : St (w * h) L 231 (x11R (rl6R 6 0 aR0)) (x11I w h (rl6I 6 0 (aI0 w h))) B M) (e1 : ∀ {β : Type} (F : Int32 → β), (if (2 : Int32) ≤ i1 then (if i1 ≤ (4 : Int32) then F i1 else F 4) else F 2) = F (nI w)) (e2 : ∀ {β : Type} (F : Int32 → β), (if (1 : Int32) ≤ i2 then (if i2 ≤ (3 : Int32) then F i2 else F 3) else F 1) = F (nI h)) (K : ∀ M', St (w * h) L 270 tRY (tIY w h) B M' → FQ (cA (f_X12_copies (some 230) (1 : Int32) M') fun _ M6 => some ((), M6)) P) : FQ (f_X12_init (some 230) i1 i2 M) P := by
  refine y_i12h hS fun M1 h1 => ?_
  rw [e1 (fun v => f_X12_init_361 (some 230) i2 (some 230) v M1)]
  unfold f_X12_init_361
  refine i_pI h1 rfl (by decide) (by decide) fun M2 h2 => ?_
  rw [e2 (fun v => f_X12_init_384 (some 230) (some 230) v M2)]
  exact y_i384 h2 K
end INIT6
