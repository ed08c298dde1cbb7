/-! ===== the reference: codes of states, their table ===== -/
theorem lN_i64 (a : Nat) : lN a = i64 (a : Int) := Int64.ofInt_eq_ofNat.symm
theorem i64_tdiv {x y : Int} (hx : bg x) (hy : bg y) : i64 x / i64 y = i64 (x.tdiv y) := by
  have e := Int64.ofInt_tdiv (a := x) (b := y) (by have := hx.1; show (-9223372036854775808 : Int) ≤ x; omega) (by have := hx.2; show x ≤ (9223372036854775807 : Int); omega) (by have := hy.1; show (-9223372036854775808 : Int) ≤ y; omega) (by have := hy.2; show y ≤ (9223372036854775807 : Int); omega)
  exact e.symm
theorem lN_div {a b : Nat} (ha : a < 2 ^ 63) (hb : b < 2 ^ 63) : lN a / lN b = lN (a / b) := by
  rw [lN_i64, lN_i64, i64_tdiv ⟨by omega, by omega⟩ ⟨by omega, by omega⟩, lN_i64]
  congr 1
theorem lN_rem {a b : Nat} (ha : a < 2 ^ 63) (hb : b < 2 ^ 63) : lN a - lN (a / b) * lN b = lN (a % b) := by
  rw [lN_i64, lN_i64, lN_i64, i64_mul, i64_sub, lN_i64]
  congr 1
  have h := Nat.div_add_mod a b
  have : ((a / b * b : Nat) : Int) = ((a / b : Nat) : Int) * (b : Int) := Int.natCast_mul _ _
  have h2 : b * (a / b) = a / b * b := Nat.mul_comm _ _
  omega
def cdN (w h : Nat) (π : Pos) : Nat := bcN w h π * 65536 + hcN π
theorem cdN_lt {w h : Nat} {π : Pos} (hd : okD w h) (ok : okP π) : cdN w h π < 2 ^ 60 := by
  have h1 := bcN_lt hd ok
  have h2 := hcN_lt ok
  unfold cdN
  omega
theorem okN.eqC {w h : Nat} {π π' : Pos} (ok : okN w h π) (ok' : okN w h π') (e : cdN w h π = cdN w h π') : π = π' := by
  have h1 := hcN_lt ok.1
  have h2 := hcN_lt ok'.1
  unfold cdN at e
  exact ok.ext ok' ((ok.eqB ok').mp (by omega)) ((ok.eqH ok').mp (by omega))
section MSTATES
variable {w h L nt : Nat} {τ : Nat → Txt} {π : Pos} {M : Mem}
theorem y_codeOf (hb : Bs w h L nt τ M) (hM : MPos π M) (ok : okP π) : f_X12_codeOf (some 230) M = some (lN (cdN w h π), M) := by
  have h1 := bcN_lt hb.1 ok
  have h2 := hcN_lt ok
  unfold f_X12_codeOf
  rw [cR_t (ly_t230 hb.lay), y_bcode hb hM ok, cA_s, cR_t (ly_t230 hb.lay), y_hcode hb hM, cA_s, lN_nI (by omega), show (65536 : Int64) = lN 65536 from rfl]
  rw [show lN (bcN w h π) * lN 65536 + lN (hcN π) = lN (cdN w h π) from by
    rw [lN_i64, lN_i64, lN_i64, i64_mul, i64_add, lN_i64]
    congr 1]
theorem y_ls44 {M0 : Mem} (ok : okP π) : ∀ (k f : Nat) (M : Mem), k ≤ w * h → k < f → Bs w h L nt τ M → (∀ p, k ≤ p → p < 12 → mI M 254 p = nI (π.1 p)) → (∀ m, m < 8 → mI M 255 m = nI (π.2.1 m)) → Fx pA pF M0 M → ∃ M', f_X12_laysState_44 f (some 230) (lN (bc9 π.1 π.2.2 k)) (i32 ((k : Int) - 1)) M = some ((), M') ∧ Fx pA pF M0 M' ∧ MPos π M'
  | k, 0, M => fun _ z => absurd z (by omega)
  | 0, f + 1, M => by
    intro _ _ hb h4 h5 fr
    have ht := ok.2.2.2
    rw [u_X12_laysState_44]
    unfold b_X12_laysState_44
    rw [if_pos (by decide), pI_t (ly_t230 hb.lay), lN_i]
    refine ⟨_, rfl, fr.I (Or.inr (by decide)), fun p hp => ?_, fun m hm => ?_, ?_⟩
    · rw [mI_na (by decide)]; exact h4 p (by omega) hp
    · rw [mI_na (by decide)]; exact h5 m hm
    · rw [mI_e]; rfl
  | k + 1, f + 1, M => by
    intro hk hf hb h4 h5 fr
    have hl := hb.lay
    have hle := hb.1.le
    have k9 := ok.1 k
    have hlt := bc9_lt (c := π.1) ok.2.2.2 ok.1 (k + 1)
    have hpw : 9 ^ (k + 1) ≤ 9 ^ 12 := Nat.pow_le_pow_right (by decide) (by omega)
    rw [nine12] at hpw
    have eB : bc9 π.1 π.2.2 (k + 1) = 9 * bc9 π.1 π.2.2 k + π.1 k := rfl
    have ei : i32 (((k + 1 : Nat) : Int) - 1) = nI k := by rw [n_i32]; congr 1; omega
    have n9 : ∀ {X : Option (Unit × Mem)}, nzL (9 : Int64) X = X := by intro X; unfold nzL; rw [if_neg (by decide)]
    have d1 : lN (bc9 π.1 π.2.2 (k + 1)) / (9 : Int64) = lN (bc9 π.1 π.2.2 k) := by rw [show (9 : Int64) = lN 9 from rfl, lN_div (by omega) (by decide)]; congr 1; omega
    have d2 : (lN (bc9 π.1 π.2.2 (k + 1)) - lN (bc9 π.1 π.2.2 k) * (9 : Int64)).toInt32 = nI (π.1 k) := by
      have := lN_rem (a := bc9 π.1 π.2.2 (k + 1)) (b := 9) (by omega) (by decide)
      rw [show bc9 π.1 π.2.2 (k + 1) / 9 = bc9 π.1 π.2.2 k by omega] at this
      rw [show (9 : Int64) = lN 9 from rfl, this, lN_i, show bc9 π.1 π.2.2 (k + 1) % 9 = π.1 k by omega]
    have f1 : Fx pA pF M (sI M 254 k (nI (π.1 k))) := Fx.wI (Or.inl (by decide))
    obtain ⟨M', z1, z2, z3⟩ := y_ls44 ok k f (sI M 254 k (nI (π.1 k))) (by omega) (by omega) (hb.fx f1 (by decide) (by decide)) (fun p h1 h2 => by
      by_cases e : p = k
      · subst e; rw [mI_e]
      · rw [mI_nk e]; exact h4 p (by omega) h2) (fun m hm => by rw [mI_na (by decide)]; exact h5 m hm) (fr.tr f1)
    refine ⟨M', ?_, z2, z3⟩
    rw [u_X12_laysState_44]
    unfold b_X12_laysState_44
    rw [ei, if_neg (nI_pos (by omega)), gR_t (ly_t230 hl), ly_r230_43 hl, n9, d1, d2, wI_t (ly_t254 hl) (by omega) (by decide), n9]
    have e2 : nI k + (-1 : Int32) = i32 ((k : Int) - 1) := by rw [n_i32, show (-1 : Int32) = i32 (-1) by decide, i32_add]; congr 1
    rw [e2]
    exact z1
theorem y_ls6 {M0 : Mem} {π0 : Pos} (ok : okN w h π) : ∀ (k f : Nat) (M : Mem), k ≤ 8 → k < f → Bs w h L nt τ M → (∀ p, w * h ≤ p → p < 12 → mI M 254 p = nI 0) → (∀ m, k ≤ m → m < 8 → mI M 255 m = nI (π.2.1 m)) → Fx pA pF M0 M → ∃ M', f_X12_laysState_6 f (some 230) (lN (bcN w h π * 4 ^ k + hc4 π.2.1 k)) (i32 ((k : Int) - 1)) M = some ((), M') ∧ Fx pA pF M0 M' ∧ MPos π M'
  | k, 0, M => fun _ z => absurd z (by omega)
  | 0, f + 1, M => by
    intro _ _ hb h4 h5 fr
    have hle := hb.1.le
    rw [u_X12_laysState_6]
    unfold b_X12_laysState_6
    rw [if_pos (by decide), gI_t (ly_t230 hb.lay), hb.dim.2.2.2.2.2.2.1, show nI (w * h) - (1 : Int32) = i32 (((w * h : Nat) : Int) - 1) by rw [n_i32, show (1 : Int32) = i32 1 by decide, i32_sub], show bcN w h π * 4 ^ 0 + hc4 π.2.1 0 = bc9 π.1 π.2.2 (w * h) by rw [Nat.pow_zero, Nat.mul_one]; rfl]
    exact y_ls44 ok.1 (w * h) FU M (Nat.le_refl _) (by unfold FU; omega) hb (fun p h1 h2 => by rw [ok.2.1 p h1]; exact h4 p h1 h2) (fun m hm => h5 m (by omega) hm) fr
  | k + 1, f + 1, M => by
    intro hk hf hb h4 h5 fr
    have hl := hb.lay
    have c4 := ok.1.2.2.1 k
    have h1 := bcN_lt hb.1 ok.1
    have h2 := hc4_lt ok.1.2.2.1 (k + 1)
    have hpw : 4 ^ (k + 1) ≤ 4 ^ 8 := Nat.pow_le_pow_right (by decide) hk
    have h48 : (4 : Nat) ^ 8 = 65536 := by decide
    have hmul : bcN w h π * 4 ^ (k + 1) ≤ 564859072962 * 65536 := Nat.mul_le_mul (by omega) (by omega)
    have eR : bcN w h π * 4 ^ (k + 1) + hc4 π.2.1 (k + 1) = 4 * (bcN w h π * 4 ^ k + hc4 π.2.1 k) + π.2.1 k := by
      have e1 : hc4 π.2.1 (k + 1) = 4 * hc4 π.2.1 k + π.2.1 k := rfl
      have e2 : bcN w h π * 4 ^ (k + 1) = 4 * (bcN w h π * 4 ^ k) := by rw [Nat.pow_succ]; rw [← Nat.mul_assoc]; exact Nat.mul_comm _ _
      omega
    have ei : i32 (((k + 1 : Nat) : Int) - 1) = nI k := by rw [n_i32]; congr 1; omega
    have n4 : ∀ {X : Option (Unit × Mem)}, nzL (4 : Int64) X = X := by intro X; unfold nzL; rw [if_neg (by decide)]
    generalize hR1 : bcN w h π * 4 ^ (k + 1) + hc4 π.2.1 (k + 1) = R1 at *
    generalize hR0 : bcN w h π * 4 ^ k + hc4 π.2.1 k = R0 at *
    have d1 : lN R1 / (4 : Int64) = lN R0 := by rw [show (4 : Int64) = lN 4 from rfl, lN_div (by omega) (by decide)]; congr 1; omega
    have d2 : (lN R1 - lN R0 * (4 : Int64)).toInt32 = nI (π.2.1 k) := by
      have := lN_rem (a := R1) (b := 4) (by omega) (by decide)
      rw [show R1 / 4 = R0 by omega] at this
      rw [show (4 : Int64) = lN 4 from rfl, this, lN_i, show R1 % 4 = π.2.1 k by omega]
    have f1 : Fx pA pF M (sI M 255 k (nI (π.2.1 k))) := Fx.wI (Or.inl (by decide))
    obtain ⟨M', z1, z2, z3⟩ := y_ls6 (π0 := π0) ok k f (sI M 255 k (nI (π.2.1 k))) (by omega) (by omega) (hb.fx f1 (by decide) (by decide)) (fun p h1 h2 => by rw [mI_na (by decide)]; exact h4 p h1 h2) (fun m h1 h2 => by
      by_cases e : m = k
      · subst e; rw [mI_e]
      · rw [mI_nk e]; exact h5 m (by omega) h2) (fr.tr f1)
    refine ⟨M', ?_, z2, z3⟩
    rw [u_X12_laysState_6]
    unfold b_X12_laysState_6
    rw [ei, if_neg (nI_pos (by omega)), gR_t (ly_t230 hl), ly_r230_44 hl, n4, d1, d2, wI_t (ly_t255 hl) (by omega) (by decide), n4]
    have e2 : nI k + (-1 : Int32) = i32 ((k : Int) - 1) := by rw [n_i32, show (-1 : Int32) = i32 (-1) by decide, i32_add]; congr 1
    rw [e2]
    rw [hR0] at z1
    exact z1
theorem y_laysState {π0 : Pos} (hb : Bs w h L nt τ M) (hM : MPos π0 M) (ok0 : okN w h π0) (ok : okN w h π) : ∃ M', f_X12_laysState (some 230) (lN (cdN w h π)) M = some ((), M') ∧ Fx pA pF M M' ∧ MPos π M' := by
  have := y_ls6 (π0 := π0) ok 8 FU M (Nat.le_refl _) (by decide) hb (fun p h1 h2 => by rw [hM.1 p h2, ok0.2.1 p h1]) (fun m h1 h2 => absurd h2 (by omega)) Fx.rf
  exact this
end MSTATES
