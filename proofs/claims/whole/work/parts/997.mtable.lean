/-! ===== the reference numbers states ===== -/
def mxM (w h : Nat) (π : Pos) : Int64 := (lN (cdN w h π) ^^^ (lN (cdN w h π) >>> ((21 : Int32).toInt64 &&& 63))) * (31 : Int64)
def zM (w h : Nat) (π : Pos) : Int := (mxM w h π).toInt.tmod 8192
def kM (w h : Nat) (π : Pos) : Nat := if 0 ≤ zM w h π then (zM w h π).toNat else (zM w h π + 8192).toNat
theorem zM_bd (w h : Nat) (π : Pos) : -8192 < zM w h π ∧ zM w h π < 8192 := by
  unfold zM
  generalize (mxM w h π).toInt = z
  constructor
  · have := Int.lt_tmod_of_pos z (b := 8192) (by decide)
    omega
  · exact Int.tmod_lt_of_pos z (by decide)
theorem kM_lt (w h : Nat) (π : Pos) : kM w h π < 8192 := by
  have := zM_bd w h π
  unfold kM
  split <;> omega
theorem i64_self (v : Int64) : i64 v.toInt = v := Int64.ofInt_toInt v
theorem kM_r (w h : Nat) (π : Pos) : (mxM w h π - mxM w h π / (8192 : Int64) * (8192 : Int64)).toInt32 = i32 (zM w h π) := by
  have hb := zM_bd w h π
  have hz : bg (mxM w h π).toInt := ⟨(mxM w h π).le_toInt, (mxM w h π).toInt_lt⟩
  have e : mxM w h π - mxM w h π / (8192 : Int64) * (8192 : Int64) = i64 (zM w h π) := by
    unfold zM
    have e1 := i64_self (mxM w h π)
    generalize (mxM w h π).toInt = z at *
    rw [← e1, show (8192 : Int64) = i64 8192 by decide, i64_tdiv hz ⟨by decide, by decide⟩, i64_mul, i64_sub]
    congr 1
    have := Int.tmod_add_mul_tdiv z 8192
    have h2 : (8192 : Int) * z.tdiv 8192 = z.tdiv 8192 * 8192 := Int.mul_comm _ _
    omega
  rw [e, i64_n ⟨by omega, by omega⟩]
def tvM (v : Nat) : Int32 := if v = 0 then m1 else nI (v - 1)
def StsM (w h : Nat) (Q : Nat → Pos) (n : Nat) (t : Nat → Nat) (M : Mem) : Prop := mI M 230 58 = nI n ∧ (∀ i, i < n → mL M 262 i = lN (cdN w h (Q i))) ∧ ∀ a, a < 8192 → mI M 267 a = tvM (t a)
def StmOk (w h : Nat) (Q : Nat → Pos) (n : Nat) (t : Nat → Nat) : Prop := n ≤ 2000 ∧ (∀ i, i < n → okN w h (Q i)) ∧ (∀ i j, i < n → j < n → Q i = Q j → i = j) ∧ Tab 8192 t n (fun i => kM w h (Q i))
theorem StsM.fx {w h : Nat} {Q : Nat → Pos} {n : Nat} {t : Nat → Nat} {M M' : Mem} {A : List Nat} {F : List (Nat × Nat)} (h' : StsM w h Q n t M) (fr : Fx A F M M') (h1 : 230 ∉ A ∧ (230, 58) ∉ F) (h2 : 262 ∉ A ∧ ∀ q ∈ F, q.1 ≠ 262) (h3 : 267 ∉ A ∧ ∀ q ∈ F, q.1 ≠ 267) : StsM w h Q n t M' := by
  unfold StsM at *
  rw [fr.i h1.1 h1.2, fr.lb h2, fr.ib h3]
  exact h'
section MTABLE
variable {w h L nt : Nat} {τ : Nat → Txt} {Q : Nat → Pos} {n : Nat} {t : Nat → Nat} {π : Pos} {M : Mem}
/-- where a state is found, or where it would go -/
def CelR (w h : Nat) (Q : Nat → Pos) (n : Nat) (t : Nat → Nat) (π : Pos) (a : Nat) : Prop := a < 8192 ∧ ((∃ i, i < n ∧ Q i = π ∧ t a = i + 1) ∨ ((∀ i, i < n → Q i ≠ π) ∧ t a = 0 ∧ ∃ d, d < 8192 ∧ a = (kM w h π + d) % 8192 ∧ ∀ j, j < d → t ((kM w h π + j) % 8192) ≠ 0))
theorem y_cell_l (hb : Bs w h L nt τ M) (hs : StsM w h Q n t M) (hok : StmOk w h Q n t) (okp : okN w h π) : ∀ (m f k : Nat), k + m = 8192 → m < f → (∀ j, j < k → t ((kM w h π + j) % 8192) ≠ 0 ∧ Q (t ((kM w h π + j) % 8192) - 1) ≠ π) → (∃ d, k ≤ d ∧ d < 8192 ∧ t ((kM w h π + d) % 8192) = 0) → ∃ a, f_X12_cellOf_30 f (some 230) (lN (cdN w h π)) (nI ((kM w h π + k) % 8192)) M = some (nI a, M) ∧ CelR w h Q n t π a
  | m, 0, k, _, hf => absurd hf (by omega)
  | 0, f + 1, k, hk, _ => by
    rintro - ⟨d, h1, h2, -⟩
    omega
  | m + 1, f + 1, k, hk, hf => by
    rintro hj ⟨d, d1, d2, d3⟩
    have hl := hb.lay
    have hsl : (kM w h π + k) % 8192 < 8192 := Nat.mod_lt _ (by decide)
    obtain ⟨o1, o2, o3, o4⟩ := hok
    have htv := hs.2.2 _ hsl
    have hle := o4.1 _ hsl
    rw [u_X12_cellOf_30]
    unfold b_X12_cellOf_30
    rw [gR_t (ly_t230 hl), ly_r230_64 hl, aI_t (ly_t267 hl) hsl (by decide), htv]
    by_cases hz : t ((kM w h π + k) % 8192) = 0
    · have hne : ∀ i, i < n → Q i ≠ π := fun i hi e => Tab.none o4 hz (i := i) (fun j hjk => ⟨(hj j hjk).1, fun z => (hj j hjk).2 (by rw [z]; exact e)⟩) hi (by show kM w h (Q i) = kM w h π; rw [e])
      refine ⟨(kM w h π + k) % 8192, ?_, hsl, Or.inr ⟨hne, hz, k, by omega, rfl, fun j hjk => (hj j hjk).1⟩⟩
      unfold tvM
      rw [if_pos hz, if_pos (show m1 = -1 from rfl)]
    · have hi : t ((kM w h π + k) % 8192) - 1 < n := by omega
      have v1 := hs.2.1 _ hi
      have okq := o2 _ hi
      have l1 := cdN_lt hb.1 okq.1
      have l2 := cdN_lt hb.1 okp.1
      have etv : tvM (t ((kM w h π + k) % 8192)) = nI (t ((kM w h π + k) % 8192) - 1) := by unfold tvM; rw [if_neg hz]
      rw [etv, if_neg (show ¬ nI _ = -1 from fun q => (nI_nm1 (by omega)).mp q), gR_t (ly_t230 hl), ly_r230_59 hl, gR_t (ly_t230 hl), ly_r230_64 hl, aI_t (ly_t267 hl) hsl (by decide), htv, etv, aL_t (ly_t262 hl) (by omega) (by decide), v1]
      by_cases c1 : cdN w h (Q (t ((kM w h π + k) % 8192) - 1)) = cdN w h π
      · rw [if_pos ((lg_cmp_eq _ _).mpr (by rw [c1]))]
        exact ⟨_, rfl, hsl, Or.inl ⟨_, hi, okq.eqC okp c1, by omega⟩⟩
      · have n8192 : ∀ {X : Option (Int32 × Mem)}, nzI (8192 : Int32) X = X := nz_y (y := 8192) (by decide)
        have em : (nI ((kM w h π + k) % 8192) + (1 : Int32)) - (nI ((kM w h π + k) % 8192) + (1 : Int32)) / (8192 : Int32) * (8192 : Int32) = nI ((kM w h π + (k + 1)) % 8192) := by
          rw [nI_1, show (8192 : Int32) = nI 8192 from rfl, pk_rem (by omega) (by decide) (by decide)]
          congr 1
          omega
        rw [if_neg (fun z => c1 ((lN_eqq (by omega) (by omega)).mp ((lg_cmp_eq _ _).mp z))), n8192, em]
        refine y_cell_l hb hs ⟨o1, o2, o3, o4⟩ okp m f (k + 1) (by omega) (by omega) (fun j hj' => ?_) ⟨d, ?_, d2, d3⟩
        · by_cases e : j = k
          · subst e; exact ⟨hz, fun e => c1 (by rw [e])⟩
          · exact hj j (by omega)
        · rcases Nat.eq_or_lt_of_le d1 with q | q
          · subst q; exact absurd d3 hz
          · omega
theorem y_cellOf (hb : Bs w h L nt τ M) (hs : StsM w h Q n t M) (hok : StmOk w h Q n t) (okp : okN w h π) : ∃ a, f_X12_cellOf (some 230) (lN (cdN w h π)) M = some (nI a, M) ∧ CelR w h Q n t π a := by
  have h1 := kM_lt w h π
  have hz := zM_bd w h π
  obtain ⟨a, z1, z2⟩ := y_cell_l hb hs hok okp 8192 FU 0 (by omega) (by decide) (fun j hj => absurd hj (by omega)) (by
    obtain ⟨d, h1, h2⟩ := hok.2.2.2.free (by have := hok.1; omega) (kM w h π)
    exact ⟨d, by omega, h1, h2⟩)
  rw [Nat.add_zero, Nat.mod_eq_of_lt h1] at z1
  refine ⟨a, ?_, z2⟩
  unfold f_X12_cellOf
  have er := kM_r w h π
  unfold mxM at er
  have n8192 : ∀ {X : Option (Int32 × Mem)}, nzL (8192 : Int64) X = X := by intro X; unfold nzL; rw [if_neg (by decide)]
  rw [n8192, er]
  by_cases h0 : 0 ≤ zM w h π
  · have ek : i32 (zM w h π) = nI (kM w h π) := by unfold kM; rw [if_pos h0, n_i32]; congr 1; omega
    rw [if_pos (by rw [ek]; exact nI_ge0 (by omega)), ek]
    exact z1
  · have ek : i32 (zM w h π) + (8192 : Int32) = nI (kM w h π) := by
      unfold kM
      rw [if_neg h0, n_i32, show (8192 : Int32) = i32 8192 by decide, i32_add]
      congr 1
      omega
    rw [if_neg (fun q => h0 (by rw [i32_0] at q; exact (i32_le vl0.sm ⟨by omega, by omega⟩).mp q)), ek]
    exact z1
end MTABLE
