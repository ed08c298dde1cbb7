/-! ===== going through straight code (written by wip/gen/mkrun.py) ===== -/
def tN (v : Int32) : Nat := v.toNatClampNeg
def m1 : Int32 := -1
def tcO {β : Type} (T : Nat → Nat × Nat) (a : Nat) (t : Nat × Nat) (X : Option β) : Option β := if T a = t then X else none
def arO {β : Type} (T : Nat → Nat × Nat) (a t : Nat) (v : Int32) (X : Option β) : Option β := if (T a).1 = t ∧ 0 ≤ v ∧ tN v < (T a).2 then X else none
def lnO {β : Type} (T : Nat → Nat × Nat) (a : Nat) (K : Int32 → Option β) : Option β := if 2 ≤ (T a).1 ∧ (T a).1 ≠ 9 ∧ (T a).1 ≤ 10 then K (nI (T a).2) else none
section RUN
variable {β γ : Type} {M : Mem} {a c k : Nat}
theorem e_gI {K : Int32 → Option β} : gI M (some a) c k K = tcO (mT M) a (1, c) (K (mI M a k)) := rfl
theorem e_gL {K : Int64 → Option β} : gL M (some a) c k K = tcO (mT M) a (1, c) (K (mL M a k)) := rfl
theorem e_gR {K : Option Nat → Option β} : gR M (some a) c k K = tcO (mT M) a (1, c) (K (mR M a k)) := rfl
theorem e_pI {v : Int32} {K : Mem → Option β} : pI M (some a) c k v K = tcO (mT M) a (1, c) (K (sI M a k v)) := rfl
theorem e_pL {v : Int64} {K : Mem → Option β} : pL M (some a) c k v K = tcO (mT M) a (1, c) (K (sL M a k v)) := rfl
theorem e_pR {v : Option Nat} {K : Mem → Option β} : pR M (some a) c k v K = tcO (mT M) a (1, c) (K (sR M a k v)) := rfl
theorem e_cR {t : Nat × Nat} {K : Option β} : cR M (some a) t K = tcO (mT M) a t K := rfl
theorem e_aI {t : Nat} {v : Int32} {K : Int32 → Option β} : aI M (some a) t v K = arO (mT M) a t v (K (mI M a (tN v))) := rfl
theorem e_aL {v : Int32} {K : Int64 → Option β} : aL M (some a) v K = arO (mT M) a 3 v (K (mL M a (tN v))) := rfl
theorem e_aR {t : Nat} {v : Int32} {K : Option Nat → Option β} : aR M (some a) t v K = arO (mT M) a t v (K (mR M a (tN v))) := rfl
theorem e_wI {t : Nat} {v u : Int32} {K : Mem → Option β} : wI M (some a) t v u K = arO (mT M) a t v (K (sI M a (tN v) u)) := rfl
theorem e_wL {v : Int32} {u : Int64} {K : Mem → Option β} : wL M (some a) v u K = arO (mT M) a 3 v (K (sL M a (tN v) u)) := rfl
theorem e_aN {K : Int32 → Option β} : aN M (some a) K = lnO (mT M) a K := rfl
theorem t_sI {b j : Nat} {u : Int32} {t : Nat × Nat} {X : Option β} : tcO (mT (sI M b j u)) a t X = tcO (mT M) a t X := rfl
theorem t_sL {b j : Nat} {u : Int64} {t : Nat × Nat} {X : Option β} : tcO (mT (sL M b j u)) a t X = tcO (mT M) a t X := rfl
theorem t_sR {b j : Nat} {u : Option Nat} {t : Nat × Nat} {X : Option β} : tcO (mT (sR M b j u)) a t X = tcO (mT M) a t X := rfl
theorem q_sI {b j t : Nat} {u v : Int32} {X : Option β} : arO (mT (sI M b j u)) a t v X = arO (mT M) a t v X := rfl
theorem q_sL {b j t : Nat} {u : Int64} {v : Int32} {X : Option β} : arO (mT (sL M b j u)) a t v X = arO (mT M) a t v X := rfl
theorem q_sR {b j t : Nat} {u : Option Nat} {v : Int32} {X : Option β} : arO (mT (sR M b j u)) a t v X = arO (mT M) a t v X := rfl
theorem n_sI {b j : Nat} {u : Int32} {K : Int32 → Option β} : lnO (mT (sI M b j u)) a K = lnO (mT M) a K := rfl
theorem n_sL {b j : Nat} {u : Int64} {K : Int32 → Option β} : lnO (mT (sL M b j u)) a K = lnO (mT M) a K := rfl
theorem n_sR {b j : Nat} {u : Option Nat} {K : Int32 → Option β} : lnO (mT (sR M b j u)) a K = lnO (mT M) a K := rfl
theorem tcO_y {t : Nat × Nat} {X : Option β} (h : mT M a = t) : tcO (mT M) a t X = X := by unfold tcO; rw [if_pos h]
theorem arO_y {t n : Nat} {v : Int32} {X : Option β} (h : mT M a = (t, n)) (hv : 0 ≤ v ∧ tN v < n) : arO (mT M) a t v X = X := by unfold arO; rw [h, if_pos ⟨rfl, hv.1, hv.2⟩]
theorem lnO_y {t n : Nat} {K : Int32 → Option β} (h : mT M a = (t, n)) (h2 : 2 ≤ t) (h9 : t ≠ 9) (h10 : t ≤ 10) : lnO (mT M) a K = K (nI n) := by unfold lnO; rw [h]; rw [if_pos ⟨h2, h9, h10⟩]
theorem cA_of {o : Option (β × Mem)} {b : β} {M' : Mem} {K : β → Mem → Option γ} (h : o = some (b, M')) : cA o K = K b M' := by rw [h]; rfl
theorem nz_y {y : Nat} {X : Option β} (h : 0 < y ∧ y < 2 ^ 31) : nzI (nI y) X = X := by unfold nzI; rw [if_neg (nI_ne0 h.1 h.2)]
theorem tv_n0 {X : Option β} : tv (nI 0) X = X := by simp [tv, nI_0]
theorem tv_n1 {X : Option β} : tv (nI 1) X = X := tv_1
theorem nz_4 {X : Option β} : nzI (4 : Int32) X = X := by unfold nzI; rw [if_neg (by decide)]
end RUN
theorem lit (n : Nat) : (no_index (OfNat.ofNat n) : Int32) = nI n := rfl
theorem litm : (-1 : Int32) = m1 := rfl
theorem tN_n {i : Nat} (h : i < 2 ^ 31) : tN (nI i) = i := nI_clamp h
theorem inB_n {i n : Nat} (h : i < 2 ^ 31) : (nI 0 ≤ nI i ∧ i < n) ↔ i < n := ⟨fun q => q.2, fun q => ⟨nI_le (Nat.zero_le _) h, q⟩⟩
theorem nI_nm1 {i : Nat} (h : i < 2 ^ 31) : (nI i = m1) ↔ False := iff_false_intro (fun e => by
  have h2 := nI_toInt h
  rw [e] at h2
  have h3 : m1.toInt = -1 := by decide
  rw [h3] at h2
  omega)
theorem m1_nI {i : Nat} (h : i < 2 ^ 31) : (m1 = nI i) ↔ False := iff_false_intro (fun e => (nI_nm1 h).mp e.symm)
theorem m1_m1 : (m1 = m1) ↔ True := iff_true_intro rfl
theorem m1_toInt : m1.toInt = -1 := by decide
theorem m1_le {i : Nat} (h : i < 2 ^ 31) : (m1 ≤ nI i) ↔ True := iff_true_intro (by rw [Int32.le_iff_toInt_le, nI_toInt h, m1_toInt]; omega)
theorem m1_lt {i : Nat} (h : i < 2 ^ 31) : (m1 < nI i) ↔ True := iff_true_intro (by rw [Int32.lt_iff_toInt_lt, nI_toInt h, m1_toInt]; omega)
theorem le_m1 {i : Nat} (h : i < 2 ^ 31) : (nI i ≤ m1) ↔ False := iff_false_intro (fun q => by rw [Int32.le_iff_toInt_le, nI_toInt h, m1_toInt] at q; omega)
theorem lt_m1 {i : Nat} (h : i < 2 ^ 31) : (nI i < m1) ↔ False := iff_false_intro (fun q => by rw [Int32.lt_iff_toInt_lt, nI_toInt h, m1_toInt] at q; omega)
theorem nI_remN {a d : Nat} (ha : a < 2 ^ 31) (h0 : 0 < d) (hd : d < 2 ^ 31) : nI a - nI (a / d) * nI d = nI (a % d) := by rw [← pk_div ha h0 hd]; exact pk_rem ha h0 hd
theorem nI_remN' {a d : Nat} (ha : a < 2 ^ 31) (h0 : 0 < d) (hd : d < 2 ^ 31) : nI a - nI (a / d * d) = nI (a % d) := by rw [← pk_mul, ← pk_div ha h0 hd]; exact pk_rem ha h0 hd
/-- an answer that may be none -/
def oI (x : Option Nat) : Int32 := match x with
  | none => m1
  | some n => nI n
theorem oI_n : oI none = m1 := rfl
theorem oI_s {n : Nat} : oI (some n) = nI n := rfl
theorem bS_inN {χ : Chi} {n m : Nat} (hn : n ≤ 31) (hm : m < n) : (nI (bS χ n) &&& (nI 1 <<< (nI m &&& nI 31)) = nI 0) ↔ χ m = false := bS_in hn hm
theorem bS_addN {χ : Chi} {n m : Nat} (hn : n ≤ 31) (hm : m < n) : nI (bS χ n) ||| (nI 1 <<< (nI m &&& nI 31)) = nI (bS (fun j => χ j || j == m) n) := bS_addI hn hm
theorem bS_delN {χ : Chi} {n m : Nat} (hn : n ≤ 31) (hm : m < n) : nI (bS χ n) &&& ((nI 1 <<< (nI m &&& nI 31)) ^^^ m1) = nI (bS (fun j => χ j && !(j == m)) n) := bS_delI hn hm
theorem mI_e {M : Mem} {a k : Nat} {v : Int32} : mI (sI M a k v) a k = v := by rw [mI_s]; simp
theorem mI_na {M : Mem} {a k b : Nat} {v : Int32} (h : b ≠ a) : mI (sI M a k v) b = mI M b := up2_n h
theorem mI_nk {M : Mem} {a k b j : Nat} {v : Int32} (h : j ≠ k) : mI (sI M a k v) b j = mI M b j := by rw [mI_s, if_neg (fun q => h q.2)]
theorem mL_e {M : Mem} {a k : Nat} {v : Int64} : mL (sL M a k v) a k = v := by rw [mL_s]; simp
theorem mL_na {M : Mem} {a k b : Nat} {v : Int64} (h : b ≠ a) : mL (sL M a k v) b = mL M b := up2_n h
theorem mL_nk {M : Mem} {a k b j : Nat} {v : Int64} (h : j ≠ k) : mL (sL M a k v) b j = mL M b j := by rw [mL_s, if_neg (fun q => h q.2)]
section ADDR
variable {pl L : Nat} {M : Mem} {β : Type}
theorem T_8 (h : Lay pl L M) {X : Option β} : tcO (mT M) 8 (1, 11) X = X := tcO_y (ly_t8 h)
theorem T_9 (h : Lay pl L M) {X : Option β} : tcO (mT M) 9 (1, 7) X = X := tcO_y (ly_t9 h)
theorem T_10 (h : Lay pl L M) {X : Option β} : tcO (mT M) 10 (1, 4) X = X := tcO_y (ly_t10 h)
theorem A_11 (h : Lay pl L M) {v : Int32} {X : Option β} (hv : 0 ≤ v ∧ tN v < 2) : arO (mT M) 11 2 v X = X := arO_y (ly_t11 h) hv
theorem N_11 (h : Lay pl L M) {K : Int32 → Option β} : lnO (mT M) 11 K = K (nI (2)) := lnO_y (ly_t11 h) (by decide) (by decide) (by decide)
theorem A_12 (h : Lay pl L M) {v : Int32} {X : Option β} (hv : 0 ≤ v ∧ tN v < 200) : arO (mT M) 12 2 v X = X := arO_y (ly_t12 h) hv
theorem N_12 (h : Lay pl L M) {K : Int32 → Option β} : lnO (mT M) 12 K = K (nI (200)) := lnO_y (ly_t12 h) (by decide) (by decide) (by decide)
theorem T_13 (h : Lay pl L M) {X : Option β} : tcO (mT M) 13 (1, 7) X = X := tcO_y (ly_t13 h)
theorem T_14 (h : Lay pl L M) {X : Option β} : tcO (mT M) 14 (1, 4) X = X := tcO_y (ly_t14 h)
theorem A_15 (h : Lay pl L M) {v : Int32} {X : Option β} (hv : 0 ≤ v ∧ tN v < 2) : arO (mT M) 15 2 v X = X := arO_y (ly_t15 h) hv
theorem N_15 (h : Lay pl L M) {K : Int32 → Option β} : lnO (mT M) 15 K = K (nI (2)) := lnO_y (ly_t15 h) (by decide) (by decide) (by decide)
theorem A_16 (h : Lay pl L M) {v : Int32} {X : Option β} (hv : 0 ≤ v ∧ tN v < 200) : arO (mT M) 16 2 v X = X := arO_y (ly_t16 h) hv
theorem N_16 (h : Lay pl L M) {K : Int32 → Option β} : lnO (mT M) 16 K = K (nI (200)) := lnO_y (ly_t16 h) (by decide) (by decide) (by decide)
theorem A_17 (h : Lay pl L M) {v : Int32} {X : Option β} (hv : 0 ≤ v ∧ tN v < 6) : arO (mT M) 17 7 v X = X := arO_y (ly_t17 h) hv
theorem N_17 (h : Lay pl L M) {K : Int32 → Option β} : lnO (mT M) 17 K = K (nI (6)) := lnO_y (ly_t17 h) (by decide) (by decide) (by decide)
theorem T_18 (h : Lay pl L M) {X : Option β} : tcO (mT M) 18 (1, 6) X = X := tcO_y (ly_t18 h)
theorem A_19 (h : Lay pl L M) {v : Int32} {X : Option β} (hv : 0 ≤ v ∧ tN v < 20) : arO (mT M) 19 6 v X = X := arO_y (ly_t19 h) hv
theorem N_19 (h : Lay pl L M) {K : Int32 → Option β} : lnO (mT M) 19 K = K (nI (20)) := lnO_y (ly_t19 h) (by decide) (by decide) (by decide)
theorem A_20 (h : Lay pl L M) {v : Int32} {X : Option β} (hv : 0 ≤ v ∧ tN v < 8) : arO (mT M) 20 6 v X = X := arO_y (ly_t20 h) hv
theorem N_20 (h : Lay pl L M) {K : Int32 → Option β} : lnO (mT M) 20 K = K (nI (8)) := lnO_y (ly_t20 h) (by decide) (by decide) (by decide)
theorem A_21 (h : Lay pl L M) {v : Int32} {X : Option β} (hv : 0 ≤ v ∧ tN v < 4) : arO (mT M) 21 6 v X = X := arO_y (ly_t21 h) hv
theorem N_21 (h : Lay pl L M) {K : Int32 → Option β} : lnO (mT M) 21 K = K (nI (4)) := lnO_y (ly_t21 h) (by decide) (by decide) (by decide)
theorem A_22 (h : Lay pl L M) {v : Int32} {X : Option β} (hv : 0 ≤ v ∧ tN v < 300) : arO (mT M) 22 2 v X = X := arO_y (ly_t22 h) hv
theorem N_22 (h : Lay pl L M) {K : Int32 → Option β} : lnO (mT M) 22 K = K (nI (300)) := lnO_y (ly_t22 h) (by decide) (by decide) (by decide)
theorem T_43 (h : Lay pl L M) {X : Option β} : tcO (mT M) 43 (1, 5) X = X := tcO_y (ly_t43 h)
theorem A_44 (h : Lay pl L M) {v : Int32} {X : Option β} (hv : 0 ≤ v ∧ tN v < 300) : arO (mT M) 44 2 v X = X := arO_y (ly_t44 h) hv
theorem N_44 (h : Lay pl L M) {K : Int32 → Option β} : lnO (mT M) 44 K = K (nI (300)) := lnO_y (ly_t44 h) (by decide) (by decide) (by decide)
theorem T_45 (h : Lay pl L M) {X : Option β} : tcO (mT M) 45 (1, 10) X = X := tcO_y (ly_t45 h)
theorem A_46 (h : Lay pl L M) {v : Int32} {X : Option β} (hv : 0 ≤ v ∧ tN v < 56) : arO (mT M) 46 2 v X = X := arO_y (ly_t46 h) hv
theorem N_46 (h : Lay pl L M) {K : Int32 → Option β} : lnO (mT M) 46 K = K (nI (56)) := lnO_y (ly_t46 h) (by decide) (by decide) (by decide)
theorem T_47 (h : Lay pl L M) {X : Option β} : tcO (mT M) 47 (1, 4) X = X := tcO_y (ly_t47 h)
theorem A_48 (h : Lay pl L M) {v : Int32} {X : Option β} (hv : 0 ≤ v ∧ tN v < 41) : arO (mT M) 48 3 v X = X := arO_y (ly_t48 h) hv
theorem N_48 (h : Lay pl L M) {K : Int32 → Option β} : lnO (mT M) 48 K = K (nI (41)) := lnO_y (ly_t48 h) (by decide) (by decide) (by decide)
theorem A_49 (h : Lay pl L M) {v : Int32} {X : Option β} (hv : 0 ≤ v ∧ tN v < 41) : arO (mT M) 49 2 v X = X := arO_y (ly_t49 h) hv
theorem N_49 (h : Lay pl L M) {K : Int32 → Option β} : lnO (mT M) 49 K = K (nI (41)) := lnO_y (ly_t49 h) (by decide) (by decide) (by decide)
theorem T_200 (h : Lay pl L M) {X : Option β} : tcO (mT M) 200 (1, 9) X = X := tcO_y (ly_t200 h)
theorem A_201 (h : Lay pl L M) {v : Int32} {X : Option β} (hv : 0 ≤ v ∧ tN v < 7) : arO (mT M) 201 2 v X = X := arO_y (ly_t201 h) hv
theorem N_201 (h : Lay pl L M) {K : Int32 → Option β} : lnO (mT M) 201 K = K (nI (7)) := lnO_y (ly_t201 h) (by decide) (by decide) (by decide)
theorem A_202 (h : Lay pl L M) {v : Int32} {X : Option β} (hv : 0 ≤ v ∧ tN v < 64) : arO (mT M) 202 2 v X = X := arO_y (ly_t202 h) hv
theorem N_202 (h : Lay pl L M) {K : Int32 → Option β} : lnO (mT M) 202 K = K (nI (64)) := lnO_y (ly_t202 h) (by decide) (by decide) (by decide)
theorem T_203 (h : Lay pl L M) {X : Option β} : tcO (mT M) 203 (1, 2) X = X := tcO_y (ly_t203 h)
theorem A_204 (h : Lay pl L M) {v : Int32} {X : Option β} (hv : 0 ≤ v ∧ tN v < 8) : arO (mT M) 204 2 v X = X := arO_y (ly_t204 h) hv
theorem N_204 (h : Lay pl L M) {K : Int32 → Option β} : lnO (mT M) 204 K = K (nI (8)) := lnO_y (ly_t204 h) (by decide) (by decide) (by decide)
theorem A_205 (h : Lay pl L M) {v : Int32} {X : Option β} (hv : 0 ≤ v ∧ tN v < 8) : arO (mT M) 205 2 v X = X := arO_y (ly_t205 h) hv
theorem N_205 (h : Lay pl L M) {K : Int32 → Option β} : lnO (mT M) 205 K = K (nI (8)) := lnO_y (ly_t205 h) (by decide) (by decide) (by decide)
theorem A_206 (h : Lay pl L M) {v : Int32} {X : Option β} (hv : 0 ≤ v ∧ tN v < 8) : arO (mT M) 206 2 v X = X := arO_y (ly_t206 h) hv
theorem N_206 (h : Lay pl L M) {K : Int32 → Option β} : lnO (mT M) 206 K = K (nI (8)) := lnO_y (ly_t206 h) (by decide) (by decide) (by decide)
theorem A_207 (h : Lay pl L M) {v : Int32} {X : Option β} (hv : 0 ≤ v ∧ tN v < 8) : arO (mT M) 207 2 v X = X := arO_y (ly_t207 h) hv
theorem N_207 (h : Lay pl L M) {K : Int32 → Option β} : lnO (mT M) 207 K = K (nI (8)) := lnO_y (ly_t207 h) (by decide) (by decide) (by decide)
theorem A_208 (h : Lay pl L M) {v : Int32} {X : Option β} (hv : 0 ≤ v ∧ tN v < 4 * pl) : arO (mT M) 208 2 v X = X := arO_y (ly_t208 h) hv
theorem N_208 (h : Lay pl L M) {K : Int32 → Option β} : lnO (mT M) 208 K = K (nI (4 * pl)) := lnO_y (ly_t208 h) (by decide) (by decide) (by decide)
theorem T_209 (h : Lay pl L M) {X : Option β} : tcO (mT M) 209 (1, 3) X = X := tcO_y (ly_t209 h)
theorem A_210 (h : Lay pl L M) {v : Int32} {X : Option β} (hv : 0 ≤ v ∧ tN v < 8) : arO (mT M) 210 2 v X = X := arO_y (ly_t210 h) hv
theorem N_210 (h : Lay pl L M) {K : Int32 → Option β} : lnO (mT M) 210 K = K (nI (8)) := lnO_y (ly_t210 h) (by decide) (by decide) (by decide)
theorem T_211 (h : Lay pl L M) {X : Option β} : tcO (mT M) 211 (1, 8) X = X := tcO_y (ly_t211 h)
theorem A_212 (h : Lay pl L M) {v : Int32} {X : Option β} (hv : 0 ≤ v ∧ tN v < 2000) : arO (mT M) 212 2 v X = X := arO_y (ly_t212 h) hv
theorem N_212 (h : Lay pl L M) {K : Int32 → Option β} : lnO (mT M) 212 K = K (nI (2000)) := lnO_y (ly_t212 h) (by decide) (by decide) (by decide)
theorem A_213 (h : Lay pl L M) {v : Int32} {X : Option β} (hv : 0 ≤ v ∧ tN v < 128000) : arO (mT M) 213 2 v X = X := arO_y (ly_t213 h) hv
theorem N_213 (h : Lay pl L M) {K : Int32 → Option β} : lnO (mT M) 213 K = K (nI (128000)) := lnO_y (ly_t213 h) (by decide) (by decide) (by decide)
theorem A_214 (h : Lay pl L M) {v : Int32} {X : Option β} (hv : 0 ≤ v ∧ tN v < 2000) : arO (mT M) 214 3 v X = X := arO_y (ly_t214 h) hv
theorem N_214 (h : Lay pl L M) {K : Int32 → Option β} : lnO (mT M) 214 K = K (nI (2000)) := lnO_y (ly_t214 h) (by decide) (by decide) (by decide)
theorem A_215 (h : Lay pl L M) {v : Int32} {X : Option β} (hv : 0 ≤ v ∧ tN v < 2000) : arO (mT M) 215 2 v X = X := arO_y (ly_t215 h) hv
theorem N_215 (h : Lay pl L M) {K : Int32 → Option β} : lnO (mT M) 215 K = K (nI (2000)) := lnO_y (ly_t215 h) (by decide) (by decide) (by decide)
theorem A_216 (h : Lay pl L M) {v : Int32} {X : Option β} (hv : 0 ≤ v ∧ tN v < 4096) : arO (mT M) 216 2 v X = X := arO_y (ly_t216 h) hv
theorem N_216 (h : Lay pl L M) {K : Int32 → Option β} : lnO (mT M) 216 K = K (nI (4096)) := lnO_y (ly_t216 h) (by decide) (by decide) (by decide)
theorem T_217 (h : Lay pl L M) {X : Option β} : tcO (mT M) 217 (1, 4) X = X := tcO_y (ly_t217 h)
theorem T_218 (h : Lay pl L M) {X : Option β} : tcO (mT M) 218 (1, 4) X = X := tcO_y (ly_t218 h)
theorem T_219 (h : Lay pl L M) {X : Option β} : tcO (mT M) 219 (1, 4) X = X := tcO_y (ly_t219 h)
theorem T_220 (h : Lay pl L M) {X : Option β} : tcO (mT M) 220 (1, 0) X = X := tcO_y (ly_t220 h)
theorem A_221 (h : Lay pl L M) {v : Int32} {X : Option β} (hv : 0 ≤ v ∧ tN v < 2000) : arO (mT M) 221 2 v X = X := arO_y (ly_t221 h) hv
theorem N_221 (h : Lay pl L M) {K : Int32 → Option β} : lnO (mT M) 221 K = K (nI (2000)) := lnO_y (ly_t221 h) (by decide) (by decide) (by decide)
theorem A_222 (h : Lay pl L M) {v : Int32} {X : Option β} (hv : 0 ≤ v ∧ tN v < 2000) : arO (mT M) 222 2 v X = X := arO_y (ly_t222 h) hv
theorem N_222 (h : Lay pl L M) {K : Int32 → Option β} : lnO (mT M) 222 K = K (nI (2000)) := lnO_y (ly_t222 h) (by decide) (by decide) (by decide)
theorem A_223 (h : Lay pl L M) {v : Int32} {X : Option β} (hv : 0 ≤ v ∧ tN v < 16000) : arO (mT M) 223 2 v X = X := arO_y (ly_t223 h) hv
theorem N_223 (h : Lay pl L M) {K : Int32 → Option β} : lnO (mT M) 223 K = K (nI (16000)) := lnO_y (ly_t223 h) (by decide) (by decide) (by decide)
theorem A_224 (h : Lay pl L M) {v : Int32} {X : Option β} (hv : 0 ≤ v ∧ tN v < 16000) : arO (mT M) 224 2 v X = X := arO_y (ly_t224 h) hv
theorem N_224 (h : Lay pl L M) {K : Int32 → Option β} : lnO (mT M) 224 K = K (nI (16000)) := lnO_y (ly_t224 h) (by decide) (by decide) (by decide)
theorem A_225 (h : Lay pl L M) {v : Int32} {X : Option β} (hv : 0 ≤ v ∧ tN v < 2000) : arO (mT M) 225 2 v X = X := arO_y (ly_t225 h) hv
theorem N_225 (h : Lay pl L M) {K : Int32 → Option β} : lnO (mT M) 225 K = K (nI (2000)) := lnO_y (ly_t225 h) (by decide) (by decide) (by decide)
theorem A_226 (h : Lay pl L M) {v : Int32} {X : Option β} (hv : 0 ≤ v ∧ tN v < 128000) : arO (mT M) 226 2 v X = X := arO_y (ly_t226 h) hv
theorem N_226 (h : Lay pl L M) {K : Int32 → Option β} : lnO (mT M) 226 K = K (nI (128000)) := lnO_y (ly_t226 h) (by decide) (by decide) (by decide)
theorem A_227 (h : Lay pl L M) {v : Int32} {X : Option β} (hv : 0 ≤ v ∧ tN v < 2000) : arO (mT M) 227 2 v X = X := arO_y (ly_t227 h) hv
theorem N_227 (h : Lay pl L M) {K : Int32 → Option β} : lnO (mT M) 227 K = K (nI (2000)) := lnO_y (ly_t227 h) (by decide) (by decide) (by decide)
theorem A_228 (h : Lay pl L M) {v : Int32} {X : Option β} (hv : 0 ≤ v ∧ tN v < 2000) : arO (mT M) 228 2 v X = X := arO_y (ly_t228 h) hv
theorem N_228 (h : Lay pl L M) {K : Int32 → Option β} : lnO (mT M) 228 K = K (nI (2000)) := lnO_y (ly_t228 h) (by decide) (by decide) (by decide)
theorem A_229 (h : Lay pl L M) {v : Int32} {X : Option β} (hv : 0 ≤ v ∧ tN v < 2000) : arO (mT M) 229 2 v X = X := arO_y (ly_t229 h) hv
theorem N_229 (h : Lay pl L M) {K : Int32 → Option β} : lnO (mT M) 229 K = K (nI (2000)) := lnO_y (ly_t229 h) (by decide) (by decide) (by decide)
theorem T_230 (h : Lay pl L M) {X : Option β} : tcO (mT M) 230 (1, 12) X = X := tcO_y (ly_t230 h)
theorem A_231 (h : Lay pl L M) {v : Int32} {X : Option β} (hv : 0 ≤ v ∧ tN v < 240) : arO (mT M) 231 2 v X = X := arO_y (ly_t231 h) hv
theorem N_231 (h : Lay pl L M) {K : Int32 → Option β} : lnO (mT M) 231 K = K (nI (240)) := lnO_y (ly_t231 h) (by decide) (by decide) (by decide)
theorem A_232 (h : Lay pl L M) {v : Int32} {X : Option β} (hv : 0 ≤ v ∧ tN v < 240) : arO (mT M) 232 2 v X = X := arO_y (ly_t232 h) hv
theorem N_232 (h : Lay pl L M) {K : Int32 → Option β} : lnO (mT M) 232 K = K (nI (240)) := lnO_y (ly_t232 h) (by decide) (by decide) (by decide)
theorem A_233 (h : Lay pl L M) {v : Int32} {X : Option β} (hv : 0 ≤ v ∧ tN v < 300) : arO (mT M) 233 4 v X = X := arO_y (ly_t233 h) hv
theorem N_233 (h : Lay pl L M) {K : Int32 → Option β} : lnO (mT M) 233 K = K (nI (300)) := lnO_y (ly_t233 h) (by decide) (by decide) (by decide)
theorem A_234 (h : Lay pl L M) {v : Int32} {X : Option β} (hv : 0 ≤ v ∧ tN v < 6) : arO (mT M) 234 2 v X = X := arO_y (ly_t234 h) hv
theorem N_234 (h : Lay pl L M) {K : Int32 → Option β} : lnO (mT M) 234 K = K (nI (6)) := lnO_y (ly_t234 h) (by decide) (by decide) (by decide)
theorem A_235 (h : Lay pl L M) {v : Int32} {X : Option β} (hv : 0 ≤ v ∧ tN v < 120) : arO (mT M) 235 2 v X = X := arO_y (ly_t235 h) hv
theorem N_235 (h : Lay pl L M) {K : Int32 → Option β} : lnO (mT M) 235 K = K (nI (120)) := lnO_y (ly_t235 h) (by decide) (by decide) (by decide)
theorem A_236 (h : Lay pl L M) {v : Int32} {X : Option β} (hv : 0 ≤ v ∧ tN v < 120) : arO (mT M) 236 2 v X = X := arO_y (ly_t236 h) hv
theorem N_236 (h : Lay pl L M) {K : Int32 → Option β} : lnO (mT M) 236 K = K (nI (120)) := lnO_y (ly_t236 h) (by decide) (by decide) (by decide)
theorem A_237 (h : Lay pl L M) {v : Int32} {X : Option β} (hv : 0 ≤ v ∧ tN v < 120) : arO (mT M) 237 2 v X = X := arO_y (ly_t237 h) hv
theorem N_237 (h : Lay pl L M) {K : Int32 → Option β} : lnO (mT M) 237 K = K (nI (120)) := lnO_y (ly_t237 h) (by decide) (by decide) (by decide)
theorem A_238 (h : Lay pl L M) {v : Int32} {X : Option β} (hv : 0 ≤ v ∧ tN v < 120) : arO (mT M) 238 2 v X = X := arO_y (ly_t238 h) hv
theorem N_238 (h : Lay pl L M) {K : Int32 → Option β} : lnO (mT M) 238 K = K (nI (120)) := lnO_y (ly_t238 h) (by decide) (by decide) (by decide)
theorem A_239 (h : Lay pl L M) {v : Int32} {X : Option β} (hv : 0 ≤ v ∧ tN v < 120) : arO (mT M) 239 2 v X = X := arO_y (ly_t239 h) hv
theorem N_239 (h : Lay pl L M) {K : Int32 → Option β} : lnO (mT M) 239 K = K (nI (120)) := lnO_y (ly_t239 h) (by decide) (by decide) (by decide)
theorem A_240 (h : Lay pl L M) {v : Int32} {X : Option β} (hv : 0 ≤ v ∧ tN v < 120) : arO (mT M) 240 2 v X = X := arO_y (ly_t240 h) hv
theorem N_240 (h : Lay pl L M) {K : Int32 → Option β} : lnO (mT M) 240 K = K (nI (120)) := lnO_y (ly_t240 h) (by decide) (by decide) (by decide)
theorem A_241 (h : Lay pl L M) {v : Int32} {X : Option β} (hv : 0 ≤ v ∧ tN v < 2400) : arO (mT M) 241 2 v X = X := arO_y (ly_t241 h) hv
theorem N_241 (h : Lay pl L M) {K : Int32 → Option β} : lnO (mT M) 241 K = K (nI (2400)) := lnO_y (ly_t241 h) (by decide) (by decide) (by decide)
theorem A_242 (h : Lay pl L M) {v : Int32} {X : Option β} (hv : 0 ≤ v ∧ tN v < 2400) : arO (mT M) 242 2 v X = X := arO_y (ly_t242 h) hv
theorem N_242 (h : Lay pl L M) {K : Int32 → Option β} : lnO (mT M) 242 K = K (nI (2400)) := lnO_y (ly_t242 h) (by decide) (by decide) (by decide)
theorem A_243 (h : Lay pl L M) {v : Int32} {X : Option β} (hv : 0 ≤ v ∧ tN v < 40) : arO (mT M) 243 2 v X = X := arO_y (ly_t243 h) hv
theorem N_243 (h : Lay pl L M) {K : Int32 → Option β} : lnO (mT M) 243 K = K (nI (40)) := lnO_y (ly_t243 h) (by decide) (by decide) (by decide)
theorem A_244 (h : Lay pl L M) {v : Int32} {X : Option β} (hv : 0 ≤ v ∧ tN v < 41) : arO (mT M) 244 2 v X = X := arO_y (ly_t244 h) hv
theorem N_244 (h : Lay pl L M) {K : Int32 → Option β} : lnO (mT M) 244 K = K (nI (41)) := lnO_y (ly_t244 h) (by decide) (by decide) (by decide)
theorem A_245 (h : Lay pl L M) {v : Int32} {X : Option β} (hv : 0 ≤ v ∧ tN v < 80) : arO (mT M) 245 2 v X = X := arO_y (ly_t245 h) hv
theorem N_245 (h : Lay pl L M) {K : Int32 → Option β} : lnO (mT M) 245 K = K (nI (80)) := lnO_y (ly_t245 h) (by decide) (by decide) (by decide)
theorem A_246 (h : Lay pl L M) {v : Int32} {X : Option β} (hv : 0 ≤ v ∧ tN v < 80) : arO (mT M) 246 2 v X = X := arO_y (ly_t246 h) hv
theorem N_246 (h : Lay pl L M) {K : Int32 → Option β} : lnO (mT M) 246 K = K (nI (80)) := lnO_y (ly_t246 h) (by decide) (by decide) (by decide)
theorem A_247 (h : Lay pl L M) {v : Int32} {X : Option β} (hv : 0 ≤ v ∧ tN v < 20) : arO (mT M) 247 2 v X = X := arO_y (ly_t247 h) hv
theorem N_247 (h : Lay pl L M) {K : Int32 → Option β} : lnO (mT M) 247 K = K (nI (20)) := lnO_y (ly_t247 h) (by decide) (by decide) (by decide)
theorem A_248 (h : Lay pl L M) {v : Int32} {X : Option β} (hv : 0 ≤ v ∧ tN v < 20) : arO (mT M) 248 2 v X = X := arO_y (ly_t248 h) hv
theorem N_248 (h : Lay pl L M) {K : Int32 → Option β} : lnO (mT M) 248 K = K (nI (20)) := lnO_y (ly_t248 h) (by decide) (by decide) (by decide)
theorem A_249 (h : Lay pl L M) {v : Int32} {X : Option β} (hv : 0 ≤ v ∧ tN v < 80) : arO (mT M) 249 2 v X = X := arO_y (ly_t249 h) hv
theorem N_249 (h : Lay pl L M) {K : Int32 → Option β} : lnO (mT M) 249 K = K (nI (80)) := lnO_y (ly_t249 h) (by decide) (by decide) (by decide)
theorem A_250 (h : Lay pl L M) {v : Int32} {X : Option β} (hv : 0 ≤ v ∧ tN v < 400) : arO (mT M) 250 2 v X = X := arO_y (ly_t250 h) hv
theorem N_250 (h : Lay pl L M) {K : Int32 → Option β} : lnO (mT M) 250 K = K (nI (400)) := lnO_y (ly_t250 h) (by decide) (by decide) (by decide)
theorem A_251 (h : Lay pl L M) {v : Int32} {X : Option β} (hv : 0 ≤ v ∧ tN v < 400) : arO (mT M) 251 2 v X = X := arO_y (ly_t251 h) hv
theorem N_251 (h : Lay pl L M) {K : Int32 → Option β} : lnO (mT M) 251 K = K (nI (400)) := lnO_y (ly_t251 h) (by decide) (by decide) (by decide)
theorem A_252 (h : Lay pl L M) {v : Int32} {X : Option β} (hv : 0 ≤ v ∧ tN v < 7) : arO (mT M) 252 2 v X = X := arO_y (ly_t252 h) hv
theorem N_252 (h : Lay pl L M) {K : Int32 → Option β} : lnO (mT M) 252 K = K (nI (7)) := lnO_y (ly_t252 h) (by decide) (by decide) (by decide)
theorem A_253 (h : Lay pl L M) {v : Int32} {X : Option β} (hv : 0 ≤ v ∧ tN v < 200) : arO (mT M) 253 3 v X = X := arO_y (ly_t253 h) hv
theorem N_253 (h : Lay pl L M) {K : Int32 → Option β} : lnO (mT M) 253 K = K (nI (200)) := lnO_y (ly_t253 h) (by decide) (by decide) (by decide)
theorem A_254 (h : Lay pl L M) {v : Int32} {X : Option β} (hv : 0 ≤ v ∧ tN v < 12) : arO (mT M) 254 2 v X = X := arO_y (ly_t254 h) hv
theorem N_254 (h : Lay pl L M) {K : Int32 → Option β} : lnO (mT M) 254 K = K (nI (12)) := lnO_y (ly_t254 h) (by decide) (by decide) (by decide)
theorem A_255 (h : Lay pl L M) {v : Int32} {X : Option β} (hv : 0 ≤ v ∧ tN v < 8) : arO (mT M) 255 2 v X = X := arO_y (ly_t255 h) hv
theorem N_255 (h : Lay pl L M) {K : Int32 → Option β} : lnO (mT M) 255 K = K (nI (8)) := lnO_y (ly_t255 h) (by decide) (by decide) (by decide)
theorem A_256 (h : Lay pl L M) {v : Int32} {X : Option β} (hv : 0 ≤ v ∧ tN v < 8) : arO (mT M) 256 2 v X = X := arO_y (ly_t256 h) hv
theorem N_256 (h : Lay pl L M) {K : Int32 → Option β} : lnO (mT M) 256 K = K (nI (8)) := lnO_y (ly_t256 h) (by decide) (by decide) (by decide)
theorem A_257 (h : Lay pl L M) {v : Int32} {X : Option β} (hv : 0 ≤ v ∧ tN v < 8) : arO (mT M) 257 2 v X = X := arO_y (ly_t257 h) hv
theorem N_257 (h : Lay pl L M) {K : Int32 → Option β} : lnO (mT M) 257 K = K (nI (8)) := lnO_y (ly_t257 h) (by decide) (by decide) (by decide)
theorem A_258 (h : Lay pl L M) {v : Int32} {X : Option β} (hv : 0 ≤ v ∧ tN v < 8) : arO (mT M) 258 2 v X = X := arO_y (ly_t258 h) hv
theorem N_258 (h : Lay pl L M) {K : Int32 → Option β} : lnO (mT M) 258 K = K (nI (8)) := lnO_y (ly_t258 h) (by decide) (by decide) (by decide)
theorem A_259 (h : Lay pl L M) {v : Int32} {X : Option β} (hv : 0 ≤ v ∧ tN v < 8) : arO (mT M) 259 3 v X = X := arO_y (ly_t259 h) hv
theorem N_259 (h : Lay pl L M) {K : Int32 → Option β} : lnO (mT M) 259 K = K (nI (8)) := lnO_y (ly_t259 h) (by decide) (by decide) (by decide)
theorem A_260 (h : Lay pl L M) {v : Int32} {X : Option β} (hv : 0 ≤ v ∧ tN v < 41) : arO (mT M) 260 3 v X = X := arO_y (ly_t260 h) hv
theorem N_260 (h : Lay pl L M) {K : Int32 → Option β} : lnO (mT M) 260 K = K (nI (41)) := lnO_y (ly_t260 h) (by decide) (by decide) (by decide)
theorem A_261 (h : Lay pl L M) {v : Int32} {X : Option β} (hv : 0 ≤ v ∧ tN v < 41) : arO (mT M) 261 2 v X = X := arO_y (ly_t261 h) hv
theorem N_261 (h : Lay pl L M) {K : Int32 → Option β} : lnO (mT M) 261 K = K (nI (41)) := lnO_y (ly_t261 h) (by decide) (by decide) (by decide)
theorem A_262 (h : Lay pl L M) {v : Int32} {X : Option β} (hv : 0 ≤ v ∧ tN v < 2000) : arO (mT M) 262 3 v X = X := arO_y (ly_t262 h) hv
theorem N_262 (h : Lay pl L M) {K : Int32 → Option β} : lnO (mT M) 262 K = K (nI (2000)) := lnO_y (ly_t262 h) (by decide) (by decide) (by decide)
theorem A_263 (h : Lay pl L M) {v : Int32} {X : Option β} (hv : 0 ≤ v ∧ tN v < 2000) : arO (mT M) 263 2 v X = X := arO_y (ly_t263 h) hv
theorem N_263 (h : Lay pl L M) {K : Int32 → Option β} : lnO (mT M) 263 K = K (nI (2000)) := lnO_y (ly_t263 h) (by decide) (by decide) (by decide)
theorem A_264 (h : Lay pl L M) {v : Int32} {X : Option β} (hv : 0 ≤ v ∧ tN v < 128000) : arO (mT M) 264 2 v X = X := arO_y (ly_t264 h) hv
theorem N_264 (h : Lay pl L M) {K : Int32 → Option β} : lnO (mT M) 264 K = K (nI (128000)) := lnO_y (ly_t264 h) (by decide) (by decide) (by decide)
theorem A_265 (h : Lay pl L M) {v : Int32} {X : Option β} (hv : 0 ≤ v ∧ tN v < 2000) : arO (mT M) 265 2 v X = X := arO_y (ly_t265 h) hv
theorem N_265 (h : Lay pl L M) {K : Int32 → Option β} : lnO (mT M) 265 K = K (nI (2000)) := lnO_y (ly_t265 h) (by decide) (by decide) (by decide)
theorem A_266 (h : Lay pl L M) {v : Int32} {X : Option β} (hv : 0 ≤ v ∧ tN v < 2000) : arO (mT M) 266 2 v X = X := arO_y (ly_t266 h) hv
theorem N_266 (h : Lay pl L M) {K : Int32 → Option β} : lnO (mT M) 266 K = K (nI (2000)) := lnO_y (ly_t266 h) (by decide) (by decide) (by decide)
theorem A_267 (h : Lay pl L M) {v : Int32} {X : Option β} (hv : 0 ≤ v ∧ tN v < 8192) : arO (mT M) 267 2 v X = X := arO_y (ly_t267 h) hv
theorem N_267 (h : Lay pl L M) {K : Int32 → Option β} : lnO (mT M) 267 K = K (nI (8192)) := lnO_y (ly_t267 h) (by decide) (by decide) (by decide)
theorem A_268 (h : Lay pl L M) {v : Int32} {X : Option β} (hv : 0 ≤ v ∧ tN v < 2000) : arO (mT M) 268 2 v X = X := arO_y (ly_t268 h) hv
theorem N_268 (h : Lay pl L M) {K : Int32 → Option β} : lnO (mT M) 268 K = K (nI (2000)) := lnO_y (ly_t268 h) (by decide) (by decide) (by decide)
theorem A_269 (h : Lay pl L M) {v : Int32} {X : Option β} (hv : 0 ≤ v ∧ tN v < 2000) : arO (mT M) 269 5 v X = X := arO_y (ly_t269 h) hv
theorem N_269 (h : Lay pl L M) {K : Int32 → Option β} : lnO (mT M) 269 K = K (nI (2000)) := lnO_y (ly_t269 h) (by decide) (by decide) (by decide)
theorem A_1 (h : Lay pl L M) {v : Int32} {X : Option β} (hv : 0 ≤ v ∧ tN v < 12) : arO (mT M) 1 8 v X = X := arO_y (ly_t1 h) hv
theorem N_1 (h : Lay pl L M) {K : Int32 → Option β} : lnO (mT M) 1 K = K (nI (12)) := lnO_y (ly_t1 h) (by decide) (by decide) (by decide)
theorem A_2 (h : Lay pl L M) {v : Int32} {X : Option β} (hv : 0 ≤ v ∧ tN v < 0) : arO (mT M) 2 9 v X = X := arO_y (ly_t2 h) hv
theorem A_3 (h : Lay pl L M) {v : Int32} {X : Option β} (hv : 0 ≤ v ∧ tN v < 0) : arO (mT M) 3 9 v X = X := arO_y (ly_t3 h) hv
theorem A_4 (h : Lay pl L M) {v : Int32} {X : Option β} (hv : 0 ≤ v ∧ tN v < 107) : arO (mT M) 4 10 v X = X := arO_y (ly_t4 h) hv
theorem N_4 (h : Lay pl L M) {K : Int32 → Option β} : lnO (mT M) 4 K = K (nI (107)) := lnO_y (ly_t4 h) (by decide) (by decide) (by decide)
theorem A_5 (h : Lay pl L M) {v : Int32} {X : Option β} (hv : 0 ≤ v ∧ tN v < 12) : arO (mT M) 5 10 v X = X := arO_y (ly_t5 h) hv
theorem N_5 (h : Lay pl L M) {K : Int32 → Option β} : lnO (mT M) 5 K = K (nI (12)) := lnO_y (ly_t5 h) (by decide) (by decide) (by decide)
theorem A_6 (h : Lay pl L M) {v : Int32} {X : Option β} (hv : 0 ≤ v ∧ tN v < 0) : arO (mT M) 6 11 v X = X := arO_y (ly_t6 h) hv
theorem A_0 (h : Lay pl L M) {v : Int32} {X : Option β} (hv : 0 ≤ v ∧ tN v < L) : arO (mT M) 0 8 v X = X := arO_y (ly_t0 h) hv
theorem N_0 (h : Lay pl L M) {K : Int32 → Option β} : lnO (mT M) 0 K = K (nI (L)) := lnO_y (ly_t0 h) (by decide) (by decide) (by decide)
end ADDR
