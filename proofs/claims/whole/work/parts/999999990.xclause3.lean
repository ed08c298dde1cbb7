/-! ===== the class adds a clause ===== -/
theorem wR_t {β : Type} {M : Mem} {a n i : Nat} {v : Option Nat} {K : Mem → Option β} (h : mT M a = (6, n)) (hi : i < n) (hn : n < 2 ^ 31) (hv : ∀ b, v = some b → mT M b = (1, 1)) : wR M (some a) 6 (nI i) v K = K (sR M a i v) := by
  simp only [wR, h]
  rw [nI_clamp (by omega), if_pos ⟨trivial, nI_ge0 (by omega), hi, fun b hb => by rw [hv b hb]; rfl⟩]
/-- references that reading a text may write -/
def RQ (r b j : Nat) : Prop := (b = 43 ∧ j = 4) ∨ b = r + 2 ∨ b = r + 3 ∨ (r + 5 ≤ b ∧ b < r + 25 ∧ j = 8)
/-- numbers that reading a text may write -/
def IQ (r b j : Nat) : Prop := (b = 43 ∧ 1 ≤ j ∧ j ≤ 8) ∨ (b = r ∧ (j = 4 ∨ j = 5)) ∨ b = r + 4 ∨ (r + 5 ≤ b ∧ b < r + 25 ∧ 1 ≤ j)
def Fg (r : Nat) (M M' : Mem) : Prop := mT M' = mT M ∧ mZ M' = mZ M ∧ (∀ b j, ¬ RQ r b j → mR M' b j = mR M b j) ∧ ∀ b j, ¬ IQ r b j → mI M' b j = mI M b j ∧ mL M' b j = mL M b j
theorem xr_far : ∀ q ∈ xrefs, (q.1 < 19 ∨ (43 ≤ q.1 ∧ q.1 < 50) ∨ 200 ≤ q.1) ∧ ¬ (q.1 = 43 ∧ q.2.1 = 4) := by decide +kernel
section XCLAUSE3
variable {pl L r : Nat} {tp : Nat → Nat} {ln : Nat} {M M' M'' : Mem}
theorem Fg.rf : Fg r M M := ⟨rfl, rfl, fun _ _ _ => rfl, fun _ _ _ => ⟨rfl, rfl⟩⟩
theorem Fg.tr (h : Fg r M M') (h' : Fg r M' M'') : Fg r M M'' := ⟨h'.1.trans h.1, h'.2.1.trans h.2.1, fun b j hb => (h'.2.2.1 b j hb).trans (h.2.2.1 b j hb), fun b j hb => ⟨((h'.2.2.2 b j hb).1).trans (h.2.2.2 b j hb).1, ((h'.2.2.2 b j hb).2).trans (h.2.2.2 b j hb).2⟩⟩
theorem Fq.fg {P : Nat → Nat → Prop} (h : Fq P M M') (hs : ∀ b j, P b j → IQ r b j) : Fg r M M' := ⟨h.1, h.2.1, fun b j _ => by rw [h.2.2.1], fun b j hb => h.2.2.2 b j (fun z => hb (hs b j z))⟩
theorem XFr.fg (h : XFr r M M') : Fg r M M' := Fq.fg (P := XP r) h (fun b j z => by unfold XP at z; unfold IQ; omega)
theorem Fg.wI {a k : Nat} {v : Int32} (hh : IQ r a k) : Fg r M (sI M a k v) := Fq.fg (P := IQ r) (Fq.w hh) (fun _ _ z => z)
theorem Fg.wR {a k : Nat} {v : Option Nat} (hh : RQ r a k) : Fg r M (sR M a k v) := ⟨rfl, rfl, fun b j hb => by
  rw [mR_s, if_neg]
  rintro ⟨rfl, rfl⟩
  exact hb hh, fun _ _ _ => ⟨rfl, rfl⟩⟩
theorem Lay.fg (hr : isRA r) (hl : Lay pl L M) (fr : Fg r M M') : Lay pl L M' := by
  obtain ⟨l1, l2, l3, l4, l5, l6, l7, l8, l9, l10, l11, l12, l13⟩ := hl
  have h18 : 18 ≤ r := (ra_43 hr).2.2.2.2
  have hrr := ra_cases hr
  have low : ∀ b j, b < 18 → mI M' b j = mI M b j := fun b j hb => (fr.2.2.2 b j (by unfold IQ; omega)).1
  have lowR : ∀ b j, b < 18 → mR M' b j = mR M b j := fun b j hb => fr.2.2.1 b j (by unfold RQ; omega)
  refine ⟨by rw [fr.1]; exact l1, by rw [fr.2.1]; exact l2, fun q hq => ?_, fun t ht => by rw [lowR 17 t (by decide)]; exact l4 t ht, fun r' hr' => ?_, fun r' hr' i hi => ?_, by rw [lowR 2 0 (by decide)]; exact l7, by rw [lowR 3 0 (by decide)]; exact l8, fun k => by rw [low 1 k (by omega)]; exact l9 k, fun k => by rw [low 4 k (by omega)]; exact l10 k, fun k => by rw [low 5 k (by omega)]; exact l11 k, fun k => by rw [low 2 k (by omega)]; exact l12 k, fun k => by rw [low 3 k (by omega)]; exact l13 k⟩
  · obtain ⟨f1, f2⟩ := xr_far q hq
    rw [fr.2.2.1 q.1 q.2.1 (by
      unfold RQ
      rcases hrr with h | ⟨t, ht, h⟩ <;> omega)]
    exact l3 q hq
  · obtain ⟨a1, a2, a3, a4, a5⟩ := l5 r' hr'
    have hb : ∀ i, i < 2 → ∀ j, ¬ RQ r (r' + i) j := fun i hi j => by
      unfold RQ
      rcases hrr with h | ⟨t, ht, h⟩ <;> rcases ra_cases hr' with h' | ⟨u, hu, h'⟩ <;> omega
    have h0 := hb 0 (by decide)
    have h1 := hb 1 (by decide)
    exact ⟨by rw [fr.2.2.1 r' 0 (h0 0)]; exact a1, by rw [fr.2.2.1 r' 1 (h0 1)]; exact a2, by rw [fr.2.2.1 r' 2 (h0 2)]; exact a3, by rw [fr.2.2.1 r' 3 (h0 3)]; exact a4, fun i hi => by rw [fr.2.2.1 (r' + 1) i (h1 i)]; exact a5 i hi⟩
  · rw [(fr.2.2.2 (r' + 5 + i) 0 (by
      unfold IQ
      rcases hrr with h | ⟨t, ht, h⟩ <;> rcases ra_cases hr' with h' | ⟨u, hu, h'⟩ <;> omega)).1]
    exact l6 r' hr' i hi
/-- a clause object told -/
def ClO (r i : Nat) (d : Cl) (c : List Nat) (M : Mem) : Prop := mI M (r + 5 + i) 1 = nI (cTy d) ∧ (cTy d = 0 → mI M (r + 5 + i) 2 = nI (cMv d) ∧ mI M (r + 5 + i) 3 = nI (cAc d) ∧ mI M (r + 5 + i) 4 = nI (cKd d) ∧ mI M (r + 5 + i) 5 = nI (cDr d)) ∧ ∃ cs, mI M (r + 5 + i) 6 = nI cs ∧ mI M (r + 5 + i) 7 = nI (cs + (cCd d).length) ∧ cs + (cCd d).length ≤ c.length ∧ ∀ j, j < (cCd d).length → c.getD (cs + j) 0 = (cCd d).getD j 0
def TxX (pl L r : Nat) (tp : Nat → Nat) (ln : Nat) (T : Txt) (a : Nat) (c : List Nat) (M : Mem) : Prop := ClX pl L r tp ln a c M ∧ mI M r 4 = nI T.length ∧ (∀ (i : Nat) (d : Cl), T[i]? = some d → ClO r i d c M) ∧ (∀ m, m < 8 → mR M (r + 2) m = none) ∧ ∀ y, y < 4 → mR M (r + 3) y = adr r (fTd (12 + y) T 0)
theorem fTd_snoc {y : Nat} {d : Cl} : ∀ (T : Txt) (i : Nat), fTd y (T ++ [d]) i = (match fTd y T i with | some k => some k | none => if cTy d = y then some (i + T.length) else none)
  | [], i => rfl
  | e :: T, i => by
    show (if cTy e = y then some i else fTd y (T ++ [d]) (i + 1)) = (match (if cTy e = y then some i else fTd y T (i + 1)) with | some k => some k | none => if cTy d = y then some (i + (e :: T).length) else none)
    by_cases z : cTy e = y
    · rw [if_pos z, if_pos z]
    · rw [if_neg z, if_neg z, fTd_snoc T (i + 1), show i + 1 + T.length = i + (e :: T).length by simp only [List.length_cons]; omega]
theorem x_isSingle {t : Nat} (ht : t ≤ 36) : f_X6_isSingle (nI t) M = some (nI (decide (12 ≤ t) && decide (t ≤ 15)).toNat, M) := by
  unfold f_X6_isSingle
  by_cases h1 : 12 ≤ t
  · rw [if_neg (show ¬ nI t < (12 : Int32) from nI_nlt (b := 12) h1 (by omega)), decide_eq_true h1]
    by_cases h2 : t ≤ 15
    · rw [if_neg (show ¬ (15 : Int32) < nI t from nI_nlt (a := 15) h2 (by decide)), decide_eq_true h2, tv_1]; rfl
    · rw [if_pos (show (15 : Int32) < nI t from nI_lt (a := 15) (by omega) (by omega)), decide_eq_false h2, tv_0]; rfl
  · rw [if_pos (show nI t < (12 : Int32) from nI_lt (b := 12) (by omega) (by decide)), decide_eq_false h1, tv_0, Bool.false_and]; rfl
theorem x_singleOf {T : Txt} {a t : Nat} {c : List Nat} (hr : isRA r) (h : TxX pl L r tp ln T a c M) (ht : t ≤ 36) : f_X6_singleOf (some r) (nI t) M = some (if 12 ≤ t ∧ t ≤ 15 then adr r (fTd t T 0) else none, M) := by
  obtain ⟨t1, t2, t3, t4, t5, t6⟩ := ly_ra h.1.1 hr
  unfold f_X6_singleOf
  rw [x_isSingle ht, cA_s]
  by_cases e : 12 ≤ t ∧ t ≤ 15
  · have r2 : mR M r 2 = some (r + 3) := (h.1.1.2.2.2.2.1 r hr).2.2.1
    rw [decide_eq_true e.1, decide_eq_true e.2, if_neg (by decide), gR_t t1, r2, show (12 : Int32) = nI 12 from rfl, pk_sub e.1, aR_t t4 (by omega) (by decide), h.2.2.2.2 (t - 12) (by omega), show 12 + (t - 12) = t by omega, if_pos e]
  · have : (decide (12 ≤ t) && decide (t ≤ 15)) = false := by
      rw [← Bool.not_eq_true, Bool.and_eq_true, decide_eq_true_eq, decide_eq_true_eq]; exact e
    rw [this, if_pos (by decide), if_neg e]
end XCLAUSE3
