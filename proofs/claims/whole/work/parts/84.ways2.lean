/-! ===== offers by ways, in the class ===== -/
def nevS (W : Txt) (nm : Nat → Int) : Bool := W.any (fun c => cTy c == 16 && decide (evV nm (cCd c) ≠ 0))
def lefS (w h : Nat) (T W : Txt) (π : Pos) : Chi := fun m => ablS w h T π m && !nevS W (nmA w h T π m)
def alwS (w h : Nat) (T W : Txt) (π : Pos) : Chi := if popC (lefS w h T W π) 8 < 3 then ablS w h T π else lefS w h T W π
theorem nev_take {W : Txt} {k : Nat} {c : Cl} {nm : Nat → Int} (hc : W[k]? = some c) : nevS (W.take (k + 1)) nm = (nevS (W.take k) nm || (cTy c == 16 && decide (evV nm (cCd c) ≠ 0))) := by
  unfold nevS
  rw [take_s hc, List.any_append]
  simp
def mskS (w h : Nat) (T W : Txt) (π : Pos) (i j : Nat) : Chi := fun m => ablS w h T π m && !nevS (W.take (if m < j then i + 1 else i)) (nmA w h T π m)
def upQ (a : Option (Nat × Int)) (q : Nat) (v : Int) : Option (Nat × Int) := match a with
  | none => some (q, v)
  | some b => if b.2 < v then some (q, v) else some b
def bstQ (p : Nat → Bool) (f : Nat → Int) : List Nat → Option (Nat × Int) → Option (Nat × Int)
  | [], a => a
  | q :: l, a => bstQ p f l (if p q = true then upQ a q (f q) else a)
theorem bstQ_c {p : Nat → Bool} {f : Nat → Int} {q : Nat} {l : List Nat} {a : Option (Nat × Int)} : bstQ p f (q :: l) a = bstQ p f l (if p q = true then upQ a q (f q) else a) := rfl
def smT (ψ : Chi) (f : Nat → Int) : Nat → Int
  | 0 => 0
  | n + 1 => smT ψ f n + (if ψ n = true then f n else 0)
theorem smT_3 {f : Nat → Int} {x y z : Nat} (h : x < y ∧ y < z) : ∀ n, smT (t3 x y z) f n = (if x < n then f x else 0) + (if y < n then f y else 0) + (if z < n then f z else 0)
  | 0 => by simp [smT]
  | n + 1 => by
    have ih := smT_3 (f := f) h n
    show smT (t3 x y z) f n + (if t3 x y z n = true then f n else 0) = _
    rw [ih]
    unfold t3
    by_cases e1 : n = x
    · subst e1
      rw [if_neg (show ¬ n < n by omega), if_neg (show ¬ y < n by omega), if_neg (show ¬ z < n by omega), if_pos (show n < n + 1 by omega), if_neg (show ¬ y < n + 1 by omega), if_neg (show ¬ z < n + 1 by omega)]
      simp
    · by_cases e2 : n = y
      · subst e2
        rw [if_pos (show x < n by omega), if_neg (show ¬ n < n by omega), if_neg (show ¬ z < n by omega), if_pos (show x < n + 1 by omega), if_pos (show n < n + 1 by omega), if_neg (show ¬ z < n + 1 by omega)]
        simp
      · by_cases e3 : n = z
        · subst e3
          rw [if_pos (show x < n by omega), if_pos (show y < n by omega), if_neg (show ¬ n < n by omega), if_pos (show x < n + 1 by omega), if_pos (show y < n + 1 by omega), if_pos (show n < n + 1 by omega)]
          simp
        · have q1 : x < n + 1 ↔ x < n := by omega
          have q2 : y < n + 1 ↔ y < n := by omega
          have q3 : z < n + 1 ↔ z < n := by omega
          simp [e1, e2, e3, q1, q2, q3]
def f3 (f : Nat → Int) (q : Nat) : Int := f (qx q) + f (qy q) + f (qz q)
theorem smT_q {f : Nat → Int} {q : Nat} (hq : q ∈ TQ) : smT (tch q) f 8 = f3 f q := by
  obtain ⟨h1, h2⟩ := TQ_tri q hq
  obtain ⟨h3, h4, h5⟩ := tri_lt h2 h1
  have := smT_3 (f := f) ⟨h3, h4⟩ 8
  rw [if_pos (by omega), if_pos (by omega), if_pos (by omega)] at this
  exact this
theorem smT_bd {ψ : Chi} {f : Nat → Int} : ∀ n : Nat, n ≤ 8 → (∀ i, i < 8 → vl (f i)) → -(n * 1000000 : Int) ≤ smT ψ f n ∧ smT ψ f n ≤ n * 1000000
  | 0, _, _ => by simp [smT]
  | n + 1, hn, hf => by
    have ih := smT_bd (ψ := ψ) n (by omega) hf
    have h1 := hf n (by omega)
    obtain ⟨h1, h2⟩ := h1
    show -((n + 1 : Nat) * 1000000 : Int) ≤ smT ψ f n + (if ψ n = true then f n else 0) ∧ smT ψ f n + (if ψ n = true then f n else 0) ≤ ((n + 1 : Nat) * 1000000 : Int)
    split <;> omega
section WAYS2
variable {w h L nt : Nat} {τ : Nat → Txt} {π : Pos}
theorem x_alw32 {x y : Option Nat} {a i : Nat} {c : Cl} (ok : okP π) (ha : isPA a) (hx : okX nt x) (hy : okX nt y) (hc : (tT τ y)[i]? = some c) (q : Option Nat → Option Nat → Option Nat → Int32 → Int32 → Mem → Option (Int32 × Mem)) : ∀ (k n j : Nat) (M : Mem), j + k = 8 → k < n → (j = 0 ∨ cTy c = 16) → Bs w h L nt τ M → PosAt a π M → NmAt π M → LookAt (lkB w h (tT τ x) π) M → ∃ M', f_X3_allowed_32 q n (some 209) (some a) (some (rT y)) (nI (bS (mskS w h (tT τ x) (tT τ y) π i j) 8)) (nI i) (some (rT y + 5 + i)) (nI j) M = q (some 209) (some a) (some (rT y)) (nI (bS (mskS w h (tT τ x) (tT τ y) π (i + 1) 0) 8)) (nI (i + 1)) M' ∧ Fx [201, 202] [] M M' ∧ NmAt π M'
  | k, 0, j, M => fun _ z => absurd z (by omega)
  | 0, n + 1, j, M => by
    intro hj _ _ hb hP hN hL
    obtain rfl : j = 8 := by omega
    refine ⟨M, ?_, Fx.rf, hN⟩
    rw [u_X3_allowed_32]
    unfold b_X3_allowed_32
    rw [if_pos (by decide), nI_1, bS_ext (χ := mskS w h (tT τ x) (tT τ y) π i 8) (χ' := mskS w h (tT τ x) (tT τ y) π (i + 1) 0) (fun m hm => by unfold mskS; rw [if_pos hm, if_neg (by omega)])]
  | k + 1, n + 1, j, M => by
    intro hj hn hjc hb hP hN hL
    have hl := hb.lay
    have hra := hy.ra hb.2.2.2.2.1
    obtain ⟨t1, t2, t3, t4, t5, t6⟩ := ly_ra hl hra
    have hi : i < 20 := by
      have h1 := (List.getElem?_eq_some_iff.mp hc).1
      have h2 := (hb.okT hy).1
      omega
    obtain ⟨r1, -, -⟩ := (hb.rules hy).2.1 i c hc
    have hty : cTy c ≤ 16 := by
      rcases (hb.okT hy).2.1 i c hc with z | z | z
      · have := z.1; omega
      · have := z.2.1; omega
      · have := z.1; omega
    rw [u_X3_allowed_32]
    unfold b_X3_allowed_32
    rw [if_neg (show ¬ (8 : Int32) ≤ nI j from nI_ge (b := 8) (by omega) (by decide)), gI_t (t6 i hi), r1]
    by_cases h16 : cTy c = 16
    · rw [if_pos (by rw [h16]; rfl)]
      have hmj : mskS w h (tT τ x) (tT τ y) π i j j = (ablS w h (tT τ x) π j && !nevS ((tT τ y).take i) (nmA w h (tT τ x) π j)) := by unfold mskS; rw [if_neg (by omega)]
      have hnt := nev_take (nm := nmA w h (tT τ x) π j) hc
      have hne : cCd c ≠ [] := by
        rcases (hb.okT hy).2.1 _ c hc with z | z | z
        · have := z.1; omega
        · exact wtC_ne z.2.2
        · exact wtC_ne z.2
      -- the mask moves on
      have same : (ablS w h (tT τ x) π j && !nevS ((tT τ y).take (i + 1)) (nmA w h (tT τ x) π j)) = mskS w h (tT τ x) (tT τ y) π i j j → bS (mskS w h (tT τ x) (tT τ y) π i (j + 1)) 8 = bS (mskS w h (tT τ x) (tT τ y) π i j) 8 := by
        intro e
        apply bS_ext
        intro m hm
        by_cases e1 : m = j
        · subst e1
          rw [← e]
          unfold mskS
          rw [if_pos (by omega)]
        · unfold mskS
          by_cases e2 : m < j
          · rw [if_pos e2, if_pos (by omega)]
          · rw [if_neg e2, if_neg (by omega)]
      cases hmm : mskS w h (tT τ x) (tT τ y) π i j j with
      | false =>
        rw [if_pos ((bS_in (by decide) (by omega)).mpr hmm), nI_1]
        obtain ⟨M', z1, z2, z3⟩ := x_alw32 ok ha hx hy hc q k n (j + 1) M (by omega) (by omega) (Or.inr h16) hb hP hN hL
        rw [same (by
          rw [hmm]
          rw [hmm] at hmj
          rw [hnt]
          cases ha' : ablS w h (tT τ x) π j with
          | false => rfl
          | true => rw [ha'] at hmj; simp at hmj; simp [hmj])] at z1
        exact ⟨M', z1, z2, z3⟩
      | true =>
        rw [hmm] at hmj
        have hab : ablS w h (tT τ x) π j = true := by cases z : ablS w h (tT τ x) π j; rw [z] at hmj; simp at hmj; rfl
        have hnv : nevS ((tT τ y).take i) (nmA w h (tT τ x) π j) = false := by cases z : nevS ((tT τ y).take i) (nmA w h (tT τ x) π j); rfl; rw [z] at hmj; simp at hmj
        rw [if_neg (fun z => by rw [bS_in (by decide) (by omega), hmm] at z; cases z), cR_t (ly_t209 hl)]
        obtain ⟨M1, v1, v2, v3⟩ := x_pval hb ok ha hP hN hx hL hy hc hne (show j < 8 by omega) hab
        have hwt : wtC (cCd c) true := by
          rcases (hb.okT hy).2.1 _ c hc with z | z | z
          · have := z.1; omega
          · have := z.2.1; omega
          · exact z.2
        have hvl := (evV_ok (nmA_ok hb.1 (hb.okT hx) ok (show j < 8 by omega)).1 hwt).1
        rw [v1, cA_s]
        obtain ⟨M', z1, z2, z3⟩ := x_alw32 ok ha hx hy hc q k n (j + 1) M1 (by omega) (by omega) (Or.inr h16) (hb.fx v2 (by decide) (by decide)) (hP.fx v2 (by rcases ha with rfl | rfl | rfl | rfl | rfl | rfl <;> decide)) v3 (hL.fx v2 (by decide) (by decide))
        by_cases ev : evV (nmA w h (tT τ x) π j) (cCd c) = 0
        · rw [if_pos (by rw [ev]; rfl), nI_1]
          rw [same (by rw [hmm, hab, hnt, hnv, h16, ev]; rfl)] at z1
          exact ⟨M', z1, v2.tr z2, z3⟩
        · rw [if_neg (fun z => ev (by rw [i32_0] at z; exact (i32_eq hvl.sm vl0.sm).mp z)), nI_1, bS_delI (by decide) (by omega)]
          have e : bS (fun m => mskS w h (tT τ x) (tT τ y) π i j m && !(m == j)) 8 = bS (mskS w h (tT τ x) (tT τ y) π i (j + 1)) 8 := by
            apply bS_ext
            intro m hm
            by_cases e1 : m = j
            · subst e1
              unfold mskS
              rw [if_pos (show m < m + 1 by omega), hnt, hab, hnv, h16]
              simp [ev]
            · have e1' : (m == j) = false := by simpa using e1
              rw [e1']
              unfold mskS
              by_cases e2 : m < j
              · rw [if_pos e2, if_pos (show m < j + 1 by omega)]; simp
              · rw [if_neg e2, if_neg (show ¬ m < j + 1 by omega)]; simp
          rw [e]
          exact ⟨M', z1, v2.tr z2, z3⟩
    · obtain rfl : j = 0 := by rcases hjc with z | z; exact z; exact absurd z h16
      rw [if_neg (show ¬ nI (cTy c) = (16 : Int32) from nIne (b := 16) (by omega) (by decide) h16), nI_1]
      refine ⟨M, ?_, Fx.rf, hN⟩
      have h16' : (cTy c == 16) = false := by simpa using h16
      rw [bS_ext (χ := mskS w h (tT τ x) (tT τ y) π i 0) (χ' := mskS w h (tT τ x) (tT τ y) π (i + 1) 0) (fun m hm => by
        unfold mskS
        rw [if_neg (by omega), if_neg (by omega), nev_take hc, h16']
        simp)]
theorem x_alw11 {x y : Option Nat} {a : Nat} (ok : okP π) (ha : isPA a) (hx : okX nt x) (hy : okX nt y) : ∀ (k n i : Nat) (M : Mem), i + k = (tT τ y).length → k < n → Bs w h L nt τ M → PosAt a π M → NmAt π M → LookAt (lkB w h (tT τ x) π) M → ∃ M', f_X3_allowed_11 n (some 209) (some a) (some (rT y)) (nI (bS (mskS w h (tT τ x) (tT τ y) π i 0) 8)) (nI i) M = some (nI (bS (alwS w h (tT τ x) (tT τ y) π) 8), M') ∧ Fx [201, 202] [] M M' ∧ NmAt π M'
  | k, 0, i, M => fun _ z => absurd z (by omega)
  | 0, n + 1, i, M => by
    intro hi _ hb hP hN hL
    have hl := hb.lay
    have hra := hy.ra hb.2.2.2.2.1
    obtain ⟨t1, t2, t3, t4, t5, t6⟩ := ly_ra hl hra
    have hlen := (hb.okT hy).1
    have hsz := (hb.rules hy).1
    refine ⟨M, ?_, Fx.rf, hN⟩
    have e : mskS w h (tT τ x) (tT τ y) π i 0 = lefS w h (tT τ x) (tT τ y) π := by
      funext m
      unfold mskS lefS
      rw [if_neg (by omega), List.take_of_length_le (by omega)]
    have hle := popC_le (lefS w h (tT τ x) (tT τ y) π) 8
    rw [u_X3_allowed_11, e]
    unfold b_X3_allowed_11
    rw [gI_t t1, hsz, if_pos (nI_le (by omega) (by omega)), bc_bS, cA_s]
    unfold alwS
    by_cases h3 : popC (lefS w h (tT τ x) (tT τ y) π) 8 < 3
    · rw [if_pos h3, if_neg (show ¬ (3 : Int32) ≤ nI _ from nI_ge (b := 3) h3 (by decide)), gR_t (ly_t209 hl), ly_r209_2 hl, gI_t (ly_t203 hl), hL.abl]
    · rw [if_neg h3, if_pos (show (3 : Int32) ≤ nI _ from nI_le (a := 3) (by omega) (by omega))]
  | k + 1, n + 1, i, M => by
    intro hi hn hb hP hN hL
    have hl := hb.lay
    have hra := hy.ra hb.2.2.2.2.1
    obtain ⟨t1, t2, t3, t4, t5, t6⟩ := ly_ra hl hra
    have hlen := (hb.okT hy).1
    have hsz := (hb.rules hy).1
    obtain ⟨c, hc⟩ : ∃ c, (tT τ y)[i]? = some c := ⟨_, List.getElem?_eq_getElem (by omega)⟩
    have hr0 : mR M (rT y) 0 = some (rT y + 1) := (hl.2.2.2.2.1 _ hra).1
    have hrk : mR M (rT y + 1) i = some (rT y + 5 + i) := (hl.2.2.2.2.1 _ hra).2.2.2.2 _ (by omega)
    rw [u_X3_allowed_11]
    unfold b_X3_allowed_11
    rw [gI_t t1, hsz, if_neg (nI_ge (by omega) (by omega)), gR_t t1, hr0, aR_t t2 (by omega) (by decide), hrk]
    obtain ⟨M1, v1, v2, v3⟩ := x_alw32 ok ha hx hy hc (f_X3_allowed_11 n) 8 FU 0 M (by omega) (by decide) (Or.inl rfl) hb hP hN hL
    rw [show (0 : Int32) = nI 0 from rfl, v1]
    obtain ⟨M', z1, z2, z3⟩ := x_alw11 ok ha hx hy k n (i + 1) M1 (by omega) (by omega) (hb.fx v2 (by decide) (by decide)) (hP.fx v2 (by rcases ha with rfl | rfl | rfl | rfl | rfl | rfl <;> decide)) v3 (hL.fx v2 (by decide) (by decide))
    exact ⟨M', z1, v2.tr z2, z3⟩
theorem x_allowed {M : Mem} {x y : Option Nat} {a : Nat} (hb : Bs w h L nt τ M) (ok : okP π) (ha : isPA a) (hP : PosAt a π M) (hN : NmAt π M) (hx : okX nt x) (hL : LookAt (lkB w h (tT τ x) π) M) (hy : okX nt y) : ∃ M', f_X3_allowed (some 209) (some a) (some (rT y)) M = some (nI (bS (alwS w h (tT τ x) (tT τ y) π) 8), M') ∧ Fx [201, 202] [] M M' ∧ NmAt π M' := by
  have hl := hb.lay
  have hlen := (hb.okT hy).1
  unfold f_X3_allowed
  rw [gR_t (ly_t209 hl), ly_r209_2 hl, gI_t (ly_t203 hl), hL.abl]
  have := x_alw11 ok ha hx hy (tT τ y).length FU 0 M (by omega) (by unfold FU; omega) hb hP hN hL
  have e : bS (mskS w h (tT τ x) (tT τ y) π 0 0) 8 = bS (ablS w h (tT τ x) π) 8 := bS_ext (fun m _ => by unfold mskS nevS; simp)
  rw [e] at this
  exact this
def encQ (a : Option (Nat × Int)) (i4 i5 : Int32) : Prop := match a with
  | none => i4 = 0
  | some b => b.1 ∈ TQ ∧ i4 = nI (bS (tch b.1) 8) ∧ i5 = i32 b.2 ∧ -8000000 ≤ b.2 ∧ b.2 ≤ 8000000
theorem x_off61 {M : Mem} {f : Nat → Int} {i : Nat} {a : Option (Nat × Int)} {i3 i4 i5 : Int32} (hb : Bs w h L nt τ M) (hi : i < 56) (hW : ∀ i, i < 8 → mI M 210 i = i32 (f i)) (hf : ∀ i, i < 8 → vl (f i)) (he : encQ a i4 i5) (q : Option Nat → Int32 → Int32 → Int32 → Int32 → Mem → Option (Int32 × Mem)) : ∀ (k n m : Nat), m + k = 8 → k < n → ∃ j4 j5, f_X3_offered_61 q n (some 209) i3 i4 i5 (nI i) (nI (bS (tch (TQ.getD i 0)) 8)) (i32 (smT (tch (TQ.getD i 0)) f m)) (nI m) M = q (some 209) i3 j4 j5 (nI (i + 1)) M ∧ encQ (upQ a (TQ.getD i 0) (f3 f (TQ.getD i 0))) j4 j5
  | k, 0, m, _, hn => absurd hn (by omega)
  | 0, n + 1, m, hm, _ => by
    obtain rfl : m = 8 := by omega
    have hq := TQ_mem hi
    have hbd := smT_bd (ψ := tch (TQ.getD i 0)) 8 (by omega) hf
    rw [smT_q hq] at hbd
    rw [u_X3_offered_61, smT_q hq]
    unfold b_X3_offered_61
    rw [if_pos (by decide), nI_1]
    have new : encQ (some (TQ.getD i 0, f3 f (TQ.getD i 0))) (nI (bS (tch (TQ.getD i 0)) 8)) (i32 (f3 f (TQ.getD i 0))) := ⟨hq, rfl, rfl, by have := hbd.1; simp at this ⊢; omega, by have := hbd.2; simp at this ⊢; omega⟩
    cases a with
    | none =>
      rw [if_pos (show i4 = 0 from he)]
      exact ⟨_, _, rfl, new⟩
    | some b =>
      obtain ⟨e1, e2, e3, e4, e5⟩ := he
      subst e2
      subst e3
      rw [if_neg (tch_ne e1)]
      unfold upQ
      dsimp only
      by_cases hlt : b.2 < f3 f (TQ.getD i 0)
      · rw [if_neg (fun z => by have := (i32_le ⟨by have := hbd.1; simp at this; omega, by have := hbd.2; simp at this; omega⟩ ⟨by omega, by omega⟩).mp z; omega), if_pos hlt]
        exact ⟨_, _, rfl, new⟩
      · rw [if_pos ((i32_le ⟨by have := hbd.1; simp at this; omega, by have := hbd.2; simp at this; omega⟩ ⟨by omega, by omega⟩).mpr (by omega)), if_neg hlt]
        exact ⟨_, _, rfl, e1, rfl, rfl, e4, e5⟩
  | k + 1, n + 1, m, hm, hn => by
    have hl := hb.lay
    rw [u_X3_offered_61]
    unfold b_X3_offered_61
    rw [if_neg (show ¬ (8 : Int32) ≤ nI m from nI_ge (b := 8) (by omega) (by decide))]
    have ih := x_off61 (i3 := i3) hb hi hW hf he q k n (m + 1) (by omega) (by omega)
    cases hc : tch (TQ.getD i 0) m with
    | false =>
      rw [if_pos ((bS_in (by decide) (by omega)).mpr hc), nI_1, i32_0, i32_add]
      rw [show smT (tch (TQ.getD i 0)) f (m + 1) = smT (tch (TQ.getD i 0)) f m + 0 by show _ + (if _ then _ else _) = _; rw [hc]; simp] at ih
      exact ih
    | true =>
      rw [if_neg (fun z => by rw [bS_in (by decide) (by omega), hc] at z; cases z), gR_t (ly_t209 hl), ly_r209_5 hl, aI_t (ly_t210 hl) (by omega) (by decide), hW m (by omega), nI_1, i32_add]
      rw [show smT (tch (TQ.getD i 0)) f (m + 1) = smT (tch (TQ.getD i 0)) f m + f m by show _ + (if _ then _ else _) = _; rw [hc]; simp] at ih
      exact ih
def bitsQ (a : Option (Nat × Int)) : Int32 := bitsO (a.map (fun b => b.1))
theorem x_off24 {M : Mem} {f : Nat → Int} {χ : Chi} (hb : Bs w h L nt τ M) (hW : ∀ i, i < 8 → mI M 210 i = i32 (f i)) (hf : ∀ i, i < 8 → vl (f i)) : ∀ (k n i : Nat) (a : Option (Nat × Int)) (i4 i5 : Int32), i + k = 56 → k < n → encQ a i4 i5 → f_X3_offered_24 n (some 209) (nI (bS χ 8)) i4 i5 (nI i) M = some (bitsQ (bstQ (inq χ) (f3 f) (TQ.drop i) a), M)
  | k, 0, i, a, i4, i5, _, hn => absurd hn (by omega)
  | 0, n + 1, i, a, i4, i5, hi, _ => by
    intro he
    obtain rfl : i = 56 := by omega
    rw [u_X3_offered_24, List.drop_of_length_le (by rw [TQ_len]; omega)]
    unfold b_X3_offered_24
    rw [if_pos (by decide)]
    cases a with
    | none => rw [show i4 = 0 from he]; rfl
    | some b => rw [he.2.1]; rfl
  | k + 1, n + 1, i, a, i4, i5, hi, hn => by
    intro he
    have hl := hb.lay
    have hq := TQ_tri _ (TQ_mem (show i < 56 by omega))
    rw [u_X3_offered_24, TQ_drop (by omega), bstQ_c]
    unfold b_X3_offered_24
    rw [if_neg (show ¬ (56 : Int32) ≤ nI i from nI_ge (b := 56) (by omega) (by decide)), gR_t (ly_t209 hl), ly_r209_4 hl, gR_t (ly_t45 hl), ly_r45_0 hl, aI_t (ly_t46 hl) (by omega) (by decide), bits_at hb (by omega)]
    by_cases hc : inq χ (TQ.getD i 0) = true
    · rw [if_pos ((tch_sub hq.1).mpr hc), if_pos hc]
      obtain ⟨j4, j5, e1, e2⟩ := x_off61 (i3 := nI (bS χ 8)) hb (show i < 56 by omega) hW hf he (f_X3_offered_24 n) 8 FU 0 (by omega) (by decide)
      rw [show (0 : Int32) = nI 0 from rfl]
      rw [show i32 (smT (tch (TQ.getD i 0)) f 0) = nI 0 from rfl] at e1
      rw [e1]
      exact x_off24 hb hW hf k n (i + 1) _ j4 j5 (by omega) (by omega) e2
    · rw [if_neg (fun z => hc ((tch_sub hq.1).mp z)), if_neg hc, nI_1]
      exact x_off24 hb hW hf k n (i + 1) a i4 i5 (by omega) (by omega) he
end WAYS2
