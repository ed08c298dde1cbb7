/-! ===== a ply as it is told ===== -/
def t3 (x y z : Nat) : Chi := fun m => m == x || m == y || m == z
def isTrip (a b c : Int32) (x y z : Nat) : Prop := x < y ∧ y < z ∧ z < 8 ∧ a = nI x ∧ b = nI y ∧ c = nI z
theorem bS_one {x : Nat} (hx : x < 8) : nI (2 ^ x) = nI (bS (fun j => j == x) 8) := by
  congr 1
  have := bS_add (χ := fun _ => false) (n := 8) (m := x) hx
  rw [bS_0, Nat.zero_or] at this
  rw [this]
  exact bS_ext (fun m _ => by simp)
theorem sh_one {x : Nat} (hx : x < 8) : (1 : Int32) <<< (nI x &&& 31) = nI (bS (fun j => j == x) 8) := by rw [one_shl (by omega), bS_one hx]
theorem bS_orN {χ ψ : Chi} {n : Nat} : nI (bS χ n) ||| nI (bS ψ n) = nI (bS (fun m => χ m || ψ m) n) := by
  rw [nx_orN]
  congr 1
  apply Nat.eq_of_testBit_eq
  intro m
  rw [Nat.testBit_or, bS_bit, bS_bit, bS_bit]
  cases decide (m < n) <;> simp
theorem x_bitsOf {M : Mem} {a b c : Int32} {x y z : Nat} (h : isTrip a b c x y z) : f_X10_bitsOf a b c M = some (nI (bS (t3 x y z) 8), M) := by
  obtain ⟨h1, h2, h3, rfl, rfl, rfl⟩ := h
  unfold f_X10_bitsOf
  rw [if_neg (nI_pos (by omega)), if_neg (nI_ge h1 (by omega)), if_neg (nI_ge h2 (by omega)), if_neg (show ¬ (8 : Int32) ≤ nI z from nI_ge (b := 8) h3 (by decide)), sh_one (by omega), sh_one (by omega), sh_one (by omega), bS_orN, bS_orN]
  rfl
theorem pos_of {v : Int32} (h : ¬ v < 0) : ∃ j : Nat, j < 2 ^ 31 ∧ v = nI j := nI_of h
theorem gt_of {u v : Int32} {x : Nat} (hu : u = nI x) (hx : x < 2 ^ 31) (h : ¬ v ≤ u) : ∃ j : Nat, j < 2 ^ 31 ∧ v = nI j ∧ x < j := by
  have h0 : ¬ v < 0 := by
    intro q
    apply h
    subst hu
    rw [Int32.le_iff_toInt_le, nI_toInt hx]
    rw [Int32.lt_iff_toInt_lt] at q
    have : (0 : Int32).toInt = 0 := rfl
    omega
  obtain ⟨j, h1, h2⟩ := nI_of h0
  refine ⟨j, h1, h2, ?_⟩
  subst hu
  subst h2
  rcases Nat.lt_or_ge x j with q | q
  · exact q
  · exact absurd (nI_le q hx) h
theorem x_bitsOf_n {M : Mem} {a b c : Int32} (h : ¬ ∃ x y z, isTrip a b c x y z) : f_X10_bitsOf a b c M = some (0, M) := by
  unfold f_X10_bitsOf
  by_cases h1 : a < 0
  · rw [if_pos h1]
  · rw [if_neg h1]
    obtain ⟨x, hx, ex⟩ := pos_of h1
    by_cases h2 : b ≤ a
    · rw [if_pos h2]
    · rw [if_neg h2]
      obtain ⟨y, hy, ey, hxy⟩ := gt_of ex hx h2
      by_cases h3 : c ≤ b
      · rw [if_pos h3]
      · rw [if_neg h3]
        obtain ⟨z, hz, ez, hyz⟩ := gt_of ey hy h3
        by_cases h4 : (8 : Int32) ≤ c
        · rw [if_pos h4]
        · refine absurd ⟨x, y, z, hxy, hyz, ?_, ex, ey, ez⟩ h
          rcases Nat.lt_or_ge z 8 with q | q
          · exact q
          · exact absurd (by rw [ez]; exact nI_le (a := 8) q hz) h4
theorem mv_cases (v : Int32) : (∃ m, m < 8 ∧ v = nI m) ∨ v < 0 ∨ (8 : Int32) ≤ v := by
  rcases pk_ix v (n := 8) (by decide) with h | h | h
  · exact Or.inr (Or.inl h)
  · exact Or.inr (Or.inr h)
  · exact Or.inl h
def isMv (v : Int32) : Prop := ∃ m, m < 8 ∧ v = nI m
theorem not_mv {v : Int32} (h : ¬ isMv v) : v < 0 ∨ (8 : Int32) ≤ v := by
  rcases mv_cases v with q | q
  · exact absurd q h
  · exact q
theorem x_isMove {M : Mem} {m : Nat} (hm : m < 8) : f_X11_isMove (nI m) M = some (nI 1, M) := by
  unfold f_X11_isMove
  rw [if_neg (nI_pos (by omega)), if_neg (show ¬ (8 : Int32) ≤ nI m from nI_ge (b := 8) hm (by decide)), tv_1]
  rfl
theorem x_isMove_n {M : Mem} {v : Int32} (h : ¬ isMv v) : f_X11_isMove v M = some (nI 0, M) := by
  unfold f_X11_isMove
  rcases not_mv h with q | q
  · rw [if_pos q, tv_0]; rfl
  · by_cases q2 : v < 0
    · rw [if_pos q2, tv_0]; rfl
    · rw [if_neg q2, if_pos q, tv_0]; rfl
theorem y_isMove {M : Mem} {m : Nat} (hm : m < 8) : f_X12_isMove (nI m) M = some (nI 1, M) := by
  unfold f_X12_isMove
  rw [n_i32, i32_0, show (7 : Int32) = i32 7 by decide, y_in ⟨by omega, by omega⟩ ⟨by omega, by omega⟩ ⟨by omega, by omega⟩, cA_s, if_pos (by omega), tv_n1]
theorem y_isMove_n {M : Mem} {v : Int32} (h : ¬ isMv v) : f_X12_isMove v M = some (nI 0, M) := by
  unfold f_X12_isMove f_X12_in
  rcases not_mv h with q | q
  · rw [if_pos q, tv_0, cA_s, tv_0]; rfl
  · have q2 : (7 : Int32) < v := by
      rw [Int32.lt_iff_toInt_lt]
      rw [Int32.le_iff_toInt_le] at q
      have h7 : (7 : Int32).toInt = 7 := rfl
      have h8 : (8 : Int32).toInt = 8 := rfl
      omega
    by_cases q3 : v < 0
    · rw [if_pos q3, tv_0, cA_s, tv_0]; rfl
    · rw [if_neg q3, if_pos q2, tv_0, cA_s, tv_0]; rfl
section PLY
variable {w h L nt : Nat} {τ : Nat → Txt} {π : Pos} {M : Mem}
theorem y_isIn {χ : Chi} {m : Nat} (hb : Bs w h L nt τ M) (ho : mI M 230 49 = nI (bS χ 8)) (hm : m < 8) : f_X12_isIn (some 230) (nI m) M = some (nI (χ m).toNat, M) := by
  unfold f_X12_isIn
  rw [y_isMove hm, cA_s, if_neg (by decide), gI_t (ly_t230 hb.lay), ho, bS_shr1 hm]
  cases χ m with
  | false => rw [if_neg (by decide), tv_0]; rfl
  | true => rw [if_pos (by decide), tv_1]; rfl
theorem y_isIn_n {v : Int32} (h : ¬ isMv v) : f_X12_isIn (some 230) v M = some (nI 0, M) := by
  unfold f_X12_isIn
  rw [y_isMove_n h, cA_s, if_pos (by decide), tv_0]
  rfl
theorem y_isOffer {χ : Chi} {a b c : Int32} {x y z : Nat} (hb : Bs w h L nt τ M) (ho : mI M 230 49 = nI (bS χ 8)) (ht : isTrip a b c x y z) : f_X12_isOffer (some 230) a b c M = some (if χ x = true ∧ χ y = true ∧ χ z = true then nI 1 else nI 0, M) := by
  obtain ⟨h1, h2, h3, rfl, rfl, rfl⟩ := ht
  have hl := hb.lay
  have e1 := y_isIn (m := x) hb ho (by omega)
  have e2 := y_isIn (m := y) hb ho (by omega)
  have e3 := y_isIn (m := z) hb ho h3
  unfold f_X12_isOffer
  rw [if_neg (nI_ge h1 (by omega)), if_neg (nI_ge h2 (by omega)), cR_t (ly_t230 hl), e1, cA_s]
  cases χ x with
  | false => rw [if_pos (by decide), tv_0, if_neg (by simp)]; rfl
  | true =>
    rw [if_neg (by decide), cR_t (ly_t230 hl), e2, cA_s]
    cases χ y with
    | false => rw [if_pos (by decide), tv_0, if_neg (by simp)]; rfl
    | true =>
      rw [if_neg (by decide), cR_t (ly_t230 hl), e3, cA_s]
      cases χ z with
      | false => rw [if_pos (by decide), tv_0, if_neg (by simp)]; rfl
      | true => rw [if_neg (by decide), tv_1, if_pos (by simp)]; rfl
theorem y_isOffer_n {χ : Chi} {a b c : Int32} (hb : Bs w h L nt τ M) (ho : mI M 230 49 = nI (bS χ 8)) (ht : ¬ ∃ x y z, isTrip a b c x y z) : f_X12_isOffer (some 230) a b c M = some (nI 0, M) := by
  have hl := hb.lay
  unfold f_X12_isOffer
  by_cases h1 : b ≤ a
  · rw [if_pos h1, tv_0]; rfl
  · rw [if_neg h1]
    by_cases h2 : c ≤ b
    · rw [if_pos h2, tv_0]; rfl
    · rw [if_neg h2, cR_t (ly_t230 hl)]
      by_cases ha : isMv a
      · obtain ⟨x, hx, rfl⟩ := ha
        rw [y_isIn hb ho hx, cA_s]
        cases χ x with
        | false => rw [if_pos (by decide), tv_0]; rfl
        | true =>
          rw [if_neg (by decide), cR_t (ly_t230 hl)]
          by_cases hb' : isMv b
          · obtain ⟨y, hy, rfl⟩ := hb'
            rw [y_isIn hb ho hy, cA_s]
            cases χ y with
            | false => rw [if_pos (by decide), tv_0]; rfl
            | true =>
              rw [if_neg (by decide), cR_t (ly_t230 hl)]
              by_cases hc : isMv c
              · obtain ⟨z, hz, rfl⟩ := hc
                refine absurd ⟨x, y, z, ?_, ?_, hz, rfl, rfl, rfl⟩ ht
                · rcases Nat.lt_or_ge x y with q | q
                  · exact q
                  · exact absurd (nI_le q (by omega)) h1
                · rcases Nat.lt_or_ge y z with q | q
                  · exact q
                  · exact absurd (nI_le q (by omega)) h2
              · rw [y_isIn_n hc, cA_s, if_pos (by decide), tv_0]; rfl
          · rw [y_isIn_n hb', cA_s, if_pos (by decide), tv_0]; rfl
      · rw [y_isIn_n ha, cA_s, if_pos (by decide), tv_0]; rfl
/-- a ply that can be -/
def plyP (χ : Chi) (a b c no dn : Int32) (n d : Nat) : Prop := ∃ x y z, isTrip a b c x y z ∧ χ x = true ∧ χ y = true ∧ χ z = true ∧ no = nI n ∧ dn = nI d ∧ (n = x ∨ n = y ∨ n = z) ∧ (d = x ∨ d = y ∨ d = z) ∧ n ≠ d
theorem plyP.ok {χ : Chi} {a b c no dn : Int32} {n d : Nat} (hp : plyP χ a b c no dn n d) : n < 8 ∧ d < 8 ∧ n ≠ d ∧ χ n = true ∧ χ d = true ∧ no = nI n ∧ dn = nI d := by
  obtain ⟨x, y, z, ⟨h1, h2, h3, -⟩, h4, h5, h6, h7, h8, h9, h10, h11⟩ := hp
  refine ⟨by omega, by omega, h11, ?_, ?_, h7, h8⟩
  · rcases h9 with rfl | rfl | rfl <;> assumption
  · rcases h10 with rfl | rfl | rfl <;> assumption
theorem popC_two {t : Chi} {n d : Nat} : ∀ k, popC (fun m => t m && (m == n || m == d)) k = (if n < k then (t n).toNat else 0) + (if d < k ∧ n ≠ d then (t d).toNat else 0)
  | 0 => by simp [popC]
  | k + 1 => by
    have ih := popC_two (t := t) (n := n) (d := d) k
    show popC (fun m => t m && (m == n || m == d)) k + (t k && (k == n || k == d)).toNat = _
    rw [ih]
    by_cases e1 : k = n
    · subst e1
      by_cases e2 : k = d
      · subst e2; simp
      · have e2' : (k == d) = false := by simpa using e2
        by_cases e3 : d < k
        · simp [e3, show d < k + 1 by omega]; omega
        · simp [e3, show ¬ d < k + 1 by omega]
    · have e1' : (k == n) = false := by simpa using e1
      have q : n < k + 1 ↔ n < k := by omega
      by_cases e2 : k = d
      · subst e2
        have e3 : n ≠ k := fun e => e1 e.symm
        simp [e1', q, e3]
      · have e2' : (k == d) = false := by simpa using e2
        have q2 : d < k + 1 ↔ d < k := by omega
        simp [e1', e2', q, q2]
theorem popC_3 {χ : Chi} {x y z : Nat} (h : x < y ∧ y < z ∧ z < 8) (h1 : χ x = true) (h2 : χ y = true) (h3 : χ z = true) : 3 ≤ popC χ 8 := by
  have key : ∀ n, (if x < n then 1 else 0) + (if y < n then 1 else 0) + (if z < n then 1 else 0) ≤ popC χ n := by
    intro n
    induction n with
    | zero => simp
    | succ n ih =>
      show _ ≤ popC χ n + (χ n).toNat
      by_cases e1 : n = x
      · subst e1; rw [h1]; rw [if_neg (by omega), if_neg (by omega), if_neg (by omega)] at ih; rw [if_pos (by omega), if_neg (by omega), if_neg (by omega)]; simp only [Bool.toNat_true]; omega
      · by_cases e2 : n = y
        · subst e2; rw [h2]; rw [if_pos (by omega), if_neg (by omega), if_neg (by omega)] at ih; rw [if_pos (by omega), if_pos (by omega), if_neg (by omega)]; simp only [Bool.toNat_true]; omega
        · by_cases e3 : n = z
          · subst e3; rw [h3]; rw [if_pos (by omega), if_pos (by omega), if_neg (by omega)] at ih; rw [if_pos (by omega), if_pos (by omega), if_pos (by omega)]; simp only [Bool.toNat_true]; omega
          · have q1 : x < n + 1 ↔ x < n := by omega
            have q2 : y < n + 1 ↔ y < n := by omega
            have q3 : z < n + 1 ↔ z < n := by omega
            simp only [q1, q2, q3]
            omega
  have := key 8
  rw [if_pos (by omega), if_pos (by omega), if_pos (by omega)] at this
  exact this
theorem x_told_y {x : Option Nat} {a : Nat} {i j k no dn : Int32} {n d : Nat} {bits : Int32} (hb : Bs w h L nt τ M) (hx : okX nt x) (ok : okN w h π) (ha : isPA a) (hP : PosAt a π M) (hB : mI M 9 5 = oI x) (hp : plyP (ablS w h (tT τ x) π) i j k no dn n d) (hbits : f_X10_bitsOf i j k M = some (bits, M)) : ∃ M', f_X11_told (some 8) (some a) bits no dn M = some (nI 1, M') ∧ Fx (a :: xA) xF M M' ∧ PosAt a (sucS w h (tT τ x) π n d) M' := by
  obtain ⟨o1, o2, o3, o4, o5, o6, o7⟩ := hp.ok
  obtain ⟨x', y, z, htr, h4, h5, h6, -, -, h9, h10, -⟩ := hp
  have ht := htr
  obtain ⟨h1, h2, h3, -⟩ := htr
  rw [x_bitsOf ht] at hbits
  cases hbits
  subst o6
  subst o7
  have hl := hb.lay
  obtain ⟨M1, e1, e2, e3⟩ := x_isOver hb hx ok.1 ha hP hB
  have hb1 := hb.fx e2 (by decide) (by decide)
  have hl1 := hb1.lay
  have hP1 := hP.fx e2 (pa_x ha)
  have hB1 : mI M1 9 5 = oI x := by rw [e2.ib (by decide)]; exact hB
  have h3p := popC_3 ⟨h1, h2, h3⟩ h4 h5 h6
  obtain ⟨M2, u1, u2, u3⟩ := x_advance hb1 hx ok ha hP1 e3 o1 o2 o3 o5
  have hsub : nI (bS (t3 x' y z) 8) &&& nI (bS (ablS w h (tT τ x) π) 8) = nI (bS (t3 x' y z) 8) := by
    rw [bS_andN, bS_eqN (by decide)]
    intro m hm
    unfold t3
    by_cases e : m = x'
    · subst e; simp [h4]
    · by_cases e' : m = y
      · subst e'; simp [h5]
      · by_cases e'' : m = z
        · subst e''; simp [h6]
        · simp [e, e', e'']
  have hpc : popC (fun m => t3 x' y z m && (m == n || m == d)) 8 = 2 := by
    rw [popC_two, if_pos o1, if_pos ⟨o2, o3⟩]
    have q1 : t3 x' y z n = true := by unfold t3; rcases h9 with rfl | rfl | rfl <;> simp
    have q2 : t3 x' y z d = true := by unfold t3; rcases h10 with rfl | rfl | rfl <;> simp
    rw [q1, q2]; rfl
  unfold f_X11_told
  rw [x_isMove o1, cA_s, if_neg (by decide), x_isMove o2, cA_s, if_neg (by decide), cR_t (ly_t8 hl), e1, cA_s, if_neg (show ¬ popC (ablS w h (tT τ x) π) 8 < 3 by omega), if_pos (show nI 0 = (0 : Int32) by decide), gR_t (ly_t8 hl1), ly_r8_8 hl1, gI_t (ly_t203 hl1), e3.abl, if_pos hsub, sh_one o1, sh_one o2, bS_orN, bS_andN, bc_bS, cA_s, hpc, if_pos (by decide), gR_t (ly_t8 hl1), ly_r8_8 hl1, gR_t (ly_t8 hl1), ly_r8_2 hl1, gI_t (ly_t9 hl1), hB1, cR_t (ly_t8 hl1), x_rules hb1 hx, cA_s, cR_t (ly_t203 hl1), u1, cA_s, tv_1]
  exact ⟨M2, rfl, (e2.mono (by intro q hq; exact List.mem_cons_of_mem _ hq) (fun _ q => q)).tr (u2.mono (by intro q hq; simp at hq; subst hq; exact List.mem_cons_self) (by intro q hq; cases hq)), u3⟩
theorem x_told_n {x : Option Nat} {a : Nat} {i j k no dn : Int32} {bits : Int32} (hb : Bs w h L nt τ M) (hx : okX nt x) (ok : okN w h π) (ha : isPA a) (hP : PosAt a π M) (hB : mI M 9 5 = oI x) (hp : ¬ ∃ n d, plyP (ablS w h (tT τ x) π) i j k no dn n d) (hbits : f_X10_bitsOf i j k M = some (bits, M)) : ∃ M', f_X11_told (some 8) (some a) bits no dn M = some (nI 0, M') ∧ Fx xA xF M M' := by
  have hl := hb.lay
  unfold f_X11_told
  by_cases hn : isMv no
  · obtain ⟨n, hn, rfl⟩ := hn
    rw [x_isMove hn, cA_s, if_neg (by decide)]
    by_cases hd : isMv dn
    · obtain ⟨d, hd, rfl⟩ := hd
      rw [x_isMove hd, cA_s, if_neg (by decide), cR_t (ly_t8 hl)]
      obtain ⟨M1, e1, e2, e3⟩ := x_isOver hb hx ok.1 ha hP hB
      have hb1 := hb.fx e2 (by decide) (by decide)
      have hl1 := hb1.lay
      rw [e1, cA_s]
      by_cases ho : popC (ablS w h (tT τ x) π) 8 < 3
      · rw [if_pos ho, if_neg (by decide), tv_0]
        exact ⟨M1, rfl, e2⟩
      · rw [if_neg ho, if_pos (by decide), gR_t (ly_t8 hl1), ly_r8_8 hl1, gI_t (ly_t203 hl1), e3.abl]
        by_cases ht : ∃ x y z, isTrip i j k x y z
        · obtain ⟨x', y, z, ht⟩ := ht
          rw [x_bitsOf ht] at hbits
          cases hbits
          by_cases hs : nI (bS (t3 x' y z) 8) &&& nI (bS (ablS w h (tT τ x) π) 8) = nI (bS (t3 x' y z) 8)
          · rw [if_pos hs, sh_one hn, sh_one hd, bS_orN, bS_andN, bc_bS, cA_s]
            rw [bS_andN, bS_eqN (by decide)] at hs
            have g1 := hs x' (by have := ht.1; have := ht.2.1; have := ht.2.2.1; omega)
            have g2 := hs y (by have := ht.2.1; have := ht.2.2.1; omega)
            have g3 := hs z ht.2.2.1
            simp [t3] at g1 g2 g3
            have hpc : popC (fun m => t3 x' y z m && (m == n || m == d)) 8 ≠ 2 := by
              rw [popC_two, if_pos hn]
              intro e
              have b1 := Bool.toNat_le (t3 x' y z n)
              have b2 := Bool.toNat_le (t3 x' y z d)
              by_cases hnd : n = d
              · rw [if_neg (fun q => q.2 hnd)] at e; omega
              · rw [if_pos ⟨hd, hnd⟩] at e
                have c1 : t3 x' y z n = true := by cases q : t3 x' y z n; rw [q] at e; simp at e; omega; rfl
                have c2 : t3 x' y z d = true := by cases q : t3 x' y z d; rw [q] at e; simp at e; omega; rfl
                unfold t3 at c1 c2
                simp only [Bool.or_eq_true, beq_iff_eq] at c1 c2
                exact hp ⟨n, d, x', y, z, ht, g1, g2, g3, rfl, rfl, by rcases c1 with (q | q) | q; exact Or.inl q; exact Or.inr (Or.inl q); exact Or.inr (Or.inr q), by rcases c2 with (q | q) | q; exact Or.inl q; exact Or.inr (Or.inl q); exact Or.inr (Or.inr q), hnd⟩
            have hle := popC_le (fun m => t3 x' y z m && (m == n || m == d)) 8
            rw [if_neg (show ¬ nI (popC (fun m => t3 x' y z m && (m == n || m == d)) 8) = (2 : Int32) from nIne (b := 2) (by omega) (by decide) hpc), tv_0]
            exact ⟨M1, rfl, e2⟩
          · rw [if_neg hs, tv_0]
            exact ⟨M1, rfl, e2⟩
        · rw [x_bitsOf_n ht] at hbits
          cases hbits
          have z0 : (0 : Int32) &&& nI (bS (ablS w h (tT τ x) π) 8) = 0 := by
            have := nx_and 0 (bS (ablS w h (tT τ x) π) 8)
            rw [Nat.zero_and] at this
            exact this
          have z1 : ∀ u : Int32, (0 : Int32) &&& u = 0 := fun u => by
            obtain ⟨k, -, rfl⟩ := wb_of32 u
            have := nx_and 0 k
            rw [Nat.zero_and] at this
            exact this
          have z2 : f_J6_bitCount_0f7a4 0 M1 = some (nI (popC (fun _ => false) 8), M1) := by
            have := bc_bS (fun _ => false) M1
            rw [bS_0] at this
            exact this
          rw [if_pos z0, z1, z2, cA_s, if_neg (by decide), tv_0]
          exact ⟨M1, rfl, e2⟩
    · rw [x_isMove_n hd, cA_s, if_pos (by decide), tv_0]
      exact ⟨M, rfl, Fx.rf⟩
  · rw [x_isMove_n hn, cA_s, if_pos (by decide), tv_0]
    exact ⟨M, rfl, Fx.rf⟩
theorem y_one {m x y z : Int32} : f_X12_isOneOf m x y z M = some (if m = x ∨ m = y ∨ m = z then nI 1 else nI 0, M) := by
  unfold f_X12_isOneOf
  by_cases h1 : m = x
  · simp only [h1, true_or, if_true, tv_1]; first | rfl | (simp [tv_1]; rfl)
  · by_cases h2 : m = y
    · subst h2; simp only [h1, false_or, true_or, if_true, if_false, tv_1]; first | rfl | (simp [tv_1]; rfl)
    · by_cases h3 : m = z
      · subst h3; simp only [h1, h2, false_or, if_true, if_false, tv_1]; first | rfl | (simp [tv_1]; rfl)
      · simp only [h1, h2, h3, or_self, if_false, tv_0]; first | rfl | (simp [tv_0]; rfl)
theorem y_canPly {χ : Chi} {a b c no dn : Int32} (hb : Bs w h L nt τ M) (ho : mI M 230 49 = nI (bS χ 8)) : ((∃ n d, plyP χ a b c no dn n d) ∧ f_X12_canPly (some 230) a b c no dn M = some (nI 1, M)) ∨ ((¬ ∃ n d, plyP χ a b c no dn n d) ∧ f_X12_canPly (some 230) a b c no dn M = some (nI 0, M)) := by
  have hl := hb.lay
  by_cases ht : ∃ x y z, isTrip a b c x y z
  · obtain ⟨x, y, z, ht⟩ := ht
    have hof := y_isOffer hb ho ht
    have hof' := ht
    obtain ⟨h1, h2, h3, ea, eb, ec⟩ := ht
    by_cases hin : χ x = true ∧ χ y = true ∧ χ z = true
    · rw [if_pos hin] at hof
      by_cases hno : no = a ∨ no = b ∨ no = c
      · by_cases hdn : dn = a ∨ dn = b ∨ dn = c
        · by_cases hne : no = dn
          · refine Or.inr ⟨?_, ?_⟩
            · rintro ⟨n, d, hp⟩
              obtain ⟨q1, q2, q3, -, -, q6, q7⟩ := hp.ok
              rw [q6, q7] at hne
              exact q3 ((nI_eq (by omega) (by omega)).mp hne)
            · unfold f_X12_canPly
              rw [cR_t (ly_t230 hl), hof, cA_s, if_neg (by decide), y_one, cA_s, if_pos hno, if_neg (by decide), y_one, cA_s, if_pos hdn, if_neg (by decide), if_pos hne, tv_0]
              rfl
          · refine Or.inl ⟨?_, ?_⟩
            · obtain ⟨n, hn, en⟩ : ∃ n, (n = x ∨ n = y ∨ n = z) ∧ no = nI n := by
                rcases hno with q | q | q
                · exact ⟨x, Or.inl rfl, by rw [q, ea]⟩
                · exact ⟨y, Or.inr (Or.inl rfl), by rw [q, eb]⟩
                · exact ⟨z, Or.inr (Or.inr rfl), by rw [q, ec]⟩
              obtain ⟨d, hd, ed⟩ : ∃ n, (n = x ∨ n = y ∨ n = z) ∧ dn = nI n := by
                rcases hdn with q | q | q
                · exact ⟨x, Or.inl rfl, by rw [q, ea]⟩
                · exact ⟨y, Or.inr (Or.inl rfl), by rw [q, eb]⟩
                · exact ⟨z, Or.inr (Or.inr rfl), by rw [q, ec]⟩
              exact ⟨n, d, x, y, z, hof', hin.1, hin.2.1, hin.2.2, en, ed, hn, hd, fun e => hne (by rw [en, ed, e])⟩
            · unfold f_X12_canPly
              rw [cR_t (ly_t230 hl), hof, cA_s, if_neg (by decide), y_one, cA_s, if_pos hno, if_neg (by decide), y_one, cA_s, if_pos hdn, if_neg (by decide), if_neg hne, tv_1]
              rfl
        · refine Or.inr ⟨?_, ?_⟩
          · rintro ⟨n, d, x', y', z', ⟨g1, g2, g3, ga, gb, gc⟩, -, -, -, -, q2, -, q4, -⟩
            apply hdn
            rcases q4 with rfl | rfl | rfl
            · exact Or.inl (by rw [q2, ga])
            · exact Or.inr (Or.inl (by rw [q2, gb]))
            · exact Or.inr (Or.inr (by rw [q2, gc]))
          · unfold f_X12_canPly
            rw [cR_t (ly_t230 hl), hof, cA_s, if_neg (by decide), y_one, cA_s, if_pos hno, if_neg (by decide), y_one, cA_s, if_neg hdn, if_pos (by decide), tv_0]
            rfl
      · refine Or.inr ⟨?_, ?_⟩
        · rintro ⟨n, d, x', y', z', ⟨g1, g2, g3, ga, gb, gc⟩, -, -, -, q1, -, q3, -⟩
          apply hno
          rcases q3 with rfl | rfl | rfl
          · exact Or.inl (by rw [q1, ga])
          · exact Or.inr (Or.inl (by rw [q1, gb]))
          · exact Or.inr (Or.inr (by rw [q1, gc]))
        · unfold f_X12_canPly
          rw [cR_t (ly_t230 hl), hof, cA_s, if_neg (by decide), y_one, cA_s, if_neg hno, if_pos (by decide), tv_0]
          rfl
    · rw [if_neg hin] at hof
      refine Or.inr ⟨?_, ?_⟩
      · rintro ⟨n, d, x', y', z', ⟨g1, g2, g3, ga, gb, gc⟩, i1, i2, i3, -⟩
        rw [ea] at ga
        rw [eb] at gb
        rw [ec] at gc
        have k1 := (nI_eq (by omega) (by omega)).mp ga
        have k2 := (nI_eq (by omega) (by omega)).mp gb
        have k3 := (nI_eq (by omega) (by omega)).mp gc
        subst k1 k2 k3
        exact hin ⟨i1, i2, i3⟩
      · unfold f_X12_canPly
        rw [cR_t (ly_t230 hl), hof, cA_s, if_pos (by decide), tv_0]
        rfl
  · refine Or.inr ⟨?_, ?_⟩
    · rintro ⟨n, d, x, y, z, h1, -⟩
      exact ht ⟨x, y, z, h1⟩
    · unfold f_X12_canPly
      rw [cR_t (ly_t230 hl), y_isOffer_n hb ho ht, cA_s, if_pos (by decide), tv_0]
      rfl
end PLY
