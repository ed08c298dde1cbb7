/-! ===== the line of the class ===== -/
def cvt (v : Nat) : Nat := if v = 100000 then 1000000 else v
theorem cvt_eq {v t : Nat} (ht : t < 100000) : cvt v = t ↔ v = t := by unfold cvt; split <;> omega
theorem TQ_fx : ∀ q ∈ TQ, (List.range' 0 8).filter (tch q) = [qx q, qy q, qz q] ∧ (List.range' 0 8).filter (fun m => tch q m && !(m == qx q)) = [qy q, qz q] ∧ (List.range' 0 8).filter (fun m => tch q m && !(m == qy q)) = [qx q, qz q] ∧ (List.range' 0 8).filter (fun m => tch q m && !(m == qz q)) = [qx q, qy q] := by decide +kernel
theorem TQ_ot {q no : Nat} (hq : q ∈ TQ) (hn : no = qx q ∨ no = qy q ∨ no = qz q) : (List.range' 0 8).filter (fun m => tch q m && !(m == no)) = [ot1 q no, ot2 q no] := by
  obtain ⟨hq1, hq2⟩ := TQ_tri q hq
  obtain ⟨t1, t2, t3⟩ := tri_lt hq2 hq1
  obtain ⟨-, h1, h2, h3⟩ := TQ_fx q hq
  unfold ot1 ot2
  rcases hn with rfl | rfl | rfl
  · rw [h1, if_pos rfl, if_neg (by omega)]
  · rw [h2, if_neg (by omega), if_neg (by omega)]
  · rw [h3, if_neg (by omega), if_pos rfl]
theorem ot_ne {q no : Nat} (hq : q ∈ TQ) (hn : no = qx q ∨ no = qy q ∨ no = qz q) : no < 8 ∧ ot1 q no < 8 ∧ ot2 q no < 8 ∧ no ≠ ot1 q no ∧ no ≠ ot2 q no ∧ ot1 q no ≠ ot2 q no ∧ ∀ χ : Chi, inq χ q = true → χ no = true ∧ χ (ot1 q no) = true ∧ χ (ot2 q no) = true := by
  obtain ⟨hq1, hq2⟩ := TQ_tri q hq
  obtain ⟨t1, t2, t3⟩ := tri_lt hq2 hq1
  have hχ : ∀ χ : Chi, inq χ q = true → χ (qx q) = true ∧ χ (qy q) = true ∧ χ (qz q) = true := fun χ hi => by
    unfold inq at hi
    simp only [Bool.and_eq_true] at hi
    exact ⟨hi.1.1, hi.1.2, hi.2⟩
  unfold ot1 ot2
  rcases hn with rfl | rfl | rfl
  · rw [if_pos rfl, if_neg (by omega)]
    exact ⟨by omega, by omega, by omega, by omega, by omega, by omega, fun χ hi => by obtain ⟨a, b, c⟩ := hχ χ hi; exact ⟨a, b, c⟩⟩
  · rw [if_neg (by omega), if_neg (by omega)]
    exact ⟨by omega, by omega, by omega, by omega, by omega, by omega, fun χ hi => by obtain ⟨a, b, c⟩ := hχ χ hi; exact ⟨b, a, c⟩⟩
  · rw [if_neg (by omega), if_pos rfl]
    exact ⟨by omega, by omega, by omega, by omega, by omega, by omega, fun χ hi => by obtain ⟨a, b, c⟩ := hχ χ hi; exact ⟨c, a, b⟩⟩
section XLINE
variable {w h L nt : Nat} {τ : Nat → Txt} {n : Nat} {op : Nat → Chi} {tg : Nat → Nat} {O : Pos → Chi} {S : Pos → Nat → Nat → Pos} {Q : Nat → Pos} {R U : Pos → Nat} {M : Mem}
/-- what the class has decided -/
def VlX (Q : Nat → Pos) (n : Nat) (R U : Pos → Nat) (M : Mem) : Prop := (∀ i, i < n → mI M 221 i = nI (R (Q i)) ∧ (R (Q i) ≠ 0 → mI M 222 i = nI (U (Q i)))) ∧ (∀ π, R π ≤ 2) ∧ ∀ π, U π ≤ 2000
def xvl (S : Pos → Nat → Nat → Pos) (R U : Pos → Nat) (π : Pos) (no m : Nat) : Nat := if R (S π no m) = 3 - R π then U (S π no m) else 1000000
def mnX (wn : Bool) (c v : Nat) : Nat := if wn = true then (if v < c then v else c) else (if c < v then v else c)
theorem e_64' {i no x : Nat} : (nI i * (64 : Int32) + nI no * (8 : Int32)) + nI x = nI (64 * i + 8 * no + x) := by
  rw [show (64 : Int32) = nI 64 from rfl, show (8 : Int32) = nI 8 from rfl, pk_mul, pk_mul, nI_add, nI_add]
  congr 1
  omega
/-- an exit as it is read -/
theorem x_rd {i no m : Nat} (hO : OpX n op tg M) (hG : Grf O S Q n op tg) (hV : VlX Q n R U M) (hi : i < n) (h1 : no < 8) (h2 : m < 8) (h3 : no ≠ m) (h4 : op i no = true) (h5 : op i m = true) : ∃ j, j < n ∧ mI M 213 (64 * i + 8 * no + m) = nI j ∧ Q j = S (Q i) no m ∧ mI M 221 j = nI (R (S (Q i) no m)) ∧ (R (S (Q i) no m) ≠ 0 → mI M 222 j = nI (U (S (Q i) no m))) := by
  have e : eg (O (Q i)) no m = true := by
    rw [← hG.1 i hi]
    unfold eg
    rw [h4, h5]
    simp [h3]
  obtain ⟨g0, g1, g2⟩ := hG.ex hi h1 h2 e
  have k := hV.1 _ g1
  rw [g2] at k
  exact ⟨_, g1, (hO.2 _ (by omega) g0).2, g2, k.1, k.2⟩
theorem i3_sub {r : Nat} (h : r ≤ 2) : (3 : Int32) - nI r = nI (3 - r) := by
  rcases (show r = 0 ∨ r = 1 ∨ r = 2 by omega) with rfl | rfl | rfl <;> decide
theorem x_nl_l {i no q : Nat} {wn : Bool} (hb : Bs w h L nt τ M) (hO : OpX n op tg M) (hG : Grf O S Q n op tg) (hV : VlX Q n R U M) (hn : n ≤ 2000) (hi : i < n) (hr : R (Q i) = 1 ∨ R (Q i) = 2) (hno : no < 8) (ho : op i no = true) (hq : ∀ m, tch q m = true → op i m = true) : ∀ (k f m c : Nat), m + k = 8 → k < f → c ≤ 1000000 → f_X0_noLength_33 f (some 220) (nI i) (nI (bS (tch q) 8)) (nI no) (nI wn.toNat) (nI c) (nI m) M = some (nI (((List.range' m k).filter (fun m => tch q m && !(m == no))).foldl (fun c m => mnX wn c (xvl S R U (Q i) no m)) c), M)
  | k, 0, m, c, _, hf, _ => absurd hf (by omega)
  | 0, f + 1, m, c, hm, _, _ => by
    obtain rfl : m = 8 := by omega
    rw [u_X0_noLength_33]
    unfold b_X0_noLength_33
    rw [if_pos (by decide)]
    rfl
  | k + 1, f + 1, m, c, hm, hf, hc => by
    have hl := hb.lay
    have ih := fun c hc => x_nl_l (wn := wn) hb hO hG hV hn hi hr hno ho hq k f (m + 1) c (by omega) (by omega) hc
    rw [u_X0_noLength_33, List.range'_succ]
    unfold b_X0_noLength_33
    rw [if_neg (show ¬ (8 : Int32) ≤ nI m from nI_ge (b := 8) (by omega) (by decide)), nI_1]
    by_cases e : m = no
    · rw [if_pos (by rw [e]), List.filter_cons_of_neg (by simp [e])]
      exact ih c hc
    · rw [if_neg (nIne (by omega) (by omega) e)]
      cases ht : tch q m with
      | false =>
        rw [if_pos ((bS_in (by decide) (by omega)).mpr ht), List.filter_cons_of_neg (by simp [ht])]
        exact ih c hc
      | true =>
        obtain ⟨j, j1, j2, j3, j4, j5⟩ := x_rd hO hG hV hi hno (show m < 8 by omega) (fun z => e z.symm) ho (hq m ht)
        have r2 := hV.2.1 (S (Q i) no m)
        have u2 := hV.2.2 (S (Q i) no m)
        have s107 : ∀ v, v ≤ 1000000 → f_X0_noLength_107 (f_X0_noLength_33 f) (some 220) (nI i) (nI (bS (tch q) 8)) (nI no) (nI wn.toNat) (nI c) (nI m) (nI v) M = some (nI (((List.range' (m + 1) k).filter (fun m => tch q m && !(m == no))).foldl (fun c m => mnX wn c (xvl S R U (Q i) no m)) (mnX wn c v)), M) := by
          intro v hv
          have hle : mnX wn c v ≤ 1000000 := by
            unfold mnX
            cases wn with
            | false => rw [if_neg (by decide)]; split <;> omega
            | true => rw [if_pos rfl]; split <;> omega
          rw [← ih _ hle]
          unfold f_X0_noLength_107 mnX
          cases wn with
          | false =>
            rw [if_pos (by decide), nI_1, if_neg (show ¬ false = true by decide)]
            congr 1
            by_cases z : c < v
            · rw [if_pos (nI_lt z (by omega)), if_pos z]
            · rw [if_neg (nI_nlt (by omega) (by omega)), if_neg z]
          | true =>
            rw [if_neg (by decide), nI_1, if_pos rfl]
            congr 1
            by_cases z : v < c
            · rw [if_pos (nI_lt z (by omega)), if_pos z]
            · rw [if_neg (nI_nlt (by omega) (by omega)), if_neg z]
        rw [if_neg (fun z => by rw [bS_in (by decide) (by omega), ht] at z; cases z), gR_t (ly_t220 hl), ly_r220_2 hl, gR_t (ly_t211 hl), ly_r211_1 hl, e_64', aI_t (ly_t213 hl) (by omega) (by decide), j2, gR_t (ly_t220 hl), ly_r220_0 hl, aI_t (ly_t221 hl) (by omega) (by decide), j4, gR_t (ly_t220 hl), ly_r220_0 hl, aI_t (ly_t221 hl) (by omega) (by decide), (hV.1 i hi).1, i3_sub (hV.2.1 _), List.filter_cons_of_pos (by simp [ht, e]), List.foldl_cons]
        have hxv : xvl S R U (Q i) no m = if R (S (Q i) no m) = 3 - R (Q i) then U (S (Q i) no m) else 1000000 := rfl
        by_cases z : R (S (Q i) no m) = 3 - R (Q i)
        · rw [if_pos (by rw [z]), gR_t (ly_t220 hl), ly_r220_1 hl, aI_t (ly_t222 hl) (by omega) (by decide), j5 (by omega), hxv, if_pos z]
          exact s107 _ (by omega)
        · rw [if_neg (nIne (by omega) (by omega) z), hxv, if_neg z]
          exact s107 1000000 (Nat.le_refl _)
theorem x_noLength {i no q : Nat} (hb : Bs w h L nt τ M) (hO : OpX n op tg M) (hG : Grf O S Q n op tg) (hV : VlX Q n R U M) (hn : n ≤ 2000) (hi : i < n) (hr : R (Q i) = 1 ∨ R (Q i) = 2) (hq : q ∈ TQ) (ho : inq (op i) q = true) (hno : no = qx q ∨ no = qy q ∨ no = qz q) : f_X0_noLength (some 220) (nI i) (nI (bS (tch q) 8)) (nI no) M = some (nI (cvt (nvP S R U (Q i) no (ot1 q no) (ot2 q no))), M) := by
  have hl := hb.lay
  obtain ⟨o1, o2, o3, o4, o5, o6, o7⟩ := ot_ne hq hno
  obtain ⟨p1, p2, p3⟩ := o7 _ ho
  have hqm : ∀ m, tch q m = true → op i m = true := fun m hm => by
    unfold inq at ho
    simp only [Bool.and_eq_true] at ho
    rcases tch_or.mp hm with rfl | rfl | rfl
    · exact ho.1.1
    · exact ho.1.2
    · exact ho.2
  have u1 := hV.2.2 (S (Q i) no (ot1 q no))
  have u2 := hV.2.2 (S (Q i) no (ot2 q no))
  unfold f_X0_noLength
  rw [gR_t (ly_t220 hl), ly_r220_0 hl, aI_t (ly_t221 hl) (by omega) (by decide), (hV.1 i hi).1]
  rcases hr with hr1 | hr1
  · have := x_nl_l (wn := true) (q := q) hb hO hG hV hn hi (Or.inl hr1) o1 p1 hqm 8 FU 0 1000000 (by omega) (by decide) (Nat.le_refl _)
    rw [TQ_ot hq hno] at this
    rw [if_pos (by rw [hr1]; rfl), if_neg (by decide)]
    refine Eq.trans this ?_
    congr 3
    unfold nvP
    rw [if_pos hr1]
    unfold lbP lbV cvt
    simp only [List.foldl_cons, List.foldl_nil, mnX, xvl, hr1, if_true]
    repeat' split
    all_goals omega
  · have := x_nl_l (wn := false) (q := q) hb hO hG hV hn hi (Or.inr hr1) o1 p1 hqm 8 FU 0 0 (by omega) (by decide) (by omega)
    rw [TQ_ot hq hno] at this
    rw [if_neg (ne_1 (by omega) (by omega)), if_pos rfl]
    refine Eq.trans this ?_
    congr 3
    unfold nvP
    rw [if_neg (by omega)]
    unfold wbP wbV cvt
    simp only [List.foldl_cons, List.foldl_nil, mnX, xvl, hr1, Bool.false_eq_true, if_false]
    repeat' split
    all_goals omega
end XLINE
