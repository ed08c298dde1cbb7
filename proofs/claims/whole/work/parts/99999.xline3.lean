/-! ===== the line of the class: its plies ===== -/
section XLINE3
variable {w h L nt : Nat} {τ : Nat → Txt} {n : Nat} {op : Nat → Chi} {tg : Nat → Nat} {O : Pos → Chi} {S : Pos → Nat → Nat → Pos} {Q : Nat → Pos} {R U : Pos → Nat} {M : Mem}
theorem x_ld_l {i no q : Nat} (hb : Bs w h L nt τ M) (hO : OpX n op tg M) (hG : Grf O S Q n op tg) (hV : VlX Q n R U M) (hn : n ≤ 2000) (hi : i < n) (hr : R (Q i) = 1 ∨ R (Q i) = 2) (hU : 1 ≤ U (Q i)) (hno : no < 8) (ho : op i no = true) (hq : ∀ m, tch q m = true → op i m = true) : ∀ (k f m : Nat), m + k = 8 → k < f → f_X0_lineDone_3 f (some 220) (nI i) (nI (bS (tch q) 8)) (nI no) (nI m) M = some (nI ((((List.range' m k).filter (fun m => tch q m && !(m == no))).find? (fun m => decide (R (S (Q i) no m) = 3 - R (Q i) ∧ U (S (Q i) no m) = U (Q i) - 1))).getD 0), M)
  | k, 0, m, _, hf => absurd hf (by omega)
  | 0, f + 1, m, hm, _ => by
    obtain rfl : m = 8 := by omega
    rw [u_X0_lineDone_3]
    unfold b_X0_lineDone_3
    rw [if_pos (by decide)]
    rfl
  | k + 1, f + 1, m, hm, hf => by
    have hl := hb.lay
    have ih := x_ld_l hb hO hG hV hn hi hr hU hno ho hq k f (m + 1) (by omega) (by omega)
    have hUl := hV.2.2 (Q i)
    rw [u_X0_lineDone_3, List.range'_succ]
    unfold b_X0_lineDone_3
    rw [if_neg (show ¬ (8 : Int32) ≤ nI m from nI_ge (b := 8) (by omega) (by decide)), nI_1]
    by_cases e : m = no
    · rw [if_pos (by rw [e]), List.filter_cons_of_neg (by simp [e])]
      exact ih
    · rw [if_neg (nIne (by omega) (by omega) e)]
      cases ht : tch q m with
      | false =>
        rw [if_pos ((bS_in (by decide) (by omega)).mpr ht), List.filter_cons_of_neg (by simp [ht])]
        exact ih
      | true =>
        obtain ⟨j, j1, j2, j3, j4, j5⟩ := x_rd hO hG hV hi hno (show m < 8 by omega) (fun z => e z.symm) ho (hq m ht)
        have r2 := hV.2.1 (S (Q i) no m)
        have u2 := hV.2.2 (S (Q i) no m)
        rw [if_neg (fun z => by rw [bS_in (by decide) (by omega), ht] at z; cases z), gR_t (ly_t220 hl), ly_r220_2 hl, gR_t (ly_t211 hl), ly_r211_1 hl, e_64', aI_t (ly_t213 hl) (by omega) (by decide), j2, gR_t (ly_t220 hl), ly_r220_0 hl, aI_t (ly_t221 hl) (by omega) (by decide), j4, gR_t (ly_t220 hl), ly_r220_0 hl, aI_t (ly_t221 hl) (by omega) (by decide), (hV.1 i hi).1, i3_sub (hV.2.1 _), List.filter_cons_of_pos (by simp [ht, e]), List.find?_cons]
        by_cases z : R (S (Q i) no m) = 3 - R (Q i)
        · rw [if_pos (by rw [z]), gR_t (ly_t220 hl), ly_r220_1 hl, aI_t (ly_t222 hl) (by omega) (by decide), j5 (by omega), gR_t (ly_t220 hl), ly_r220_1 hl, aI_t (ly_t222 hl) (by omega) (by decide), (hV.1 i hi).2 (by omega), nI_p1 hU]
          by_cases z2 : U (S (Q i) no m) = U (Q i) - 1
          · rw [if_pos (by rw [z2]), decide_eq_true (show R (S (Q i) no m) = 3 - R (Q i) ∧ U (S (Q i) no m) = U (Q i) - 1 from ⟨z, z2⟩)]
            rfl
          · rw [if_neg (nIne (by omega) (by omega) z2), decide_eq_false (fun y => z2 y.2)]
            exact ih
        · rw [if_neg (nIne (by omega) (by omega) z), decide_eq_false (fun y => z y.1)]
          exact ih
theorem inq_t {χ : Chi} {q : Nat} (ho : inq χ q = true) : ∀ m, tch q m = true → χ m = true := fun m hm => by
  unfold inq at ho
  simp only [Bool.and_eq_true] at ho
  rcases tch_or.mp hm with rfl | rfl | rfl
  · exact ho.1.1
  · exact ho.1.2
  · exact ho.2
theorem x_lineDone {i q no : Nat} (hb : Bs w h L nt τ M) (hO : OpX n op tg M) (hG : Grf O S Q n op tg) (hV : VlX Q n R U M) (hn : n ≤ 2000) (hi : i < n) (hr : R (Q i) = 1 ∨ R (Q i) = 2) (hU : 1 ≤ U (Q i)) (hq : q ∈ TQ) (ho : inq (op i) q = true) (hno : no = qx q ∨ no = qy q ∨ no = qz q) (hnv : nvP S R U (Q i) no (ot1 q no) (ot2 q no) = U (Q i) - 1) : f_X0_lineDone (some 220) (nI i) (nI (bS (tch q) 8)) (nI no) M = some (nI (lnD S R U (Q i) q no), M) := by
  obtain ⟨o1, o2, o3, o4, o5, o6, o7⟩ := ot_ne hq hno
  obtain ⟨p1, p2, p3⟩ := o7 _ ho
  have h1 := x_ld_l hb hO hG hV hn hi hr hU o1 p1 (inq_t ho) 8 FU 0 (by omega) (by decide)
  rw [TQ_ot hq hno] at h1
  have h2 := lnD_f (S := S) (q := q) (no := no) hr (by have := hV.2.2 (Q i); omega) hnv
  refine Eq.trans h1 ?_
  congr 3
  unfold lnD at h2 ⊢
  rw [List.find?_cons, List.find?_cons, List.find?_nil]
  by_cases z : R (S (Q i) no (ot1 q no)) = 3 - R (Q i) ∧ U (S (Q i) no (ot1 q no)) = U (Q i) - 1
  · rw [if_pos z, decide_eq_true z]; rfl
  · rw [if_neg z] at h2 ⊢
    rw [decide_eq_false z, decide_eq_true h2]; rfl
/-- the line, ply by ply -/
def lnS1 (O : Pos → Chi) (S : Pos → Nat → Nat → Pos) (R U : Pos → Nat) (π : Pos) : Pos := S π (lnN S R U π (lnQ O S R U π)) (lnD S R U π (lnQ O S R U π) (lnN S R U π (lnQ O S R U π)))
/-- what is told of a ply of the line -/
def lnT (O : Pos → Chi) (S : Pos → Nat → Nat → Pos) (R U : Pos → Nat) (π : Pos) (v : Nat) : Nat := if v = 0 then qx (lnQ O S R U π) else if v = 1 then qy (lnQ O S R U π) else if v = 2 then qz (lnQ O S R U π) else if v = 3 then lnN S R U π (lnQ O S R U π) else lnD S R U π (lnQ O S R U π) (lnN S R U π (lnQ O S R U π))
def lnA (O : Pos → Chi) (S : Pos → Nat → Nat → Pos) (R U : Pos → Nat) (v : Nat) : Nat → Pos → Nat
  | 0, π => lnT O S R U π v
  | k + 1, π => lnA O S R U v k (lnS1 O S R U π)
/-- all of a step of the line -/
theorem ln_all {π : Pos} (hf : LnF O S R U π) (hU : U π ≤ 2000) : ∃ q no dn, q = lnQ O S R U π ∧ no = lnN S R U π q ∧ dn = lnD S R U π q no ∧ q ∈ TQ ∧ inq (O π) q = true ∧ ofP S R U π q = U π - 1 ∧ (no = qx q ∨ no = qy q ∨ no = qz q) ∧ nvP S R U π no (ot1 q no) (ot2 q no) = U π - 1 ∧ (dn = ot1 q no ∨ dn = ot2 q no) ∧ R (S π no dn) = 3 - R π ∧ U (S π no dn) = U π - 1 := by
  obtain ⟨a1, a2, a3⟩ := lnQ_f hf
  have hr : R π = 1 ∨ R π = 2 := by
    rcases hf.2.2 with z | z
    · exact Or.inl z.1
    · exact Or.inr z.1
  obtain ⟨hq1, hq2⟩ := TQ_tri _ a1
  obtain ⟨t1, t2, t3⟩ := tri_lt hq2 hq1
  rcases lnN_f hr a3 with ⟨b1, b2⟩ | b
  · have c := lnD_f (S := S) hr (by omega) b1
    refine ⟨_, _, _, rfl, rfl, rfl, a1, a2, a3, b2, b1, ?_, c.1, c.2⟩
    unfold lnD
    split
    · exact Or.inl rfl
    · exact Or.inr rfl
  · omega
/-- a row of states along which the line goes -/
def LnC (O : Pos → Chi) (S : Pos → Nat → Nat → Pos) (R U : Pos → Nat) (Q : Nat → Pos) (n : Nat) : Prop := ∀ i, i < n → R (Q i) ≠ 0 → 0 < U (Q i) → LnF O S R U (Q i)
theorem x_la_l {v : Nat} (hv : v < 5) (hb : Bs w h L nt τ M) (hO : OpX n op tg M) (hG : Grf O S Q n op tg) (hV : VlX Q n R U M) (hn : n ≤ 2000) (hC : LnC O S R U Q n) : ∀ (k f p j i : Nat), p + k = j → k < f → j < 2000 → i < n → R (Q i) ≠ 0 → k < U (Q i) → f_X0_lineAt_26 f (some 220) (nI j) (nI v) (nI i) (nI p) M = some (nI (lnA O S R U v k (Q i)), M)
  | k, 0, p, j, i => fun _ z => absurd z (by omega)
  | k, f + 1, p, j, i => by
    intro hp hf hj hi hr hk
    have hl := hb.lay
    have hf' := hC i hi hr (by omega)
    have hr' : R (Q i) = 1 ∨ R (Q i) = 2 := by have := hV.2.1 (Q i); omega
    have hU2 := hV.2.2 (Q i)
    obtain ⟨q, no, dn, e1, e2, e3, a1, a2, a3, a4, a5, a6, a7, a8⟩ := ln_all hf' hU2
    have ho : inq (op i) q = true := by rw [hG.1 i hi]; exact a2
    obtain ⟨o1, o2, o3, o4, o5, o6, o7⟩ := ot_ne a1 a4
    obtain ⟨p1, p2, p3⟩ := o7 _ ho
    have f1 := x_lineOffer hb hO hG hV hn hi hr' hf'
    have f2 := x_lineNo hb hO hG hV hn hi hr' (by omega) a1 ho a3
    have f3 := x_lineDone hb hO hG hV hn hi hr' (by omega) a1 ho a4 a5
    rw [← e1] at f1
    rw [← e2] at f2
    rw [← e3] at f3
    have hd8 : dn < 8 ∧ no ≠ dn ∧ op i dn = true := by
      rcases a6 with z | z
      · rw [z]; exact ⟨o2, o4, p2⟩
      · rw [z]; exact ⟨o3, o5, p3⟩
    rw [u_X0_lineAt_26]
    unfold b_X0_lineAt_26
    match k, hp, hk with
    | 0, hp, hk =>
      obtain rfl : p = j := by omega
      show _ = some (nI (lnT O S R U (Q i) v), M)
      unfold lnT
      rw [← e1, ← e2, ← e3, if_pos (Int32.le_refl _), cR_t (ly_t220 hl), f1, cA_s]
      have m3 := x_member3 (M := M) a1
      rcases (show v = 0 ∨ v = 1 ∨ v = 2 ∨ v = 3 ∨ v = 4 by omega) with rfl | rfl | rfl | rfl | rfl
      · rw [if_neg (by decide), show f_X10_member (nI (bS (tch q) 8)) (nI 0) M = _ from m3.1, cA_s, if_pos rfl]
      · rw [if_neg (by decide), show f_X10_member (nI (bS (tch q) 8)) (nI 1) M = _ from m3.2.1, cA_s, if_neg (by decide), if_pos rfl]
      · rw [if_neg (by decide), show f_X10_member (nI (bS (tch q) 8)) (nI 2) M = _ from m3.2.2, cA_s, if_neg (by decide), if_neg (by decide), if_pos rfl]
      · rw [if_pos (by decide), cR_t (ly_t220 hl), f2, cA_s, if_pos (by decide), if_neg (by decide), if_neg (by decide), if_neg (by decide), if_pos rfl]
      · rw [if_pos (by decide), cR_t (ly_t220 hl), f2, cA_s, if_neg (by decide), cR_t (ly_t220 hl), f3, cA_s, if_neg (by decide), if_neg (by decide), if_neg (by decide), if_neg (by decide)]
    | k + 1, hp, hk =>
      obtain ⟨t, t1, t2, t3, t4, t5⟩ := x_rd hO hG hV hi o1 hd8.1 hd8.2.1 p1 hd8.2.2
      have ih := x_la_l hv hb hO hG hV hn hC k f (p + 1) j t (by omega) (by omega) hj t1 (by rw [t3, a7]; omega) (by rw [t3, a8]; omega)
      rw [if_neg (nI_ge (by omega) (by omega)), cR_t (ly_t220 hl), f1, cA_s, cR_t (ly_t220 hl), f2, cA_s, gR_t (ly_t220 hl), ly_r220_2 hl, gR_t (ly_t211 hl), ly_r211_1 hl, cR_t (ly_t220 hl), f3, cA_s, e_64', aI_t (ly_t213 hl) (by omega) (by decide), t2, nI_1, ih, t3]
      show some (nI (lnA O S R U v k (S (Q i) no dn)), M) = some (nI (lnA O S R U v k (lnS1 O S R U (Q i))), M)
      unfold lnS1
      rw [← e1, ← e2, ← e3]
theorem x_lineAt {j v : Nat} (hv : v < 5) (hj : j < 2 ^ 31) (hb : Bs w h L nt τ M) (hO : OpX n op tg M) (hG : Grf O S Q n op tg) (hV : VlX Q n R U M) (hn : n ≤ 2000) (hC : LnC O S R U Q n) (h0 : 0 < n) : f_X0_lineAt (some 220) (nI j) (nI v) M = some (if R (Q 0) ≠ 0 ∧ j < U (Q 0) then nI (lnA O S R U v j (Q 0)) else -1, M) := by
  have hl := hb.lay
  have r2 := hV.2.1 (Q 0)
  have u2 := hV.2.2 (Q 0)
  unfold f_X0_lineAt
  rw [gR_t (ly_t220 hl), ly_r220_0 hl, show aI M (some 221) 2 (0 : Int32) = aI M (some 221) 2 (nI 0) from rfl, aI_t (ly_t221 hl) (by decide) (by decide), (hV.1 0 h0).1]
  by_cases hr : R (Q 0) = 0
  · rw [if_pos (by rw [hr]; rfl), if_neg (fun z => z.1 hr)]
  · rw [if_neg (ne_0 (by omega) hr), gR_t (ly_t220 hl), ly_r220_1 hl, show aI M (some 222) 2 (0 : Int32) = aI M (some 222) 2 (nI 0) from rfl, aI_t (ly_t222 hl) (by decide) (by decide), (hV.1 0 h0).2 hr]
    by_cases hk : j < U (Q 0)
    · rw [if_pos (nI_lt hk (by omega)), if_pos (show R (Q 0) ≠ 0 ∧ j < U (Q 0) from ⟨hr, hk⟩)]
      exact x_la_l hv hb hO hG hV hn hC j FU 0 j 0 (by omega) (by unfold FU; omega) (by omega) h0 hr hk
    · rw [if_neg (nI_nlt (by omega) hj), if_neg (show ¬ (R (Q 0) ≠ 0 ∧ j < U (Q 0)) from fun z => hk z.2)]
end XLINE3
