/-! ===== games by ways: the loops ===== -/
def ow (t : Nat) (a b : Option Nat) : Option Nat := if t = 0 then a else b
def stpS (w h : Nat) (τ : Nat → Txt) (x a b : Option Nat) (π : Pos) : Pos := sucS w h (tT τ x) π (wPN w h (tT τ x) (tT τ (ow π.2.2 a b)) (tT τ (ow (1 - π.2.2) a b)) π) (wPD w h (tT τ x) (tT τ (ow π.2.2 a b)) (tT τ (ow (1 - π.2.2) a b)) π)
def goS (w h : Nat) (τ : Nat → Txt) (x a b : Option Nat) : Nat → Pos → Nat × Pos
  | 0, π => (0, π)
  | n + 1, π => if popC (ablS w h (tT τ x) π) 8 < 3 then (0, π) else ((goS w h τ x a b n (stpS w h τ x a b π)).1 + 1, (goS w h τ x a b n (stpS w h τ x a b π)).2)
theorem goS_o {w h n : Nat} {τ : Nat → Txt} {x a b : Option Nat} {π : Pos} (h' : popC (ablS w h (tT τ x) π) 8 < 3) : goS w h τ x a b n π = (0, π) := by
  cases n with
  | zero => rfl
  | succ n => show (if _ then _ else _) = _; rw [if_pos h']
theorem goS_s {w h n : Nat} {τ : Nat → Txt} {x a b : Option Nat} {π : Pos} (h' : ¬ popC (ablS w h (tT τ x) π) 8 < 3) : goS w h τ x a b (n + 1) π = ((goS w h τ x a b n (stpS w h τ x a b π)).1 + 1, (goS w h τ x a b n (stpS w h τ x a b π)).2) := by
  show (if _ then _ else _) = _
  rw [if_neg h']
theorem goS_le {w h : Nat} {τ : Nat → Txt} {x a b : Option Nat} : ∀ (n : Nat) (π : Pos), (goS w h τ x a b n π).1 ≤ n
  | 0, π => Nat.le_refl _
  | n + 1, π => by
    by_cases h' : popC (ablS w h (tT τ x) π) 8 < 3
    · rw [goS_o h']; exact Nat.zero_le _
    · rw [goS_s h']; have := goS_le (w := w) (h := h) (τ := τ) (x := x) (a := a) (b := b) n (stpS w h τ x a b π); show _ + 1 ≤ n + 1; omega
theorem okX.owt {nt t : Nat} {a b : Option Nat} (ha : okX nt a) (hb : okX nt b) : okX nt (ow t a b) := by
  unfold ow
  split <;> assumption
section GAMES
variable {w h L nt : Nat} {τ : Nat → Txt}
theorem stp_ok {x a b : Option Nat} {π : Pos} (hd : okD w h) (okt : okT (tT τ x)) (ok : okN w h π) (ho : ¬ popC (ablS w h (tT τ x) π) 8 < 3) : okN w h (stpS w h τ x a b π) := by
  obtain ⟨w1, w2, w3, w4⟩ := wP_ok (W := tT τ (ow π.2.2 a b)) (V := tT τ (ow (1 - π.2.2) a b)) ho
  exact suc_ok hd okt ok w1 w2 w4
theorem go_ok {x a b : Option Nat} (hd : okD w h) (okt : okT (tT τ x)) : ∀ (n : Nat) (π : Pos), okN w h π → okN w h (goS w h τ x a b n π).2
  | 0, π, ok => ok
  | n + 1, π, ok => by
    by_cases h' : popC (ablS w h (tT τ x) π) 8 < 3
    · rw [goS_o h']; exact ok
    · rw [goS_s h']; exact go_ok hd okt n _ (stp_ok hd okt ok h')
abbrev byA (a : Nat) : List Nat := [a, 201, 202, 204, 205, 206, 207, 210]
abbrev byF : List (Nat × Nat) := [(203, 3), (209, 0), (209, 1)]
theorem by_ok {a : Nat} (ha : isPA a) : okA (byA a) = true ∧ 9 ∉ byA a ∧ 11 ∉ byA a ∧ (∀ q ∈ byF, q.1 ≠ 9) ∧ (∀ q ∈ byF, q.1 ≠ 11) := by
  rcases ha with rfl | rfl | rfl | rfl | rfl | rfl <;> decide
theorem x_ways_l {x W0 W1 : Option Nat} {a n : Nat} (ha : isPA a) (hx : okX nt x) (h0 : okX nt W0) (h1 : okX nt W1) (hn : n < 1000) : ∀ (k f i : Nat) (π : Pos) (M : Mem), i + k = n → k < f → Bs w h L nt τ M → okN w h π → PosAt a π M → mI M 9 5 = oI x → mI M 11 0 = oI W0 → mI M 11 1 = oI W1 → ∃ M', f_X11_byWays_2 f (some 8) (some a) (nI n) (nI i) M = some (nI (i + (goS w h τ x W0 W1 k π).1), M') ∧ Fx (byA a) byF M M' ∧ PosAt a (goS w h τ x W0 W1 k π).2 M'
  | k, 0, i, π, M => fun _ z => absurd z (by omega)
  | 0, f + 1, i, π, M => by
    intro hi _ hb ok hP hB hw0 hw1
    obtain rfl : i = n := by omega
    refine ⟨M, ?_, Fx.rf, hP⟩
    rw [u_X11_byWays_2]
    unfold b_X11_byWays_2
    rw [if_pos (Int32.le_refl _)]
    rfl
  | k + 1, f + 1, i, π, M => by
    intro hi hf hb ok hP hB hw0 hw1
    have hl := hb.lay
    have ht := ok.1.2.2.2
    obtain ⟨o1, o2, o3, o4, o5⟩ := by_ok ha
    rw [u_X11_byWays_2]
    unfold b_X11_byWays_2
    rw [if_neg (nI_ge (by omega) (by omega)), cR_t (ly_t8 hl)]
    obtain ⟨M1, e1, e2, e3, e4⟩ := x_isOverN hb hx ok.1 ha hP hB
    have fr1 : Fx (byA a) byF M M1 := e2.mono (by intro q hq; rcases ha with rfl | rfl | rfl | rfl | rfl | rfl <;> (revert q; decide)) (by decide)
    have hb1 := hb.fx e2 (by decide) (by decide)
    have hl1 := hb1.lay
    have hP1 := hP.fx e2 (pa_x ha)
    rw [e1, cA_s]
    by_cases ho : popC (ablS w h (tT τ x) π) 8 < 3
    · rw [if_pos ho, if_neg (by decide), goS_o ho]
      exact ⟨M1, rfl, fr1, hP1⟩
    · have how : ∀ t, t < 2 → mI M1 11 t = oI (ow t W0 W1) := fun t ht => by
        rw [e2.ib (by decide)]
        rcases (show t = 0 ∨ t = 1 by omega) with rfl | rfl
        · exact hw0
        · exact hw1
      have hy : okX nt (ow π.2.2 W0 W1) := h0.owt h1
      have hz : okX nt (ow (1 - π.2.2) W0 W1) := h0.owt h1
      obtain ⟨M2, d1, d2, d3, d4⟩ := x_decide hb1 ok.1 ha hP1 e4 hx e3 hy hz ho
      have hb2 := hb1.fx d2 (by decide) (by decide)
      have hl2 := hb2.lay
      have hP2 : PosAt a π M2 := hP1.fx d2 (by rcases ha with rfl | rfl | rfl | rfl | rfl | rfl <;> decide)
      have hL2 := e3.fx d2 (by decide) (by decide)
      have hB2 : mI M2 9 5 = oI x := by rw [d2.ib (by decide), e2.ib (by decide)]; exact hB
      obtain ⟨w1, w2, w3, w4⟩ := wP_ok (W := tT τ (ow π.2.2 W0 W1)) (V := tT τ (ow (1 - π.2.2) W0 W1)) ho
      obtain ⟨M3, a1, a2, a3⟩ := x_advance hb2 hx ok ha hP2 hL2 w1 w2 w3 w4
      have fr3 : Fx (byA a) byF M M3 := (fr1.tr (d2.mono (by intro q hq; rcases ha with rfl | rfl | rfl | rfl | rfl | rfl <;> (revert q; decide)) (by decide))).tr (a2.mono (by intro q hq; simp only [List.mem_singleton] at hq; subst hq; exact List.mem_cons_self) (by intro q hq; cases hq))
      rw [if_neg ho, if_pos (by decide), gI_t hP1.1, hP1.2.2.2, gR_t (ly_t8 hl1), ly_r8_2 hl1, gR_t (ly_t9 hl1), ly_r9_1 hl1, aI_t (ly_t11 hl1) ht (by decide), how _ ht, cR_t (ly_t8 hl1), x_rules hb1 hy, cA_s, gR_t (ly_t8 hl1), ly_r8_2 hl1, gR_t (ly_t9 hl1), ly_r9_1 hl1, show (1 : Int32) = nI 1 from rfl, pk_sub (by omega), aI_t (ly_t11 hl1) (by omega) (by decide), how _ (by omega), cR_t (ly_t8 hl1), x_rules hb1 hz, cA_s, gR_t (ly_t8 hl1), ly_r8_9 hl1, cR_t (ly_t209 hl1), d1, cA_s, gR_t (ly_t8 hl2), ly_r8_8 hl2, gR_t (ly_t8 hl2), ly_r8_2 hl2, gI_t (ly_t9 hl2), hB2, cR_t (ly_t8 hl2), x_rules hb2 hx, cA_s, gR_t (ly_t8 hl2), ly_r8_9 hl2, gI_t (ly_t209 hl2), d3, gR_t (ly_t8 hl2), ly_r8_9 hl2, gI_t (ly_t209 hl2), d4, cR_t (ly_t203 hl2), a1, cA_s, nI_add]
      obtain ⟨M4, z1, z2, z3⟩ := x_ways_l ha hx h0 h1 hn k f (i + 1) (stpS w h τ x W0 W1 π) M3 (by omega) (by omega) (hb.fx fr3 o1 (by decide)) (stp_ok hb.1 (hb.okT hx) ok ho) a3 (by rw [fr3.ib ⟨o2, o4⟩]; exact hB) (by rw [fr3.ib ⟨o3, o5⟩]; exact hw0) (by rw [fr3.ib ⟨o3, o5⟩]; exact hw1)
      rw [goS_s ho]
      refine ⟨M4, ?_, fr3.tr z2, z3⟩
      rw [z1]
      congr 3
      show i + 1 + _ = i + (_ + 1)
      omega
theorem x_ways {M : Mem} {x W0 W1 : Option Nat} {a n : Nat} {π : Pos} (hb : Bs w h L nt τ M) (ha : isPA a) (hx : okX nt x) (h0 : okX nt W0) (h1 : okX nt W1) (hn : n < 1000) (ok : okN w h π) (hP : PosAt a π M) (hB : mI M 9 5 = oI x) (hw0 : mI M 11 0 = oI W0) (hw1 : mI M 11 1 = oI W1) : ∃ M', f_X11_byWays (some 8) (some a) (nI n) M = some (nI (goS w h τ x W0 W1 n π).1, M') ∧ Fx (byA a) byF M M' ∧ PosAt a (goS w h τ x W0 W1 n π).2 M' := by
  have := x_ways_l ha hx h0 h1 hn n FU 0 π M (by omega) (by unfold FU; omega) hb ok hP hB hw0 hw1
  rw [Nat.zero_add] at this
  exact this
abbrev moA : List Nat := [252, 253, 254, 255, 256, 257, 258, 259]
abbrev moF : List (Nat × Nat) := [(230, 45), (230, 46), (230, 47), (230, 48), (230, 49)]
theorem y_ways_l {x W0 W1 : Option Nat} {n : Nat} (hx : okX nt x) (h0 : okX nt W0) (h1 : okX nt W1) (hn : n < 1000) : ∀ (k f i : Nat) (π : Pos) (M : Mem), i + k = n → k < f → Bs w h L nt τ M → okN w h π → MPos π M → LaidAt (canS w h (tT τ x) π) (ablS w h (tT τ x) π) 8 M → mI M 231 2 = oI x → mI M 231 3 = oI W0 → mI M 231 4 = oI W1 → ∃ M', f_X12_goesFor_6 f (some 230) (nI n) (nI i) M = some (nI (i + (goS w h τ x W0 W1 k π).1), M') ∧ Fx moA moF M M' ∧ MPos (goS w h τ x W0 W1 k π).2 M' ∧ LaidAt (canS w h (tT τ x) (goS w h τ x W0 W1 k π).2) (ablS w h (tT τ x) (goS w h τ x W0 W1 k π).2) 8 M'
  | k, 0, i, π, M => fun _ z => absurd z (by omega)
  | 0, f + 1, i, π, M => by
    intro hi _ hb ok hM hL hB hw0 hw1
    obtain rfl : i = n := by omega
    refine ⟨M, ?_, Fx.rf, hM, hL⟩
    rw [u_X12_goesFor_6]
    unfold b_X12_goesFor_6
    rw [if_pos (Int32.le_refl _)]
    rfl
  | k + 1, f + 1, i, π, M => by
    intro hi hf hb ok hM hL hB hw0 hw1
    have hl := hb.lay
    have ht := ok.1.2.2.2
    rw [u_X12_goesFor_6]
    unfold b_X12_goesFor_6
    rw [if_neg (nI_ge (by omega) (by omega)), cR_t (ly_t230 hl), y_isOver hb hL, cA_s]
    by_cases ho : popC (ablS w h (tT τ x) π) 8 < 3
    · rw [if_pos ho, if_neg (by decide), goS_o ho]
      exact ⟨M, rfl, Fx.rf, hM, hL⟩
    · have hO : mI M 231 (3 + π.2.2) = oI (ow π.2.2 W0 W1) := by
        rcases (show π.2.2 = 0 ∨ π.2.2 = 1 by omega) with e | e
        · rw [e]; exact hw0
        · rw [e]; exact hw1
      have hT : mI M 231 (4 - π.2.2) = oI (ow (1 - π.2.2) W0 W1) := by
        rcases (show π.2.2 = 0 ∨ π.2.2 = 1 by omega) with e | e
        · rw [e]; exact hw1
        · rw [e]; exact hw0
      obtain ⟨M1, a1, a2, a3⟩ := y_byWays hb hM ok hx (h0.owt h1) (h0.owt h1) hB hO hT hL ho
      have hb1 := hb.fx a2 (by decide) (by decide)
      have ok1 : okN w h (stpS w h τ x W0 W1 π) := stp_ok hb.1 (hb.okT hx) ok ho
      obtain ⟨M2, b1, b2, b3⟩ := y_moves (π := stpS w h τ x W0 W1 π) hb1 a3 ok1 hx (by rw [a2.ib (by decide)]; exact hB)
      have fr : Fx moA moF M M2 := (a2.mono (by decide) (by decide)).tr (b2.mono (by decide) (by decide))
      rw [if_neg ho, if_pos (by decide), cR_t (ly_t230 hl), a1, cA_s, cR_t (ly_t230 hb1.lay), b1, cA_s, nI_1]
      obtain ⟨M4, z1, z2, z3, z4⟩ := y_ways_l hx h0 h1 hn k f (i + 1) (stpS w h τ x W0 W1 π) M2 (by omega) (by omega) (hb.fx fr (by decide) (by decide)) ok1 (a3.fx b2 (by decide) (by decide)) b3 (by rw [fr.ib (by decide)]; exact hB) (by rw [fr.ib (by decide)]; exact hw0) (by rw [fr.ib (by decide)]; exact hw1)
      rw [goS_s ho]
      refine ⟨M4, ?_, fr.tr z2, z3, z4⟩
      rw [z1]
      congr 3
      show i + 1 + _ = i + (_ + 1)
      omega
theorem y_ways {M : Mem} {x W0 W1 : Option Nat} {n : Nat} {π : Pos} (hb : Bs w h L nt τ M) (hx : okX nt x) (h0 : okX nt W0) (h1 : okX nt W1) (hn : n < 1000) (ok : okN w h π) (hM : MPos π M) (hB : mI M 231 2 = oI x) (hw0 : mI M 231 3 = oI W0) (hw1 : mI M 231 4 = oI W1) : ∃ M', f_X12_goesFor (some 230) (nI n) M = some (nI (goS w h τ x W0 W1 n π).1, M') ∧ Fx moA moF M M' ∧ MPos (goS w h τ x W0 W1 n π).2 M' ∧ LaidAt (canS w h (tT τ x) (goS w h τ x W0 W1 n π).2) (ablS w h (tT τ x) (goS w h τ x W0 W1 n π).2) 8 M' := by
  obtain ⟨M1, b1, b2, b3⟩ := y_moves hb hM ok hx hB
  have fr : Fx moA moF M M1 := b2.mono (by decide) (by decide)
  obtain ⟨M2, z1, z2, z3⟩ := y_ways_l hx h0 h1 hn n FU 0 π M1 (by omega) (by unfold FU; omega) (hb.fx fr (by decide) (by decide)) ok (hM.fx b2 (by decide) (by decide)) b3 (by rw [fr.ib (by decide)]; exact hB) (by rw [fr.ib (by decide)]; exact hw0) (by rw [fr.ib (by decide)]; exact hw1)
  refine ⟨M2, ?_, fr.tr z2, z3⟩
  unfold f_X12_goesFor
  rw [cR_t (ly_t230 hb.lay), b1, cA_s]
  rw [Nat.zero_add] at z1
  exact z1
end GAMES
