/-! ===== whether a game is over; a ply ===== -/
def bcV (v : Int32) : Int32 := ((f_J6_bitCount_0f7a4 v (fun _ => (0, 0), 0, fun _ _ => 0, fun _ _ => 0, fun _ _ => none)).getD (0, (fun _ => (0, 0), 0, fun _ _ => 0, fun _ _ => 0, fun _ _ => none))).1
theorem bcV_8 : ∀ n, n < 256 → bcV (nI n) = nI (popC (fun m => n.testBit m) 8) := by decide +kernel
theorem bc_bS (χ : Chi) (M : Mem) : f_J6_bitCount_0f7a4 (nI (bS χ 8)) M = some (nI (popC χ 8), M) := by
  show some (bcV (nI (bS χ 8)), M) = _
  rw [bcV_8 _ (bS_lt χ 8), popC_ext (ψ := χ) 8 (fun m hm => by rw [bS_bit]; simp [hm])]
theorem bS_shr1 {χ : Chi} {m : Nat} (hm : m < 8) : (nI (bS χ 8) >>> (nI m &&& 31)) &&& (1 : Int32) = nI (χ m).toNat := by
  have h := bS_lt χ 8
  rw [pk_shrN (by omega) _ m (s_l m (by omega)), show (1 : Int32) = nI 1 from rfl, nx_and]
  congr 1
  have := bS_bit χ 8 m
  rw [Nat.testBit_eq_decide_div_mod_eq] at this
  rw [Nat.and_one_is_mod]
  cases hc : χ m with
  | false => rw [hc] at this; simp at this; simp; omega
  | true => rw [hc] at this; simp [hm] at this; simp; omega
theorem y_bits_l {χ : Chi} {M : Mem} : ∀ (k n m : Nat), m + k = 8 → k < n → f_X12_bits_4 n (nI (bS χ 8)) (nI (popC χ m)) (nI m) M = some (nI (popC χ 8), M)
  | k, 0, m, _, hn => absurd hn (by omega)
  | 0, n + 1, m, hm, _ => by
    obtain rfl : m = 8 := by omega
    rw [u_X12_bits_4]
    unfold b_X12_bits_4
    rw [if_pos (by decide)]
  | k + 1, n + 1, m, hm, hn => by
    rw [u_X12_bits_4]
    unfold b_X12_bits_4
    rw [if_neg (show ¬ (8 : Int32) ≤ nI m from nI_ge (b := 8) (by omega) (by decide)), bS_shr1 (by omega), nI_add, nI_1]
    exact y_bits_l k n (m + 1) (by omega) (by omega)
theorem y_bits (χ : Chi) (M : Mem) : f_X12_bits (nI (bS χ 8)) M = some (nI (popC χ 8), M) := y_bits_l 8 FU 0 (by omega) (by decide)
/-- the look at what the heap has -/
def lkB (w h : Nat) (T : Txt) (π : Pos) : Nat → Bst := fun m => if decide (0 < π.2.1 m) = true then canS w h T π m else none
theorem lkB_is {w h : Nat} {T : Txt} {π : Pos} {m : Nat} : (lkB w h T π m).isSome = ablS w h T π m := by
  unfold lkB ablS
  by_cases q : 0 < π.2.1 m
  · simp [q]
  · simp [q]
theorem LookAt.abl {w h : Nat} {T : Txt} {π : Pos} {M : Mem} (hL : LookAt (lkB w h T π) M) : mI M 203 3 = nI (bS (ablS w h T π) 8) := by
  rw [hL.1]
  congr 1
  exact bS_ext (fun m _ => lkB_is)
theorem abl_can {w h : Nat} {T : Txt} {π : Pos} {m : Nat} (ha : ablS w h T π m = true) : 0 < π.2.1 m ∧ ∃ b, canS w h T π m = some b := by
  unfold ablS at ha
  simp only [Bool.and_eq_true, decide_eq_true_eq] at ha
  exact ⟨ha.1, Option.isSome_iff_exists.mp ha.2⟩
section OVER
variable {w h L nt : Nat} {τ : Nat → Txt} {π : Pos} {M : Mem}
theorem x_rules {x : Option Nat} (hb : Bs w h L nt τ M) (hx : okX nt x) : f_X11_rules (some 8) (oI x) M = some (some (rT x), M) := by
  have hl := hb.lay
  unfold f_X11_rules
  cases x with
  | none =>
    rw [oI_n, if_pos (show m1 < 0 by decide), gR_t (ly_t8 hl), ly_r8_5 hl]
    rfl
  | some t =>
    have h1 := hx t rfl
    have h2 := hb.2.2.2.2.1
    rw [oI_s, if_neg (nI_pos (by omega)), if_neg (show ¬ (6 : Int32) ≤ nI t from nI_ge (b := 6) (by omega) (by decide)), gR_t (ly_t8 hl), ly_r8_4 hl, aR_t (ly_t17 hl) (by omega) (by decide), hl.2.2.2.1 t (by omega)]
    rfl
theorem x_tooFew {χ : Chi} (hb : Bs w h L nt τ M) (hL : mI M 203 3 = nI (bS χ 8)) : f_X2_tooFew (some 203) M = some (if popC χ 8 < 3 then nI 1 else nI 0, M) := by
  have hle := popC_le χ 8
  unfold f_X2_tooFew
  rw [gI_t (ly_t203 hb.lay), hL, bc_bS, cA_s]
  by_cases hc : popC χ 8 < 3
  · rw [if_pos hc, if_neg (show ¬ (3 : Int32) ≤ nI (popC χ 8) from nI_ge (b := 3) hc (by decide)), tv_1]; rfl
  · rw [if_neg hc, if_pos (show (3 : Int32) ≤ nI (popC χ 8) from nI_le (a := 3) (by omega) (by omega)), tv_0]; rfl
theorem x_isOverN {x : Option Nat} {a : Nat} (hb : Bs w h L nt τ M) (hx : okX nt x) (ok : okP π) (ha : isPA a) (hP : PosAt a π M) (hB : mI M 9 5 = oI x) : ∃ M', f_X11_isOver (some 8) (some a) M = some (if popC (ablS w h (tT τ x) π) 8 < 3 then nI 1 else nI 0, M') ∧ Fx xA xF M M' ∧ LookAt (lkB w h (tT τ x) π) M' ∧ NmAt π M' := by
  have hl := hb.lay
  unfold f_X11_isOver
  obtain ⟨M1, e1, e2, e3, e4⟩ := x_lookN (μ := fun m => decide (0 < π.2.1 m)) hb hx ok ha hP
  have hb1 := hb.fx e2 (by decide) (by decide)
  have e3' : LookAt (lkB w h (tT τ x) π) M1 := e3
  refine ⟨M1, ?_, e2, e3', e4⟩
  rw [gR_t (ly_t8 hl), ly_r8_8 hl, gR_t (ly_t8 hl), ly_r8_2 hl, gI_t (ly_t9 hl), hB, cR_t (ly_t8 hl), x_rules hb hx, cA_s, cR_t hP.1, x_stock hP ok, cA_s, cR_t (ly_t203 hl), e1, cA_s, gR_t (ly_t8 hb1.lay), ly_r8_8 hb1.lay, cR_t (ly_t203 hb1.lay), x_tooFew hb1 e3'.abl, cA_s]
  by_cases hc : popC (ablS w h (tT τ x) π) 8 < 3
  · rw [if_pos hc, tv_n1]
  · rw [if_neg hc, tv_n0]
theorem x_isOver {x : Option Nat} {a : Nat} (hb : Bs w h L nt τ M) (hx : okX nt x) (ok : okP π) (ha : isPA a) (hP : PosAt a π M) (hB : mI M 9 5 = oI x) : ∃ M', f_X11_isOver (some 8) (some a) M = some (if popC (ablS w h (tT τ x) π) 8 < 3 then nI 1 else nI 0, M') ∧ Fx xA xF M M' ∧ LookAt (lkB w h (tT τ x) π) M' := by
  obtain ⟨M', e1, e2, e3, -⟩ := x_isOverN hb hx ok ha hP hB
  exact ⟨M', e1, e2, e3⟩
theorem x_winner {x : Option Nat} {a : Nat} (hb : Bs w h L nt τ M) (hx : okX nt x) (ok : okP π) (ha : isPA a) (hP : PosAt a π M) (hB : mI M 9 5 = oI x) : ∃ M', f_X11_winner (some 8) (some a) M = some (if popC (ablS w h (tT τ x) π) 8 < 3 then nI π.2.2 else m1, M') ∧ Fx xA xF M M' := by
  have hl := hb.lay
  unfold f_X11_winner
  obtain ⟨M1, e1, e2, e3⟩ := x_isOver hb hx ok ha hP hB
  have hP1 := hP.fx e2 (pa_x ha)
  refine ⟨M1, ?_, e2⟩
  rw [cR_t (ly_t8 hl), e1, cA_s]
  by_cases hc : popC (ablS w h (tT τ x) π) 8 < 3
  · rw [if_pos hc, if_neg (by decide), gI_t hP1.1, hP1.2.2.2, if_pos hc]
  · rw [if_neg hc, if_pos (by decide), if_neg hc]; rfl
theorem laid_abl {C : Nat → Bst} {χ : Chi} (hL : LaidAt C χ 8 M) : mI M 230 49 = nI (bS χ 8) := by
  rw [hL.1]
  exact congrArg nI (bS_ext (fun m hm => by simp [hm]))
theorem y_isOver {C : Nat → Bst} {χ : Chi} (hb : Bs w h L nt τ M) (hL : LaidAt C χ 8 M) : f_X12_isOver (some 230) M = some (if popC χ 8 < 3 then nI 1 else nI 0, M) := by
  have hle := popC_le χ 8
  unfold f_X12_isOver
  rw [gI_t (ly_t230 hb.lay), laid_abl hL, y_bits, cA_s]
  by_cases hc : popC χ 8 < 3
  · rw [if_pos hc, if_neg (show ¬ (3 : Int32) ≤ nI (popC χ 8) from nI_ge (b := 3) hc (by decide)), tv_1]; rfl
  · rw [if_neg hc, if_pos (show (3 : Int32) ≤ nI (popC χ 8) from nI_le (a := 3) (by omega) (by omega)), tv_0]; rfl
theorem suc_ok {T : Txt} {no dn : Nat} (hd : okD w h) (okt : okT T) (ok : okN w h π) (hno : no < 8) (hdn : dn < 8) (ha : ablS w h T π dn = true) : okN w h (sucS w h T π no dn) := by
  obtain ⟨h1, b, h2⟩ := abl_can ha
  obtain ⟨q1, q2, q3, c, q4, q5, q6, q7⟩ := bst_ok hd okt ok.1 hdn _ (Nat.le_refl _) b h2
  obtain ⟨hcell, hgo⟩ := to_goal q7
  have hact : actS w h T π dn = perfS w h π c b.2.1 b.2.2.1 := by unfold actS; rw [h2]; dsimp only; rw [q4]
  obtain ⟨p1, p2⟩ := perf_ok hd q2 ok (okt.ac q4 q5) hgo
  have ht := ok.1.2.2.2
  refine ⟨⟨?_, ?_, ?_, ?_⟩, ?_, ?_⟩
  · show ∀ p, actS w h T π dn p < 9
    rw [hact]; exact p1.1
  · show ∀ p, 12 ≤ p → actS w h T π dn p = 0
    rw [hact]; exact p1.2
  · intro m
    show heapB π.2.1 no dn m < 4
    have := ok.1.2.2.1 m
    unfold heapB
    repeat' split
    all_goals omega
  · show 1 - π.2.2 < 2
    omega
  · show ∀ p, w * h ≤ p → actS w h T π dn p = 0
    rw [hact]; exact p2
  · intro m hm
    show heapB π.2.1 no dn m = 0
    have := ok.2.2 m hm
    unfold heapB
    rw [if_neg (by omega), if_neg (by omega)]
    exact this
theorem x_advance {x : Option Nat} {a no dn : Nat} (hb : Bs w h L nt τ M) (hx : okX nt x) (ok : okN w h π) (ha : isPA a) (hP : PosAt a π M) (hL : LookAt (lkB w h (tT τ x) π) M) (hno : no < 8) (hdn : dn < 8) (hne : no ≠ dn) (hab : ablS w h (tT τ x) π dn = true) : ∃ M', f_X2_advance (some 203) (some a) (some (rT x)) (nI no) (nI dn) M = some ((), M') ∧ Fx [a] [] M M' ∧ PosAt a (sucS w h (tT τ x) π no dn) M' := by
  have hl := hb.lay
  have ht := ok.1.2.2.2
  obtain ⟨h1, b, h2⟩ := abl_can hab
  have hB : lkB w h (tT τ x) π dn = canS w h (tT τ x) π dn := by unfold lkB; rw [if_pos (by simpa using h1)]
  unfold f_X2_advance
  rw [cR_t hP.1, x_heapBehind hP ok.1 hno hdn hne h1, cA_s, cR_t (ly_t203 hl), x_perform hb hx ok hP hL hdn hB h2, cA_s, pI_t (by exact hP.1), gI_t (by exact hP.1), mI_nk (by decide), mI_sL, hP.2.2.2, pI_t (by exact hP.1), show (1 : Int32) = nI 1 from rfl, pk_sub (by omega)]
  refine ⟨_, rfl, ((Fx.wL (Or.inl (by simp))).I (Or.inl (by simp))).I (Or.inl (by simp)), hP.1, ?_, ?_, ?_⟩
  · rw [mL_sI, mL_sI, mL_e]; rfl
  · rw [mI_nk (by decide), mI_e]; rfl
  · rw [mI_e]; rfl
end OVER
