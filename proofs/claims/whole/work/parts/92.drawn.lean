/-! ===== games by draws ===== -/
def nxC (c : Nat) : Nat := (c * 157 + 53) % 30113
def sel3 (q i : Nat) : Nat := if i = 0 then qx q else if i = 1 then qy q else qz q
def dnI (i j : Nat) : Nat := if j < i then j else j + 1
theorem mem_sel : ∀ q ∈ TQ, ∀ i, i < 3 → nthP (tch q) mem3 0 (nI i) = some (sel3 q i) ∧ ∀ j, j < 2 → nthP (fun m => tch q m && !(m == sel3 q i)) mem3 0 (nI j) = some (sel3 q (dnI i j)) := by decide +kernel
theorem sel_ok : ∀ q ∈ TQ, ∀ i, i < 3 → sel3 q i < 8 ∧ tch q (sel3 q i) = true ∧ ∀ j, j < 2 → dnI i j < 3 ∧ sel3 q i ≠ sel3 q (dnI i j) := by decide +kernel
theorem told_sel : ∀ q ∈ TQ, told3 q < 800 ∧ told3 q / 100 = qx q ∧ told3 q / 10 % 10 = qy q ∧ told3 q % 10 = qz q := by decide +kernel
def drQ (χ : Chi) (c : Nat) : Nat := (nthP (inq χ) TQ 0 (nI (c % TQ.countP (inq χ)))).getD 0
def drN (χ : Chi) (c : Nat) : Nat := sel3 (drQ χ c) (nxC c % 3)
def drD (χ : Chi) (c : Nat) : Nat := sel3 (drQ χ c) (dnI (nxC c % 3) (nxC (nxC c) % 2))
def drS (w h : Nat) (T : Txt) : Nat → Nat → Pos → Nat × Pos
  | 0, c, π => (c, π)
  | n + 1, c, π => if popC (ablS w h T π) 8 < 3 then (c, π) else drS w h T n (nxC (nxC (nxC c))) (sucS w h T π (drN (ablS w h T π) c) (drD (ablS w h T π) c))
theorem drS_o {w h n c : Nat} {T : Txt} {π : Pos} (h' : popC (ablS w h T π) 8 < 3) : drS w h T n c π = (c, π) := by
  cases n with
  | zero => rfl
  | succ n => show (if _ then _ else _) = _; rw [if_pos h']
theorem drS_s {w h n c : Nat} {T : Txt} {π : Pos} (h' : ¬ popC (ablS w h T π) 8 < 3) : drS w h T (n + 1) c π = drS w h T n (nxC (nxC (nxC c))) (sucS w h T π (drN (ablS w h T π) c) (drD (ablS w h T π) c)) := by
  show (if _ then _ else _) = _
  rw [if_neg h']
theorem nxC_lt (c : Nat) : nxC c < 30113 := Nat.mod_lt _ (by decide)
theorem drQ_ok {χ : Chi} {c : Nat} (ho : ¬ popC χ 8 < 3) : 0 < TQ.countP (inq χ) ∧ TQ.countP (inq χ) ≤ 56 ∧ nthP (inq χ) TQ 0 (nI (c % TQ.countP (inq χ))) = some (drQ χ c) ∧ drQ χ c ∈ TQ ∧ inq χ (drQ χ c) = true := by
  obtain ⟨q, h1, h2⟩ := some3 ho
  have hc : 0 < TQ.countP (inq χ) := List.countP_pos_iff.mpr ⟨q, h1, h2⟩
  have hle : TQ.countP (inq χ) ≤ 56 := by have := List.countP_le_length (p := inq χ) (l := TQ); rw [TQ_len] at this; exact this
  obtain ⟨r, hr⟩ := nthP_lt (p := inq χ) TQ 0 (c % TQ.countP (inq χ)) (Nat.zero_le _) (by have := Nat.mod_lt c hc; omega)
  have e : drQ χ c = r := by unfold drQ; rw [hr]; rfl
  have hm := nthP_mem _ _ _ hr
  exact ⟨hc, hle, by rw [hr, e], by rw [e]; exact hm.1, by rw [e]; exact hm.2⟩
theorem dr_ok {χ : Chi} {c : Nat} (ho : ¬ popC χ 8 < 3) : drN χ c < 8 ∧ drD χ c < 8 ∧ drN χ c ≠ drD χ c ∧ χ (drD χ c) = true := by
  obtain ⟨-, -, -, h1, h2⟩ := drQ_ok (c := c) ho
  obtain ⟨s1, s2, s3⟩ := sel_ok _ h1 (nxC c % 3) (Nat.mod_lt _ (by decide))
  obtain ⟨s4, s5⟩ := s3 (nxC (nxC c) % 2) (Nat.mod_lt _ (by decide))
  obtain ⟨s6, s7, -⟩ := sel_ok _ h1 _ s4
  exact ⟨s1, s6, s5, inq_at h2 s7⟩
theorem drS_ok {w h : Nat} {T : Txt} (hd : okD w h) (okt : okT T) : ∀ (n c : Nat) (π : Pos), c ≤ 70002 → okN w h π → (drS w h T n c π).1 ≤ 70002 ∧ okN w h (drS w h T n c π).2
  | 0, c, π, hc, ok => ⟨hc, ok⟩
  | n + 1, c, π, hc, ok => by
    by_cases ho : popC (ablS w h T π) 8 < 3
    · rw [drS_o ho]; exact ⟨hc, ok⟩
    · rw [drS_s ho]
      obtain ⟨d1, d2, d3, d4⟩ := dr_ok (c := c) ho
      exact drS_ok hd okt n _ _ (by have := nxC_lt (nxC (nxC c)); omega) (suc_ok hd okt ok d1 d2 d4)
section DRAWN
variable {w h L : Nat} {s : Std} {τ : Nat → Txt}
theorem n30113 {X : Option (Int32 × Mem)} : nzI (30113 : Int32) X = X := nz_y (y := 30113) (by decide)
theorem nx_I {c : Nat} (hc : c ≤ 70002) : ((nI c * (157 : Int32)) + (53 : Int32)) - ((nI c * (157 : Int32)) + (53 : Int32)) / (30113 : Int32) * (30113 : Int32) = nI (nxC c) := by
  rw [show (157 : Int32) = nI 157 from rfl, show (53 : Int32) = nI 53 from rfl, show (30113 : Int32) = nI 30113 from rfl, pk_mul, nI_add, pk_rem (by omega) (by decide) (by decide)]
  rfl
theorem x_draw {M : Mem} {c m : Nat} (hp : Pre w h L s τ M) (hc : c ≤ 70002) (hC : mI M 8 15 = nI c) (hm : 0 < m) (hm2 : m < 100) : f_X11_draw (some 8) (nI m) M = some (nI (c % m), sI M 8 15 (nI (nxC c))) := by
  have hl := hp.1.lay
  unfold f_X11_draw
  rw [if_neg (nI_nle hm (by omega)), gI_t (ly_t8 hl), nz_y ⟨hm, by omega⟩, gI_t (ly_t8 hl), n30113, pI_t (ly_t8 hl), hC, nx_I hc, pk_rem (by omega) hm (by omega)]
theorem y_draw {M : Mem} {c m : Nat} (hp : Pre w h L s τ M) (hc : c ≤ 70002) (hC : mI M 230 57 = nI c) (hm : 0 < m) (hm2 : m < 100) : f_X12_draw (some 230) (nI m) M = some (nI (c % m), sI M 230 57 (nI (nxC c))) := by
  have hl := hp.1.lay
  unfold f_X12_draw
  rw [gI_t (ly_t230 hl), nz_y ⟨hm, by omega⟩, gI_t (ly_t230 hl), n30113, pI_t (ly_t230 hl), hC, nx_I hc, pk_rem (by omega) hm (by omega)]
abbrev dxA : List Nat := [47, 201, 202, 204, 205, 206, 207]
abbrev dxF : List (Nat × Nat) := [(203, 3), (8, 15)]
def winI (w h : Nat) (T : Txt) (π : Pos) : Int32 := if popC (ablS w h T π) 8 < 3 then nI π.2.2 else m1
theorem x_dw_l : ∀ (k f i c : Nat) (π : Pos) (M : Mem), i + k = 30 → k < f → c ≤ 70002 → Pre w h L s τ M → okN w h π → PosAt 47 π M → mI M 8 15 = nI c → ∃ M', f_X11_drawnWinner_16 f (some 8) (nI i) M = some (winI w h (tT τ (stB s)) (drS w h (tT τ (stB s)) k c π).2, M') ∧ Fx dxA dxF M M' ∧ mI M' 8 15 = nI (drS w h (tT τ (stB s)) k c π).1
  | k, 0, i, c, π, M => fun _ z => absurd z (by omega)
  | 0, f + 1, i, c, π, M => by
    intro hi _ hc hp ok hP hC
    obtain rfl : i = 30 := by omega
    have hl := hp.1.lay
    obtain ⟨M1, e1, e2⟩ := x_winner hp.1 hp.2.1.2.1 ok.1 pa47 hP hp.2.2.1.2.2.2.2.2.2
    refine ⟨M1, ?_, e2.mono (by decide) (by decide), by rw [e2.i (by decide) (by decide)]; exact hC⟩
    rw [u_X11_drawnWinner_16]
    unfold b_X11_drawnWinner_16
    rw [if_pos (by decide), gR_t (ly_t8 hl), ly_r8_12 hl, cR_t (ly_t8 hl), e1, cA_s]
    rfl
  | k + 1, f + 1, i, c, π, M => by
    intro hi hf hc hp ok hP hC
    have hl := hp.1.lay
    have hx := hp.2.1.2.1
    obtain ⟨M1, e1, e2, e3⟩ := x_isOver hp.1 hx ok.1 pa47 hP hp.2.2.1.2.2.2.2.2.2
    have hp1 : Pre w h L s τ M1 := hp.fx2 e2 (by decide)
    have hl1 := hp1.1.lay
    have hP1 := hP.fx e2 (pa_x pa47)
    have hC1 : mI M1 8 15 = nI c := by rw [e2.i (by decide) (by decide)]; exact hC
    rw [u_X11_drawnWinner_16]
    unfold b_X11_drawnWinner_16
    rw [if_neg (show ¬ (30 : Int32) ≤ nI i from nI_ge (b := 30) (by omega) (by decide)), gR_t (ly_t8 hl), ly_r8_12 hl, cR_t (ly_t8 hl), e1, cA_s]
    by_cases ho : popC (ablS w h (tT τ (stB s)) π) 8 < 3
    · rw [if_pos ho, if_neg (by decide), gR_t (ly_t8 hl1), ly_r8_12 hl1, gI_t hP1.1, hP1.2.2.2, drS_o ho]
      refine ⟨M1, ?_, e2.mono (by decide) (by decide), hC1⟩
      unfold winI
      rw [if_pos ho]
    · obtain ⟨q1, q2, q3, q4, q5⟩ := drQ_ok (c := c) ho
      obtain ⟨d1, d2, d3, d4⟩ := dr_ok (c := c) ho
      obtain ⟨s1, s2⟩ := mem_sel _ q4 (nxC c % 3) (Nat.mod_lt _ (by decide))
      have s3 := s2 (nxC (nxC c) % 2) (Nat.mod_lt _ (by decide))
      have c1 := nxC_lt c
      have c2 := nxC_lt (nxC c)
      have fA : Fx dxA dxF M (sI M1 8 15 (nI (nxC c))) := (e2.mono (by decide) (by decide)).I (Or.inr (by decide))
      have hpA : Pre w h L s τ (sI M1 8 15 (nI (nxC c))) := hp.fx2 fA (by decide)
      have fB : Fx dxA dxF M (sI (sI M1 8 15 (nI (nxC c))) 8 15 (nI (nxC (nxC c)))) := fA.I (Or.inr (by decide))
      have hpB : Pre w h L s τ (sI (sI M1 8 15 (nI (nxC c))) 8 15 (nI (nxC (nxC c)))) := hp.fx2 fB (by decide)
      have fC : Fx dxA dxF M (sI (sI (sI M1 8 15 (nI (nxC c))) 8 15 (nI (nxC (nxC c)))) 8 15 (nI (nxC (nxC (nxC c))))) := fB.I (Or.inr (by decide))
      have hpC : Pre w h L s τ (sI (sI (sI M1 8 15 (nI (nxC c))) 8 15 (nI (nxC (nxC c)))) 8 15 (nI (nxC (nxC (nxC c))))) := hp.fx2 fC (by decide)
      have fD : Fx [] [(8, 15)] M1 (sI (sI (sI M1 8 15 (nI (nxC c))) 8 15 (nI (nxC (nxC c)))) 8 15 (nI (nxC (nxC (nxC c))))) := ((Fx.wI (Or.inr (by decide))).I (Or.inr (by decide))).I (Or.inr (by decide))
      obtain ⟨M5, a1, a2, a3⟩ := x_advance hpC.1 hx ok pa47 (hP1.fx fD (by decide)) (e3.fx fD (by decide) (by decide)) d1 d2 d3 d4
      have f5 : Fx dxA dxF M M5 := fC.tr (a2.mono (by decide) (by decide))
      obtain ⟨M6, z1, z2, z3⟩ := x_dw_l k f (i + 1) (nxC (nxC (nxC c))) _ M5 (by omega) (by omega) (by have := nxC_lt (nxC (nxC c)); omega) (hp.fx2 f5 (by decide)) (suc_ok hp.1.1 (hp.1.okT hx) ok d1 d2 d4) a3 (by rw [a2.i (by decide) (by decide), mI_e])
      refine ⟨M6, ?_, f5.tr z2, by rw [drS_s ho]; exact z3⟩
      rw [if_neg ho, if_pos (by decide), gR_t (ly_t8 hl1), ly_r8_7 hl1, gR_t (ly_t8 hl1), ly_r8_8 hl1, gI_t (ly_t203 hl1), e3.abl, gR_t (ly_t8 hl1), ly_r8_7 hl1, gR_t (ly_t8 hl1), ly_r8_8 hl1, gI_t (ly_t203 hl1), e3.abl, cR_t (ly_t45 hl1), x_count3 hp1.1, cA_s, cR_t (ly_t8 hl1), x_draw hp1 hc hC1 q1 (by omega), cA_s, cR_t (ly_t45 hpA.1.lay), x_nth hpA.1, cA_s, q3, cR_t (ly_t8 hpA.1.lay), show (3 : Int32) = nI 3 from rfl, x_draw hpA (by omega) mI_e (by decide) (by decide), cA_s, show bitsO (some (drQ (ablS w h (tT τ (stB s)) π) c)) = nI (bS (tch (drQ (ablS w h (tT τ (stB s)) π) c)) 8) from rfl, x_member, s1, Option.getD_some, cA_s, cR_t (ly_t8 hpB.1.lay), show (2 : Int32) = nI 2 from rfl, x_draw hpB (by omega) mI_e (by decide) (by decide), cA_s, bS_delI (by decide) (show sel3 (drQ (ablS w h (tT τ (stB s)) π) c) (nxC c % 3) < 8 from d1), x_member, s3, Option.getD_some, cA_s, gR_t (ly_t8 hpC.1.lay), ly_r8_8 hpC.1.lay, gR_t (ly_t8 hpC.1.lay), ly_r8_12 hpC.1.lay, gR_t (ly_t8 hpC.1.lay), ly_r8_2 hpC.1.lay, gI_t (ly_t9 hpC.1.lay), hpC.2.2.1.2.2.2.2.2.2, cR_t (ly_t8 hpC.1.lay), x_rules hpC.1 hx, cA_s, cR_t (ly_t203 hpC.1.lay), show f_X2_advance (some 203) (some 47) (some (rT (stB s))) (nI (sel3 (drQ (ablS w h (tT τ (stB s)) π) c) (nxC c % 3))) (nI (sel3 (drQ (ablS w h (tT τ (stB s)) π) c) (dnI (nxC c % 3) (nxC (nxC c) % 2)))) _ = _ from a1, cA_s, nI_1, drS_s ho]
      exact z1
/-- the draws over some games: how often a side wins -/
def drG (w h : Nat) (T : Txt) (π : Pos) (sd : Nat) : Nat → Nat → Nat
  | 0, _ => 0
  | n + 1, c => (if popC (ablS w h T (drS w h T 30 c π).2) 8 < 3 ∧ (drS w h T 30 c π).2.2.2 = sd then 1 else 0) + drG w h T π sd n (drS w h T 30 c π).1
theorem drG_le {w h : Nat} {T : Txt} {π : Pos} {sd : Nat} : ∀ n c, drG w h T π sd n c ≤ n
  | 0, _ => Nat.le_refl _
  | n + 1, c => by
    have := drG_le (w := w) (h := h) (T := T) (π := π) (sd := sd) n (drS w h T 30 c π).1
    show (if _ then _ else _) + _ ≤ _
    split <;> omega
theorem x_dr_l {n sd : Nat} (hn : n ≤ 20) (hsd : sd < 2) : ∀ (k f g c v : Nat) (M : Mem), g + k = n → k < f → v ≤ g → c ≤ 70002 → Pre w h L s τ M → mI M 8 15 = nI c → ∃ M', f_X11_drawn_48 f (some 8) (nI n) (nI sd) (nI v) (nI g) M = some (nI (v + drG w h (tT τ (stB s)) (stP s) sd k c), M') ∧ Fx dxA dxF M M'
  | k, 0, g, c, v, M => fun _ z => absurd z (by omega)
  | 0, f + 1, g, c, v, M => by
    intro hg _ _ _ hp hC
    obtain rfl : g = n := by omega
    refine ⟨M, ?_, Fx.rf⟩
    rw [u_X11_drawn_48]
    unfold b_X11_drawn_48
    rw [if_pos (Int32.le_refl _)]
    rfl
  | k + 1, f + 1, g, c, v, M => by
    intro hg hf hv hc hp hC
    have hl := hp.1.lay
    obtain ⟨M0, t1, t2, t3⟩ := x_try hp
    have hp0 : Pre w h L s τ M0 := hp.fx2 t2 (by decide)
    obtain ⟨M1, a1, a2, a3⟩ := x_dw_l 30 FU 0 c (stP s) M0 (by omega) (by decide) hc hp0 hp.2.1.1 t3 (by rw [t2.i (by decide) (by decide)]; exact hC)
    have fr : Fx dxA dxF M M1 := (t2.mono (by decide) (by decide)).tr a2
    have hdw : f_X11_drawnWinner (some 8) M = some (winI w h (tT τ (stB s)) (drS w h (tT τ (stB s)) 30 c (stP s)).2, M1) := by
      unfold f_X11_drawnWinner
      rw [gR_t (ly_t8 hl), ly_r8_12 hl, gR_t (ly_t8 hl), ly_r8_2 hl, gR_t (ly_t9 hl), ly_r9_0 hl, cR_t (ly_t47 hl), t1, cA_s]
      exact a1
    obtain ⟨k1, k2⟩ := drS_ok (T := tT τ (stB s)) hp.1.1 (hp.1.okT hp.2.1.2.1) 30 c (stP s) hc hp.2.1.1
    have h22 := k2.1.2.2.2
    rw [u_X11_drawn_48]
    unfold b_X11_drawn_48
    rw [if_neg (nI_ge (by omega) (by omega)), cR_t (ly_t8 hl), hdw, cA_s, nI_1, nI_1]
    by_cases hwn : popC (ablS w h (tT τ (stB s)) (drS w h (tT τ (stB s)) 30 c (stP s)).2) 8 < 3 ∧ (drS w h (tT τ (stB s)) 30 c (stP s)).2.2.2 = sd
    · obtain ⟨M2, z1, z2⟩ := x_dr_l hn hsd k f (g + 1) _ (v + 1) M1 (by omega) (by omega) (by omega) k1 (hp.fx2 fr (by decide)) a3
      refine ⟨M2, ?_, fr.tr z2⟩
      rw [if_pos (by unfold winI; rw [if_pos hwn.1, hwn.2]), z1]
      congr 3
      show v + 1 + _ = v + ((if _ then _ else _) + _)
      rw [if_pos hwn]
      omega
    · obtain ⟨M2, z1, z2⟩ := x_dr_l hn hsd k f (g + 1) _ v M1 (by omega) (by omega) (by omega) k1 (hp.fx2 fr (by decide)) a3
      refine ⟨M2, ?_, fr.tr z2⟩
      rw [if_neg (by
        unfold winI
        split
        · rename_i h1
          exact nIne (by omega) (by omega) (fun e => hwn ⟨h1, e⟩)
        · exact fun q => (m1_nI (by omega)).mp q), z1]
      congr 3
      show v + _ = v + ((if _ then _ else _) + _)
      rw [if_neg hwn]
      omega
abbrev dyA : List Nat := [252, 253, 254, 255, 256, 257, 258]
abbrev dyF : List (Nat × Nat) := [(230, 45), (230, 46), (230, 47), (230, 48), (230, 49), (230, 53), (230, 57)]
theorem y_drawsPly {M : Mem} {c : Nat} {π : Pos} (hp : Pre w h L s τ M) (hc : c ≤ 70002) (ok : okN w h π) (hM : MPos π M) (hL : LaidAt (canS w h (tT τ (stB s)) π) (ablS w h (tT τ (stB s)) π) 8 M) (ho : ¬ popC (ablS w h (tT τ (stB s)) π) 8 < 3) (hC : mI M 230 57 = nI c) : ∃ M', f_X12_drawsPly (some 230) M = some ((), M') ∧ Fx dyA dyF M M' ∧ MPos (sucS w h (tT τ (stB s)) π (drN (ablS w h (tT τ (stB s)) π) c) (drD (ablS w h (tT τ (stB s)) π) c)) M' ∧ mI M' 230 57 = nI (nxC (nxC (nxC c))) := by
  have hl := hp.1.lay
  have hx := hp.2.1.2.1
  obtain ⟨q1, q2, q3, q4, q5⟩ := drQ_ok (c := c) ho
  obtain ⟨d1, d2, d3, d4⟩ := dr_ok (c := c) ho
  obtain ⟨l1, l2, l3, l4⟩ := told_sel _ q4
  have c1 := nxC_lt c
  have c2 := nxC_lt (nxC c)
  obtain ⟨M1, a1, a2, a3⟩ := y_offerAt (v := -1) hp.1 (laid_abl hL)
  have hp1 : Pre w h L s τ M1 := hp.fx2 a2 (by decide)
  have hC1 : mI M1 230 57 = nI c := by rw [a2.i (by decide) (by decide)]; exact hC
  have fA : Fx [] [(230, 53), (230, 57)] M (sI M1 230 57 (nI (nxC c))) := (a2.mono (by decide) (by decide)).I (Or.inr (by decide))
  have hpA : Pre w h L s τ (sI M1 230 57 (nI (nxC c))) := hp.fx2 fA (by decide)
  obtain ⟨M2, b1, b2, b3⟩ := y_offerAt (v := nI (c % TQ.countP (inq (ablS w h (tT τ (stB s)) π)))) hpA.1 (laid_abl (hL.fx fA (by decide) (by decide)))
  rw [q3] at b1
  have b1 : f_X12_offerAt (some 230) (nI (c % TQ.countP (inq (ablS w h (tT τ (stB s)) π)))) (sI M1 230 57 (nI (nxC c))) = some (nI (told3 (drQ (ablS w h (tT τ (stB s)) π) c)), M2) := b1
  have fB : Fx [] [(230, 53), (230, 57)] M M2 := fA.tr (b2.mono (by decide) (by decide))
  have hpB : Pre w h L s τ M2 := hp.fx2 fB (by decide)
  have hCB : mI M2 230 57 = nI (nxC c) := by rw [b2.i (by decide) (by decide), mI_e]
  have fC : Fx [] [(230, 53), (230, 57)] M (sI M2 230 57 (nI (nxC (nxC c)))) := fB.I (Or.inr (by decide))
  have hpC : Pre w h L s τ (sI M2 230 57 (nI (nxC (nxC c)))) := hp.fx2 fC (by decide)
  have fD : Fx [] [(230, 53), (230, 57)] M (sI (sI M2 230 57 (nI (nxC (nxC c)))) 230 57 (nI (nxC (nxC (nxC c))))) := fC.I (Or.inr (by decide))
  have hpD : Pre w h L s τ (sI (sI M2 230 57 (nI (nxC (nxC c)))) 230 57 (nI (nxC (nxC (nxC c))))) := hp.fx2 fD (by decide)
  have hMD := hM.fx fD (by decide) (by decide)
  have hLD := hL.fx fD (by decide) (by decide)
  obtain ⟨g1, bb, g2⟩ := abl_can d4
  obtain ⟨f1, f2, f3⟩ := hLD.2 _ d2
  obtain ⟨M3, p1, p2, p3⟩ := y_plays hpD.1 hMD ok hx hpD.2.2.2.2.2.1 d1 d2 d3 g1 g2 f1 f2 f3
  refine ⟨M3, ?_, (fD.mono (by decide) (by decide)).tr (p2.mono (by decide) (by decide)), p3, by rw [p2.i (by decide) (by decide), mI_e]⟩
  have i3 : nxC c % 3 < 3 := Nat.mod_lt _ (by decide)
  have j2 : nxC (nxC c) % 2 < 2 := Nat.mod_lt _ (by decide)
  have key : ∀ jj, jj = dnI (nxC c % 3) (nxC (nxC c) % 2) → f_X12_drawsPly_47 (some 230) (nI (told3 (drQ (ablS w h (tT τ (stB s)) π) c))) (nI (nxC c % 3)) (nI jj) (sI (sI M2 230 57 (nI (nxC (nxC c)))) 230 57 (nI (nxC (nxC (nxC c))))) = some ((), M3) := by
    rintro jj rfl
    have j3 : dnI (nxC c % 3) (nxC (nxC c) % 2) < 3 := by unfold dnI; split <;> omega
    have n100 : ∀ {X : Option (Unit × Mem)}, nzI (100 : Int32) X = X := nz_y (y := 100) (by decide)
    have n10 : ∀ {X : Option (Unit × Mem)}, nzI (10 : Int32) X = X := nz_y (y := 10) (by decide)
    have e1 : nI (told3 (drQ (ablS w h (tT τ (stB s)) π) c)) / (100 : Int32) = nI (qx (drQ (ablS w h (tT τ (stB s)) π) c)) := by rw [← l2]; exact pk_div (d := 100) (by omega) (by decide) (by decide)
    have e2 : nI (told3 (drQ (ablS w h (tT τ (stB s)) π) c)) / (10 : Int32) = nI (told3 (drQ (ablS w h (tT τ (stB s)) π) c) / 10) := pk_div (d := 10) (by omega) (by decide) (by decide)
    have e3 : nI (told3 (drQ (ablS w h (tT τ (stB s)) π) c) / 10) - nI (told3 (drQ (ablS w h (tT τ (stB s)) π) c) / 10) / (10 : Int32) * (10 : Int32) = nI (qy (drQ (ablS w h (tT τ (stB s)) π) c)) := by rw [← l3]; exact pk_rem (d := 10) (by omega) (by decide) (by decide)
    have e4 : nI (told3 (drQ (ablS w h (tT τ (stB s)) π) c)) - nI (told3 (drQ (ablS w h (tT τ (stB s)) π) c) / 10) * (10 : Int32) = nI (qz (drQ (ablS w h (tT τ (stB s)) π) c)) := by rw [← l4]; exact nI_remN (d := 10) (by omega) (by decide) (by decide)
    have fin : ∀ si, si = nI (sel3 (drQ (ablS w h (tT τ (stB s)) π) c) (nxC c % 3)) → f_X12_drawsPly_92 (nI (dnI (nxC c % 3) (nxC (nxC c) % 2))) (nI (qx (drQ (ablS w h (tT τ (stB s)) π) c))) (nI (qy (drQ (ablS w h (tT τ (stB s)) π) c))) (nI (qz (drQ (ablS w h (tT τ (stB s)) π) c))) (some 230) si (sI (sI M2 230 57 (nI (nxC (nxC c)))) 230 57 (nI (nxC (nxC (nxC c))))) = some ((), M3) := by
      rintro si rfl
      unfold f_X12_drawsPly_92
      have p1' : f_X12_plays (some 230) (nI (sel3 (drQ (ablS w h (tT τ (stB s)) π) c) (nxC c % 3))) (nI (sel3 (drQ (ablS w h (tT τ (stB s)) π) c) (dnI (nxC c % 3) (nxC (nxC c) % 2)))) (sI (sI M2 230 57 (nI (nxC (nxC c)))) 230 57 (nI (nxC (nxC (nxC c))))) = some ((), M3) := p1
      generalize dnI (nxC c % 3) (nxC (nxC c) % 2) = dd at *
      rcases (show dd = 0 ∨ dd = 1 ∨ dd = 2 by omega) with rfl | rfl | rfl
      · rw [if_pos (by decide), cR_t (ly_t230 hpD.1.lay), show qx (drQ (ablS w h (tT τ (stB s)) π) c) = sel3 (drQ (ablS w h (tT τ (stB s)) π) c) 0 from rfl, p1', cA_s]
      · rw [if_neg (by decide), if_pos (by decide), cR_t (ly_t230 hpD.1.lay), show qy (drQ (ablS w h (tT τ (stB s)) π) c) = sel3 (drQ (ablS w h (tT τ (stB s)) π) c) 1 from rfl, p1', cA_s]
      · rw [if_neg (by decide), if_neg (by decide), cR_t (ly_t230 hpD.1.lay), show qz (drQ (ablS w h (tT τ (stB s)) π) c) = sel3 (drQ (ablS w h (tT τ (stB s)) π) c) 2 from rfl, p1', cA_s]
    unfold f_X12_drawsPly_47
    rw [n100, n10, n10, n10, e1, e2, e3, e4]
    rcases (show nxC c % 3 = 0 ∨ nxC c % 3 = 1 ∨ nxC c % 3 = 2 by omega) with e | e | e
    · rw [if_pos (by rw [e]; rfl)]; exact fin _ (by rw [e]; rfl)
    · rw [if_neg (by rw [e]; decide), if_pos (by rw [e]; rfl)]; exact fin _ (by rw [e]; rfl)
    · rw [if_neg (by rw [e]; decide), if_neg (by rw [e]; decide)]; exact fin _ (by rw [e]; rfl)
  unfold f_X12_drawsPly
  rw [cR_t (ly_t230 hl), a1, cA_s, gI_t (ly_t230 hp1.1.lay), a3, cR_t (ly_t230 hp1.1.lay), y_draw hp1 hc hC1 q1 (by omega), cA_s, cR_t (ly_t230 hpA.1.lay), b1, cA_s, cR_t (ly_t230 hpB.1.lay), show (3 : Int32) = nI 3 from rfl, y_draw hpB (by omega) hCB (by decide) (by decide), cA_s, cR_t (ly_t230 hpC.1.lay), show (2 : Int32) = nI 2 from rfl, y_draw hpC (by omega) mI_e (by decide) (by decide), cA_s]
  by_cases hj : nxC (nxC c) % 2 < nxC c % 3
  · rw [if_pos (nI_lt hj (by omega))]
    exact key _ (by unfold dnI; rw [if_pos hj])
  · rw [if_neg (nI_nlt (by omega) (by omega)), nI_1]
    exact key _ (by unfold dnI; rw [if_neg hj])
end DRAWN
