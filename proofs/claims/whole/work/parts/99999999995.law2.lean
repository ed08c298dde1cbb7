/-! ===== the law's loop ===== -/
def Inv (w h L : Nat) (xs : Nat → Int32) (M : Mem) : Prop := ∃ s s' τ tp ln fl fp, Rel w h L s s' τ tp ln fl fp M ∧ mI M 0 = xs
def CallOk (w h L : Nat) (xs : Nat → Int32) (fX fY : Mem → Option (Int32 × Mem)) (M : Mem) : Prop := ∃ r M1 M2, fX M = some (r, M1) ∧ fY M1 = some (r, M2) ∧ mT M1 = mT M ∧ mI M1 0 = xs ∧ Inv w h L xs M2
abbrev P1 : Int32 → Mem → Prop := fun b _ => b = 1
section LAW2
variable {w h L i : Nat} {s s' : Std} {τ : Nat → Txt} {tp : Nat → Nat} {ln : Nat} {fl fp : Int32} {xs : Nat → Int32} {M : Mem} {fX fY : Mem → Option (Int32 × Mem)}
theorem Rel.g0 (hr : Rel w h L s s' τ tp ln fl fp M) : G0 M M := ⟨by rw [hr.1.1.1.lay.1]; rfl, rfl, rfl⟩
theorem Rel.ok (hr : Rel w h L s s' τ tp ln fl fp M) (hx : mI M 0 = xs) (kX : ∀ {M0 M : Mem}, G0 M0 M → K0 M0 (fX M)) (kY : ∀ {M0 M : Mem}, G0 M0 M → K0 M0 (fY M)) (hc : ∃ r M1 M2 s2 s2' τ2 tp2 ln2 fl2 fp2, fX M = some (r, M1) ∧ fY M1 = some (r, M2) ∧ Rel w h L s2 s2' τ2 tp2 ln2 fl2 fp2 M2) : CallOk w h L xs fX fY M := by
  obtain ⟨r, M1, M2, s2, s2', τ2, tp2, ln2, fl2, fp2, e1, e2, e3⟩ := hc
  have g1 := kX hr.g0 r M1 e1
  have g2 := kY g1 r M2 e2
  exact ⟨r, M1, M2, e1, e2, g1.2.1, g1.2.2.trans hx, s2, s2', τ2, tp2, ln2, fl2, fp2, e3, g2.2.2.trans hx⟩
theorem Rel.okE (hr : Rel w h L s s' τ tp ln fl fp M) (hx : mI M 0 = xs) (hc : End w h L s τ M fX fY) (kX : ∀ {M0 M : Mem}, G0 M0 M → K0 M0 (fX M)) (kY : ∀ {M0 M : Mem}, G0 M0 M → K0 M0 (fY M)) : CallOk w h L xs fX fY M := by
  obtain ⟨r, M1, M2, s2, s2', tp2, ln2, fl2, fp2, e1, e2, e3, e4, e5⟩ := hc
  exact hr.ok hx kX kY ⟨r, M1, M2, s2, s2', τ, tp2, ln2, fl2, fp2, e1, e2, e3, by rw [e5]; exact hr.2.fx e4 (by decide +kernel)⟩
theorem Rel.okC (hr : Rel w h L s s' τ tp ln fl fp M) (hx : mI M 0 = xs) (hc : EndC w h L s s' τ tp ln fl fp M fX fY) (kX : ∀ {M0 M : Mem}, G0 M0 M → K0 M0 (fX M)) (kY : ∀ {M0 M : Mem}, G0 M0 M → K0 M0 (fY M)) : CallOk w h L xs fX fY M := by
  obtain ⟨r, M1, M2, e1, e2, e3⟩ := hc
  exact hr.ok hx kX kY ⟨r, M1, M2, s, s', τ, tp, ln, fl, fp, e1, e2, e3⟩
theorem f_if {c : Prop} [Decidable c] {x y : Option (Int32 × Mem)} {P : Int32 → Mem → Prop} (h1 : FQ x P) (h2 : FQ y P) : FQ (if c then x else y) P := by split <;> assumption

theorem br0 {gX gY : Mem → Option (Int32 × Mem)} {q : Option Nat → Option Nat → Option Nat → Int32 → Mem → Option (Int32 × Mem)} (hI : Inv w h L xs M) (hL : i + 6 ≤ L) (h386 : L ≤ 386) (hc : CallOk w h L xs (gX ) (gY ) M) (K : ∀ M2, Inv w h L xs M2 → FQ (q (some 0) (some 8) (some 230) (nI i + (6 : Int32)) M2) P1) : FQ (cR M (some 8) (1, 11) (cA (gX  M) fun v M1 => cR M1 (some 230) (1, 12) (cA (gY  M1) fun v' M2 => if v = v' then q (some 0) (some 8) (some 230) (nI i + (6 : Int32)) M2 else some ((0 : Int32), M2)))) P1 := by
  obtain ⟨s, s', τ, tp, ln, fl, fp, hr, hx⟩ := hI
  obtain ⟨r, M1, M2, c1, c2, c3, c4, c5⟩ := hc
  have hl := hr.1.1.1.lay
  have t0 : mT M 0 = (8, L) := by rw [hl.1]; rfl
  have t1 : mT M1 0 = (8, L) := by rw [c3]; exact t0
  rw [cR_t (ly_t8 hl), c1, cA_s, cR_t (show mT M1 230 = (1, 12) by rw [c3]; exact ly_t230 hl), c2, cA_s, if_pos rfl]
  exact K M2 c5
theorem br1 {gX gY : Int32 → Mem → Option (Int32 × Mem)} {q : Option Nat → Option Nat → Option Nat → Int32 → Mem → Option (Int32 × Mem)} (hI : Inv w h L xs M) (hL : i + 6 ≤ L) (h386 : L ≤ 386) (hc : CallOk w h L xs (gX (xs (i + 1))) (gY (xs (i + 1))) M) (K : ∀ M2, Inv w h L xs M2 → FQ (q (some 0) (some 8) (some 230) (nI i + (6 : Int32)) M2) P1) : FQ (aI M (some 0) 8 (nI i + (1 : Int32)) fun a1 => cR M (some 8) (1, 11) (cA (gX a1 M) fun v M1 => aI M1 (some 0) 8 (nI i + (1 : Int32)) fun b1 => cR M1 (some 230) (1, 12) (cA (gY b1 M1) fun v' M2 => if v = v' then q (some 0) (some 8) (some 230) (nI i + (6 : Int32)) M2 else some ((0 : Int32), M2)))) P1 := by
  obtain ⟨s, s', τ, tp, ln, fl, fp, hr, hx⟩ := hI
  obtain ⟨r, M1, M2, c1, c2, c3, c4, c5⟩ := hc
  have hl := hr.1.1.1.lay
  have t0 : mT M 0 = (8, L) := by rw [hl.1]; rfl
  have t1 : mT M1 0 = (8, L) := by rw [c3]; exact t0
  rw [show nI i + (1 : Int32) = nI (i + 1) from nI_add i 1, aI_t t0 (by omega) (by omega), hx, cR_t (ly_t8 hl), c1, cA_s, aI_t t1 (by omega) (by omega), c4, cR_t (show mT M1 230 = (1, 12) by rw [c3]; exact ly_t230 hl), c2, cA_s, if_pos rfl]
  exact K M2 c5
theorem br2 {gX gY : Int32 → Int32 → Mem → Option (Int32 × Mem)} {q : Option Nat → Option Nat → Option Nat → Int32 → Mem → Option (Int32 × Mem)} (hI : Inv w h L xs M) (hL : i + 6 ≤ L) (h386 : L ≤ 386) (hc : CallOk w h L xs (gX (xs (i + 1)) (xs (i + 2))) (gY (xs (i + 1)) (xs (i + 2))) M) (K : ∀ M2, Inv w h L xs M2 → FQ (q (some 0) (some 8) (some 230) (nI i + (6 : Int32)) M2) P1) : FQ (aI M (some 0) 8 (nI i + (1 : Int32)) fun a1 => aI M (some 0) 8 (nI i + (2 : Int32)) fun a2 => cR M (some 8) (1, 11) (cA (gX a1 a2 M) fun v M1 => aI M1 (some 0) 8 (nI i + (1 : Int32)) fun b1 => aI M1 (some 0) 8 (nI i + (2 : Int32)) fun b2 => cR M1 (some 230) (1, 12) (cA (gY b1 b2 M1) fun v' M2 => if v = v' then q (some 0) (some 8) (some 230) (nI i + (6 : Int32)) M2 else some ((0 : Int32), M2)))) P1 := by
  obtain ⟨s, s', τ, tp, ln, fl, fp, hr, hx⟩ := hI
  obtain ⟨r, M1, M2, c1, c2, c3, c4, c5⟩ := hc
  have hl := hr.1.1.1.lay
  have t0 : mT M 0 = (8, L) := by rw [hl.1]; rfl
  have t1 : mT M1 0 = (8, L) := by rw [c3]; exact t0
  rw [show nI i + (1 : Int32) = nI (i + 1) from nI_add i 1, aI_t t0 (by omega) (by omega), hx, show nI i + (2 : Int32) = nI (i + 2) from nI_add i 2, aI_t t0 (by omega) (by omega), hx, cR_t (ly_t8 hl), c1, cA_s, aI_t t1 (by omega) (by omega), c4, aI_t t1 (by omega) (by omega), c4, cR_t (show mT M1 230 = (1, 12) by rw [c3]; exact ly_t230 hl), c2, cA_s, if_pos rfl]
  exact K M2 c5
theorem br3 {gX gY : Int32 → Int32 → Int32 → Mem → Option (Int32 × Mem)} {q : Option Nat → Option Nat → Option Nat → Int32 → Mem → Option (Int32 × Mem)} (hI : Inv w h L xs M) (hL : i + 6 ≤ L) (h386 : L ≤ 386) (hc : CallOk w h L xs (gX (xs (i + 1)) (xs (i + 2)) (xs (i + 3))) (gY (xs (i + 1)) (xs (i + 2)) (xs (i + 3))) M) (K : ∀ M2, Inv w h L xs M2 → FQ (q (some 0) (some 8) (some 230) (nI i + (6 : Int32)) M2) P1) : FQ (aI M (some 0) 8 (nI i + (1 : Int32)) fun a1 => aI M (some 0) 8 (nI i + (2 : Int32)) fun a2 => aI M (some 0) 8 (nI i + (3 : Int32)) fun a3 => cR M (some 8) (1, 11) (cA (gX a1 a2 a3 M) fun v M1 => aI M1 (some 0) 8 (nI i + (1 : Int32)) fun b1 => aI M1 (some 0) 8 (nI i + (2 : Int32)) fun b2 => aI M1 (some 0) 8 (nI i + (3 : Int32)) fun b3 => cR M1 (some 230) (1, 12) (cA (gY b1 b2 b3 M1) fun v' M2 => if v = v' then q (some 0) (some 8) (some 230) (nI i + (6 : Int32)) M2 else some ((0 : Int32), M2)))) P1 := by
  obtain ⟨s, s', τ, tp, ln, fl, fp, hr, hx⟩ := hI
  obtain ⟨r, M1, M2, c1, c2, c3, c4, c5⟩ := hc
  have hl := hr.1.1.1.lay
  have t0 : mT M 0 = (8, L) := by rw [hl.1]; rfl
  have t1 : mT M1 0 = (8, L) := by rw [c3]; exact t0
  rw [show nI i + (1 : Int32) = nI (i + 1) from nI_add i 1, aI_t t0 (by omega) (by omega), hx, show nI i + (2 : Int32) = nI (i + 2) from nI_add i 2, aI_t t0 (by omega) (by omega), hx, show nI i + (3 : Int32) = nI (i + 3) from nI_add i 3, aI_t t0 (by omega) (by omega), hx, cR_t (ly_t8 hl), c1, cA_s, aI_t t1 (by omega) (by omega), c4, aI_t t1 (by omega) (by omega), c4, aI_t t1 (by omega) (by omega), c4, cR_t (show mT M1 230 = (1, 12) by rw [c3]; exact ly_t230 hl), c2, cA_s, if_pos rfl]
  exact K M2 c5
theorem br5 {gX gY : Int32 → Int32 → Int32 → Int32 → Int32 → Mem → Option (Int32 × Mem)} {q : Option Nat → Option Nat → Option Nat → Int32 → Mem → Option (Int32 × Mem)} (hI : Inv w h L xs M) (hL : i + 6 ≤ L) (h386 : L ≤ 386) (hc : CallOk w h L xs (gX (xs (i + 1)) (xs (i + 2)) (xs (i + 3)) (xs (i + 4)) (xs (i + 5))) (gY (xs (i + 1)) (xs (i + 2)) (xs (i + 3)) (xs (i + 4)) (xs (i + 5))) M) (K : ∀ M2, Inv w h L xs M2 → FQ (q (some 0) (some 8) (some 230) (nI i + (6 : Int32)) M2) P1) : FQ (aI M (some 0) 8 (nI i + (1 : Int32)) fun a1 => aI M (some 0) 8 (nI i + (2 : Int32)) fun a2 => aI M (some 0) 8 (nI i + (3 : Int32)) fun a3 => aI M (some 0) 8 (nI i + (4 : Int32)) fun a4 => aI M (some 0) 8 (nI i + (5 : Int32)) fun a5 => cR M (some 8) (1, 11) (cA (gX a1 a2 a3 a4 a5 M) fun v M1 => aI M1 (some 0) 8 (nI i + (1 : Int32)) fun b1 => aI M1 (some 0) 8 (nI i + (2 : Int32)) fun b2 => aI M1 (some 0) 8 (nI i + (3 : Int32)) fun b3 => aI M1 (some 0) 8 (nI i + (4 : Int32)) fun b4 => aI M1 (some 0) 8 (nI i + (5 : Int32)) fun b5 => cR M1 (some 230) (1, 12) (cA (gY b1 b2 b3 b4 b5 M1) fun v' M2 => if v = v' then q (some 0) (some 8) (some 230) (nI i + (6 : Int32)) M2 else some ((0 : Int32), M2)))) P1 := by
  obtain ⟨s, s', τ, tp, ln, fl, fp, hr, hx⟩ := hI
  obtain ⟨r, M1, M2, c1, c2, c3, c4, c5⟩ := hc
  have hl := hr.1.1.1.lay
  have t0 : mT M 0 = (8, L) := by rw [hl.1]; rfl
  have t1 : mT M1 0 = (8, L) := by rw [c3]; exact t0
  rw [show nI i + (1 : Int32) = nI (i + 1) from nI_add i 1, aI_t t0 (by omega) (by omega), hx, show nI i + (2 : Int32) = nI (i + 2) from nI_add i 2, aI_t t0 (by omega) (by omega), hx, show nI i + (3 : Int32) = nI (i + 3) from nI_add i 3, aI_t t0 (by omega) (by omega), hx, show nI i + (4 : Int32) = nI (i + 4) from nI_add i 4, aI_t t0 (by omega) (by omega), hx, show nI i + (5 : Int32) = nI (i + 5) from nI_add i 5, aI_t t0 (by omega) (by omega), hx, cR_t (ly_t8 hl), c1, cA_s, aI_t t1 (by omega) (by omega), c4, aI_t t1 (by omega) (by omega), c4, aI_t t1 (by omega) (by omega), c4, aI_t t1 (by omega) (by omega), c4, aI_t t1 (by omega) (by omega), c4, cR_t (show mT M1 230 = (1, 12) by rw [c3]; exact ly_t230 hl), c2, cA_s, if_pos rfl]
  exact K M2 c5
theorem k_piece {a1 : Int32} {a2 : Int32} {a3 : Int32} (hI : Inv w h L xs M) : CallOk w h L xs (f_X11_piece (some 8) a1 a2 a3) (f_X12_piece (some 230) a1 a2 a3) M := by
  obtain ⟨s, s', τ, tp, ln, fl, fp, hr, hx⟩ := hI
  exact hr.okE hx (c_piece hr.1) (fun g => k_f_X11_piece g) (fun g => k_f_X12_piece g)
theorem k_heap {a1 : Int32} {a2 : Int32} (hI : Inv w h L xs M) : CallOk w h L xs (f_X11_heap (some 8) a1 a2) (f_X12_heap (some 230) a1 a2) M := by
  obtain ⟨s, s', τ, tp, ln, fl, fp, hr, hx⟩ := hI
  exact hr.okE hx (c_heap hr.1) (fun g => k_f_X11_heap g) (fun g => k_f_X12_heap g)
theorem k_turn {a1 : Int32} (hI : Inv w h L xs M) : CallOk w h L xs (f_X11_turn (some 8) a1) (f_X12_turn (some 230) a1) M := by
  obtain ⟨s, s', τ, tp, ln, fl, fp, hr, hx⟩ := hI
  exact hr.okE hx (c_turn hr.1) (fun g => k_f_X11_turn g) (fun g => k_f_X12_turn g)
theorem k_feed {a1 : Int32} {a2 : Int32} {a3 : Int32} {a4 : Int32} {a5 : Int32} (hI : Inv w h L xs M) : CallOk w h L xs (f_X11_feed (some 8) a1 a2 a3 a4 a5) (f_X12_feed (some 230) a1 a2 a3 a4 a5) M := by
  obtain ⟨s, s', τ, tp, ln, fl, fp, hr, hx⟩ := hI
  exact hr.okE hx (c_feed hr.1) (fun g => k_f_X11_feed g) (fun g => k_f_X12_feed g)
theorem k_end {a1 : Int32} (hI : Inv w h L xs M) : CallOk w h L xs (f_X11_end (some 8) a1) (f_X12_end (some 230) a1) M := by
  obtain ⟨s, s', τ, tp, ln, fl, fp, hr, hx⟩ := hI
  exact hr.okE hx (c_end hr.1) (fun g => k_f_X11_end g) (fun g => k_f_X12_end g)
theorem k_text  (hI : Inv w h L xs M) : CallOk w h L xs (f_X11_text (some 8) ) (f_X12_text (some 230) ) M := by
  obtain ⟨s, s', τ, tp, ln, fl, fp, hr, hx⟩ := hI
  obtain ⟨r, M1, M2, s2, τ2, ln2, fl2, fp2, e1, e2, e3, e4, e5, e6⟩ := c_text hr
  exact ⟨r, M1, M2, e1, e2, e5, e6.trans hx, s2, s', τ2, tp, ln2, fl2, fp2, e3, e4.trans hx⟩
theorem k_fault {a1 : Int32} (hI : Inv w h L xs M) : CallOk w h L xs (f_X11_fault (some 8) a1) (f_X12_fault (some 230) a1) M := by
  obtain ⟨s, s', τ, tp, ln, fl, fp, hr, hx⟩ := hI
  exact hr.okE hx (c_fault hr.1) (fun g => k_f_X11_fault g) (fun g => k_f_X12_fault g)
theorem k_book {a1 : Int32} (hI : Inv w h L xs M) : CallOk w h L xs (f_X11_book (some 8) a1) (f_X12_book (some 230) a1) M := by
  obtain ⟨s, s', τ, tp, ln, fl, fp, hr, hx⟩ := hI
  exact hr.okE hx (c_book hr.1) (fun g => k_f_X11_book g) (fun g => k_f_X12_book g)
theorem k_way {a1 : Int32} {a2 : Int32} (hI : Inv w h L xs M) : CallOk w h L xs (f_X11_way (some 8) a1 a2) (f_X12_way (some 230) a1 a2) M := by
  obtain ⟨s, s', τ, tp, ln, fl, fp, hr, hx⟩ := hI
  exact hr.okE hx (c_way hr.1) (fun g => k_f_X11_way g) (fun g => k_f_X12_way g)
theorem k_can {a1 : Int32} {a2 : Int32} (hI : Inv w h L xs M) : CallOk w h L xs (f_X11_can (some 8) a1 a2) (f_X12_can (some 230) a1 a2) M := by
  obtain ⟨s, s', τ, tp, ln, fl, fp, hr, hx⟩ := hI
  exact hr.okE hx (end_scr hr.1 (c_can hr.1.1)) (fun g => k_f_X11_can g) (fun g => k_f_X12_can g)
theorem k_offers {a1 : Int32} (hI : Inv w h L xs M) : CallOk w h L xs (f_X11_offers (some 8) a1) (f_X12_offers (some 230) a1) M := by
  obtain ⟨s, s', τ, tp, ln, fl, fp, hr, hx⟩ := hI
  exact hr.okE hx (end_scr hr.1 (c_offers hr.1.1)) (fun g => k_f_X11_offers g) (fun g => k_f_X12_offers g)
theorem k_play {a1 : Int32} {a2 : Int32} {a3 : Int32} {a4 : Int32} {a5 : Int32} (hI : Inv w h L xs M) : CallOk w h L xs (f_X11_play (some 8) a1 a2 a3 a4 a5) (f_X12_play (some 230) a1 a2 a3 a4 a5) M := by
  obtain ⟨s, s', τ, tp, ln, fl, fp, hr, hx⟩ := hI
  exact hr.okE hx (end_pos hr.1 (c_play hr.1.1)) (fun g => k_f_X11_play g) (fun g => k_f_X12_play g)
theorem k_run {a1 : Int32} (hI : Inv w h L xs M) : CallOk w h L xs (f_X11_run (some 8) a1) (f_X12_run (some 230) a1) M := by
  obtain ⟨s, s', τ, tp, ln, fl, fp, hr, hx⟩ := hI
  exact hr.okE hx (end_pos hr.1 (c_run hr.1.1)) (fun g => k_f_X11_run g) (fun g => k_f_X12_run g)
theorem k_won  (hI : Inv w h L xs M) : CallOk w h L xs (f_X11_won (some 8) ) (f_X12_won (some 230) ) M := by
  obtain ⟨s, s', τ, tp, ln, fl, fp, hr, hx⟩ := hI
  exact hr.okE hx (end_scr hr.1 (c_won hr.1.1)) (fun g => k_f_X11_won g) (fun g => k_f_X12_won g)
theorem k_ply {a1 : Int32} {a2 : Int32} {a3 : Int32} {a4 : Int32} {a5 : Int32} (hI : Inv w h L xs M) : CallOk w h L xs (f_X11_ply (some 8) a1 a2 a3 a4 a5) (f_X12_ply (some 230) a1 a2 a3 a4 a5) M := by
  obtain ⟨s, s', τ, tp, ln, fl, fp, hr, hx⟩ := hI
  exact hr.okE hx (c_ply hr.1) (fun g => k_f_X11_ply g) (fun g => k_f_X12_ply g)
theorem k_judge  (hI : Inv w h L xs M) : CallOk w h L xs (f_X11_judge (some 8) ) (f_X12_judge (some 230) ) M := by
  obtain ⟨s, s', τ, tp, ln, fl, fp, hr, hx⟩ := hI
  exact hr.okE hx (end_scr hr.1 (c_judge hr.1.1)) (fun g => k_f_X11_judge g) (fun g => k_f_X12_judge g)
theorem k_again  (hI : Inv w h L xs M) : CallOk w h L xs (f_X11_again (some 8) ) (f_X12_again (some 230) ) M := by
  obtain ⟨s, s', τ, tp, ln, fl, fp, hr, hx⟩ := hI
  exact hr.okE hx (end_scr hr.1 (c_again hr.1.1)) (fun g => k_f_X11_again g) (fun g => k_f_X12_again g)
theorem k_match {a1 : Int32} {a2 : Int32} (hI : Inv w h L xs M) : CallOk w h L xs (f_X11_match (some 8) a1 a2) (f_X12_match (some 230) a1 a2) M := by
  obtain ⟨s, s', τ, tp, ln, fl, fp, hr, hx⟩ := hI
  exact hr.okE hx (end_scr hr.1 (c_match hr.1.1)) (fun g => k_f_X11_match g) (fun g => k_f_X12_match g)
theorem k_drawn {a1 : Int32} {a2 : Int32} {a3 : Int32} (hI : Inv w h L xs M) : CallOk w h L xs (f_X11_drawn (some 8) a1 a2 a3) (f_X12_drawn (some 230) a1 a2 a3) M := by
  obtain ⟨s, s', τ, tp, ln, fl, fp, hr, hx⟩ := hI
  exact hr.okE hx (end_scr hr.1 (c_drawn hr.1.1)) (fun g => k_f_X11_drawn g) (fun g => k_f_X12_drawn g)
theorem k_states  (hI : Inv w h L xs M) : CallOk w h L xs (f_X11_states (some 8) ) (f_X12_states (some 230) ) M := by
  obtain ⟨s, s', τ, tp, ln, fl, fp, hr, hx⟩ := hI
  exact hr.okC hx (c_states hr) (fun g => k_f_X11_states g) (fun g => k_f_X12_states g)
theorem k_best {a1 : Int32} (hI : Inv w h L xs M) : CallOk w h L xs (f_X11_best (some 8) a1) (f_X12_best (some 230) a1) M := by
  obtain ⟨s, s', τ, tp, ln, fl, fp, hr, hx⟩ := hI
  exact hr.okC hx (c_best hr) (fun g => k_f_X11_best g) (fun g => k_f_X12_best g)
theorem k_good {a1 : Int32} (hI : Inv w h L xs M) : CallOk w h L xs (f_X11_good (some 8) a1) (f_X12_good (some 230) a1) M := by
  obtain ⟨s, s', τ, tp, ln, fl, fp, hr, hx⟩ := hI
  exact hr.okC hx (c_good hr) (fun g => k_f_X11_good g) (fun g => k_f_X12_good g)
theorem k_loses {a1 : Int32} {a2 : Int32} {a3 : Int32} (hI : Inv w h L xs M) : CallOk w h L xs (f_X11_loses (some 8) a1 a2 a3) (f_X12_loses (some 230) a1 a2 a3) M := by
  obtain ⟨s, s', τ, tp, ln, fl, fp, hr, hx⟩ := hI
  exact hr.okC hx (c_loses hr) (fun g => k_f_X11_loses g) (fun g => k_f_X12_loses g)
theorem k_line {a1 : Int32} {a2 : Int32} (hI : Inv w h L xs M) : CallOk w h L xs (f_X11_line (some 8) a1 a2) (f_X12_line (some 230) a1 a2) M := by
  obtain ⟨s, s', τ, tp, ln, fl, fp, hr, hx⟩ := hI
  exact hr.okC hx (c_line hr) (fun g => k_f_X11_line g) (fun g => k_f_X12_line g)
theorem k_runs  (hI : Inv w h L xs M) : CallOk w h L xs (f_X11_runs (some 8) ) (f_X12_runs (some 230) ) M := by
  obtain ⟨s, s', τ, tp, ln, fl, fp, hr, hx⟩ := hI
  exact hr.okC hx (c_runs hr) (fun g => k_f_X11_runs g) (fun g => k_f_X12_runs g)
theorem k_balanced {a1 : Int32} (hI : Inv w h L xs M) : CallOk w h L xs (f_X11_balanced (some 8) a1) (f_X12_balanced (some 230) a1) M := by
  obtain ⟨s, s', τ, tp, ln, fl, fp, hr, hx⟩ := hI
  exact hr.okC hx (c_balanced hr) (fun g => k_f_X11_balanced g) (fun g => k_f_X12_balanced g)
theorem k_image  (hI : Inv w h L xs M) : CallOk w h L xs (f_X11_image (some 8) ) (f_X12_image (some 230) ) M := by
  obtain ⟨s, s', τ, tp, ln, fl, fp, hr, hx⟩ := hI
  exact hr.okE hx (c_image hr.1) (fun g => k_f_X11_image g) (fun g => k_f_X12_image g)
theorem k_back  (hI : Inv w h L xs M) : CallOk w h L xs (f_X11_back (some 8) ) (f_X12_back (some 230) ) M := by
  obtain ⟨s, s', τ, tp, ln, fl, fp, hr, hx⟩ := hI
  obtain ⟨r, M1, M2, e1, e2, e3, e4⟩ := c_back hr.1
  exact hr.ok hx (fun g => k_f_X11_back g) (fun g => k_f_X12_back g) ⟨r, M1, M2, s', s', τ, tp, ln, fl, fp, e1, e2, e3, Or.inl e4⟩
theorem k_about {a1 : Int32} (hI : Inv w h L xs M) : CallOk w h L xs (f_X11_about (some 8) a1) (f_X12_about (some 230) a1) M := by
  obtain ⟨s, s', τ, tp, ln, fl, fp, hr, hx⟩ := hI
  exact hr.okE hx (c_about hr.1) (fun g => k_f_X11_about g) (fun g => k_f_X12_about g)
theorem law_l (h386 : L ≤ 386) : ∀ (k n i : Nat) (M : Mem), L < i + k → k < n → i < 1000 → Inv w h L xs M → FQ (f_L_law_38 n (some 0) (some 8) (some 230) (nI i) M) P1
  | k, 0, i, M => fun _ z => absurd z (by omega)
  | k, n + 1, i, M => by
    intro hk hn hi hI
    obtain ⟨s, s', τ, tp, ln, fl, fp, hr, hx⟩ := id hI
    have hl := hr.1.1.1.lay
    have t0 : mT M 0 = (8, L) := by rw [hl.1]; rfl
    have ec : (nI L - (6 : Int32) < nI i) ↔ L < i + 6 := by
      rw [show (6 : Int32) = nI 6 from rfl, n_i32, n_i32, n_i32, i32_sub, Int32.lt_iff_toInt_lt, i32_t ⟨by omega, by omega⟩, i32_t ⟨by omega, by omega⟩]
      omega
    rw [show f_L_law_38 (n + 1) = b_L_law_38 (f_L_law_38 n) from rfl]
    unfold b_L_law_38
    rw [aN_t t0 (by decide) (by decide) (by decide)]
    by_cases e : L < i + 6
    · rw [if_pos (ec.mpr e)]
      exact ⟨1, M, rfl, rfl⟩
    rw [if_neg (fun z => e (ec.mp z)), aI_t t0 (by omega) (by omega)]
    have hL6 : i + 6 ≤ L := by omega
    have K : ∀ M2, Inv w h L xs M2 → FQ (f_L_law_38 n (some 0) (some 8) (some 230) (nI i + (6 : Int32)) M2) P1 := fun M2 h2 => by
      rw [show nI i + (6 : Int32) = nI (i + 6) from nI_add i 6]
      obtain ⟨k', rfl⟩ : ∃ k', k = k' + 1 := ⟨k - 1, by omega⟩
      exact law_l h386 k' n (i + 6) M2 (by omega) (by omega) (by omega) h2
    refine f_if (br3 hI hL6 h386 (k_piece hI) K) ?_
    refine f_if (br2 hI hL6 h386 (k_heap hI) K) ?_
    refine f_if (br1 hI hL6 h386 (k_turn hI) K) ?_
    refine f_if (br5 hI hL6 h386 (k_feed hI) K) ?_
    refine f_if (br1 hI hL6 h386 (k_end hI) K) ?_
    refine f_if (br0 hI hL6 h386 (k_text hI) K) ?_
    refine f_if (br1 hI hL6 h386 (k_fault hI) K) ?_
    refine f_if (br1 hI hL6 h386 (k_book hI) K) ?_
    refine f_if (br2 hI hL6 h386 (k_way hI) K) ?_
    refine f_if (br2 hI hL6 h386 (k_can hI) K) ?_
    refine f_if (br1 hI hL6 h386 (k_offers hI) K) ?_
    refine f_if (br5 hI hL6 h386 (k_play hI) K) ?_
    refine f_if (br1 hI hL6 h386 (k_run hI) K) ?_
    refine f_if (br0 hI hL6 h386 (k_won hI) K) ?_
    refine f_if (br5 hI hL6 h386 (k_ply hI) K) ?_
    refine f_if (br0 hI hL6 h386 (k_judge hI) K) ?_
    refine f_if (br0 hI hL6 h386 (k_again hI) K) ?_
    refine f_if (br2 hI hL6 h386 (k_match hI) K) ?_
    refine f_if (br3 hI hL6 h386 (k_drawn hI) K) ?_
    refine f_if (br0 hI hL6 h386 (k_states hI) K) ?_
    refine f_if (br1 hI hL6 h386 (k_best hI) K) ?_
    refine f_if (br1 hI hL6 h386 (k_good hI) K) ?_
    refine f_if (br3 hI hL6 h386 (k_loses hI) K) ?_
    refine f_if (br2 hI hL6 h386 (k_line hI) K) ?_
    refine f_if (br0 hI hL6 h386 (k_runs hI) K) ?_
    refine f_if (br1 hI hL6 h386 (k_balanced hI) K) ?_
    refine f_if (br0 hI hL6 h386 (k_image hI) K) ?_
    refine f_if (br0 hI hL6 h386 (k_back hI) K) ?_
    refine f_if (br1 hI hL6 h386 (k_about hI) K) ?_
    exact K M hI
/-- the pure statement -/
theorem hpure (L : Nat) (xs : Nat → Int32) (fr : Option Nat) (hL : L ≤ 386) : ∃ M', f_L_law (some 0) (M0 L xs fr) = some (1, M') := by
  obtain ⟨w, h, M8, e1, e2, e3⟩ := law_start (xs := xs) (fr := fr) hL
  obtain ⟨b, M', e4, e5⟩ := law_l (w := w) (h := h) (xs := xs) hL (L + 1) FU 2 M8 (by omega) (by unfold FU; omega) (by omega) ⟨s0, s0, _, _, _, _, _, e2, e3⟩
  have e5 : b = 1 := e5
  subst e5
  exact ⟨M', by rw [e1]; exact e4⟩
end LAW2
