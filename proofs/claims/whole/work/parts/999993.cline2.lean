/-! ===== line: both ===== -/
section CLINE2
variable {w h L : Nat} {s s' : Std} {τ : Nat → Txt} {tp : Nat → Nat} {ln : Nat} {fl fp : Int32} {M : Mem}
theorem ln_C {T : Txt} {Q : Nat → Pos} {n : Nat} : LnC (opS w h T) (sucS w h T) (rsS (opS w h T) (sucS w h T) 2000) (tiS (opS w h T) (sucS w h T) 2000) Q n := by
  intro i _ hr hu
  have ha : any8 (opS w h T (Q i)) = true := by
    cases z : any8 (opS w h T (Q i)) with
    | true => rfl
    | false => have := (tm_zero hr).mpr z; omega
  exact ln_fact hr ha (op_tri ha)
theorem FinX.vl {O : Pos → Chi} {S : Pos → Nat → Nat → Pos} {Q : Nat → Pos} {n : Nat} (hf : FinX O S Q n M) : VlX Q n (rsS O S 2000) (tiS O S 2000) M := by
  refine ⟨fun i hi => ⟨(hf.1 i hi).1, fun z => ?_⟩, fun π => rs_le 2000 π, fun π => tm_le 2000 π⟩
  rw [(hf.1 i hi).2, if_neg z]
theorem c_line {i v : Int32} (hr : Rel w h L s s' τ tp ln fl fp M) : EndC w h L s s' τ tp ln fl fp M (f_X11_line (some 8) i v) (f_X12_line (some 230) i v) := by
  have hl := hr.1.1.1.lay
  by_cases h1 : i < 0
  · exact ⟨-1, M, M, by unfold f_X11_line; rw [if_pos h1], by unfold f_X12_line; rw [if_pos h1], hr⟩
  by_cases h2 : v < 0
  · exact ⟨-1, M, M, by unfold f_X11_line; rw [if_neg h1, if_pos h2], by unfold f_X12_line; rw [if_neg h1, in_lo h2, cA_s, if_pos (by decide)], hr⟩
  by_cases h3 : (4 : Int32) < v
  · have h5 : ¬ v < (5 : Int32) := by
      rw [Int32.lt_iff_toInt_lt] at h3 ⊢
      have e1 : (4 : Int32).toInt = 4 := rfl
      have e2 : (5 : Int32).toInt = 5 := rfl
      omega
    exact ⟨-1, M, M, by unfold f_X11_line; rw [if_neg h1, if_neg h2, if_neg h5], by unfold f_X12_line; rw [if_neg h1, in_hi h3, cA_s, if_pos (by decide)], hr⟩
  have h5 : v < (5 : Int32) := by
    rw [Int32.lt_iff_toInt_lt] at h3 ⊢
    have e1 : (4 : Int32).toInt = 4 := rfl
    have e2 : (5 : Int32).toInt = 5 := rfl
    omega
  obtain ⟨k, k1, k2, rfl⟩ := rng (a := 0) (b := 4) (by decide) (by decide) h2 h3
  obtain ⟨j, j1, rfl⟩ := pos_of h1
  obtain ⟨vv, M1, a1, a2, a3⟩ := x_slv hr
  have hl1 := a2.1.1.1.lay
  rcases y_slv a2 a3 with ⟨rfl, Q, n, tg, Q', n', tg', M2, b1, b2, b3, b4, b5, b6⟩ | ⟨rfl, M2, b1, b2⟩
  · obtain ⟨c0, c1⟩ := b4.1.2.2.2.1
    obtain ⟨d0, d1⟩ := b5.1.2.2.2.1
    have e1 := x_lineAt (j := j) (v := k) (by omega) j1 a2.1.1.1 b4.2.2.2.1 b4.2.2.1 b4.2.2.2.2.2.vl b4.1.1 ln_C c0
    have hVM : VlM (opS w h (tT τ (stB s))) (sucS w h (tT τ (stB s))) Q' n' (fun i => opS w h (tT τ (stB s)) (Q' i)) tg' (rsS (opS w h (tT τ (stB s))) (sucS w h (tT τ (stB s))) 2000) (tiS (opS w h (tT τ (stB s))) (sucS w h (tT τ (stB s))) 2000) M2 := ⟨b5.2.2.1, b5.2.2.2, b6, b5.1.1, fun π => rs_le 2000 π, fun π => tm_le 2000 π⟩
    obtain ⟨M3, e2, e3⟩ := y_li_l (v := k) (j := j) (by omega) j1 ln_C (fun i _ hz => tm_zero hz) 2000 j FU 0 0 M2 (by omega) (tm_le 2000 _) (by decide) (by decide) (by decide) d0 b2.1.1.1 hVM Fx.rf
    rw [c1] at e1
    rw [d1] at e2
    have ex : f_X11_line (some 8) (nI j) (nI k) M = f_X0_lineAt (some 220) (nI j) (nI k) M1 := by
      unfold f_X11_line
      rw [if_neg h1, if_neg h2, if_pos h5, gR_t (ly_t8 hl), ly_r8_2 hl, gR_t (ly_t9 hl), ly_r9_0 hl, cR_t (ly_t8 hl), a1, cA_s, if_neg (by decide), gR_t (ly_t8 hl1), ly_r8_11 hl1, cR_t (ly_t220 hl1), e1, cA_s]
    have ey : f_X12_line (some 230) (nI j) (nI k) M1 = f_X12_line_30 FU (some 230) (nI j) (nI k) (nI 0) (nI 0) M2 := by
      unfold f_X12_line
      rw [if_neg h1, in_ok h2 h3, cA_s, if_neg (by decide), cR_t (ly_t230 hl1), b1, cA_s, if_neg (by decide)]
      rfl
    exact ⟨_, M1, M3, ex.trans e1, ey.trans e2, b2.fy e3 (by decide) (by decide) (by decide)⟩
  · refine ⟨-2, M1, M2, ?_, ?_, b2⟩
    · unfold f_X11_line
      rw [if_neg h1, if_neg h2, if_pos h5, gR_t (ly_t8 hl), ly_r8_2 hl, gR_t (ly_t9 hl), ly_r9_0 hl, cR_t (ly_t8 hl), a1, cA_s, if_pos (by decide)]
    · unfold f_X12_line
      rw [if_neg h1, in_ok h2 h3, cA_s, if_neg (by decide), cR_t (ly_t230 hl1), b1, cA_s, if_pos (by decide)]
end CLINE2
