/-! ===== the class decides a state ===== -/
def any8 (f : Nat → Bool) : Bool := (List.range' 0 8).any f
def all8 (f : Nat → Bool) : Bool := (List.range' 0 8).all f
theorem any8_f {f : Nat → Bool} : any8 f = false ↔ ∀ m, m < 8 → f m = false := by
  unfold any8
  rw [List.any_eq_false]
  constructor
  · intro h m hm
    have := h m (by rw [List.mem_range'_1]; omega)
    cases hf : f m
    · rfl
    · exact absurd hf this
  · intro h m hm
    rw [List.mem_range'_1] at hm
    rw [h m (by omega)]
    decide
theorem all8_t {f : Nat → Bool} : all8 f = true ↔ ∀ m, m < 8 → f m = true := by
  unfold all8
  rw [List.all_eq_true]
  constructor
  · intro h m hm
    exact h m (by rw [List.mem_range'_1]; omega)
  · intro h m hm
    rw [List.mem_range'_1] at hm
    exact h m (by omega)
theorem bS_z {f : Chi} : nI (bS f 8) = 0 ↔ any8 f = false := by
  rw [show (0 : Int32) = nI (bS (fun _ => false) 8) by rw [bS_0]; rfl, bS_eqN (by decide), any8_f]
/-- toWon and toLost, by state, no and what is done -/
def LdX (n : Nat) (W Ls : Nat → Nat → Chi) (M : Mem) : Prop := ∀ i no, i < n → no < 8 → mI M 223 (i * 8 + no) = nI (bS (W i no) 8) ∧ mI M 224 (i * 8 + no) = nI (bS (Ls i no) 8)
def lnS (Ls : Nat → Nat → Chi) (i q : Nat) : Chi := fun no => tch q no && any8 (fun dn => Ls i no dn && tch q dn)
def gnS (W : Nat → Nat → Chi) (i q : Nat) : Bool := any8 (fun no => tch q no && all8 (fun dn => !(tch q dn && !(dn == no)) || W i no dn))
section DECIDE
variable {w h L nt : Nat} {τ : Nat → Txt} {M : Mem} {n : Nat} {W Ls : Nat → Nat → Chi}
theorem x_losing_l {i q : Nat} (hb : Bs w h L nt τ M) (hL : LdX n W Ls M) (hi : i < n) (hn : n ≤ 2000) : ∀ (k f no : Nat), no + k = 8 → k < f → f_X0_losingNoes_5 f (some 220) (nI i) (nI (bS (tch q) 8)) (nI (bS (fun m => decide (m < no) && lnS Ls i q m) 8)) (nI no) M = some (nI (bS (lnS Ls i q) 8), M)
  | k, 0, no, _, hf => absurd hf (by omega)
  | 0, f + 1, no, hno, _ => by
    obtain rfl : no = 8 := by omega
    rw [u_X0_losingNoes_5]
    unfold b_X0_losingNoes_5
    rw [if_pos (by decide), bS_ext (χ := fun m => decide (m < 8) && lnS Ls i q m) (χ' := lnS Ls i q) (fun m hm => by simp [hm])]
  | k + 1, f + 1, no, hno, hf => by
    have hl := hb.lay
    have ih := x_losing_l (q := q) hb hL hi hn k f (no + 1) (by omega) (by omega)
    have same : lnS Ls i q no = false → bS (fun m => decide (m < no + 1) && lnS Ls i q m) 8 = bS (fun m => decide (m < no) && lnS Ls i q m) 8 := fun e => bS_ext (fun m _ => by
      by_cases z : m = no
      · subst z; simp [e]
      · simp [show m < no + 1 ↔ m < no by omega])
    have e8 : (nI i * (8 : Int32)) + nI no = nI (i * 8 + no) := by rw [show (8 : Int32) = nI 8 from rfl, pk_mul, nI_add]
    rw [u_X0_losingNoes_5]
    unfold b_X0_losingNoes_5
    rw [if_neg (show ¬ (8 : Int32) ≤ nI no from nI_ge (b := 8) (by omega) (by decide))]
    cases ht : tch q no with
    | false =>
      rw [if_pos ((bS_in (by decide) (by omega)).mpr ht), nI_1]
      rw [same (by unfold lnS; rw [ht]; rfl)] at ih
      exact ih
    | true =>
      rw [if_neg (fun z => by rw [bS_in (by decide) (by omega), ht] at z; cases z), gR_t (ly_t220 hl), ly_r220_5 hl, e8, aI_t (ly_t224 hl) (by omega) (by decide), (hL i no hi (by omega)).2, bS_andN, nI_1]
      cases ha : any8 (fun dn => Ls i no dn && tch q dn) with
      | false =>
        rw [if_pos (bS_z.mpr ha)]
        rw [same (by unfold lnS; rw [ha]; simp)] at ih
        exact ih
      | true =>
        rw [if_neg (fun z => by rw [bS_z.mp z] at ha; cases ha), bS_addI (by decide) (by omega)]
        rw [bS_ext (χ := fun m => decide (m < no + 1) && lnS Ls i q m) (χ' := fun m => (decide (m < no) && lnS Ls i q m) || m == no) (fun m _ => by
          by_cases z : m = no
          · subst z; simp only [lnS, ht, ha]; simp
          · have z' : (m == no) = false := by simpa using z
            simp [show m < no + 1 ↔ m < no by omega, z'])] at ih
        exact ih
theorem x_losing {i q : Nat} (hb : Bs w h L nt τ M) (hL : LdX n W Ls M) (hi : i < n) (hn : n ≤ 2000) : f_X0_losingNoes (some 220) (nI i) (nI (bS (tch q) 8)) M = some (nI (bS (lnS Ls i q) 8), M) := by
  have := x_losing_l (q := q) hb hL hi hn 8 FU 0 (by omega) (by decide)
  rw [show (fun m => decide (m < 0) && lnS Ls i q m) = fun _ => false by funext m; simp, bS_0] at this
  exact this
theorem x_good_l {i q : Nat} (hb : Bs w h L nt τ M) (hL : LdX n W Ls M) (hi : i < n) (hn : n ≤ 2000) : ∀ (k f no : Nat), no + k = 8 → k < f → f_X0_hasGoodNo_2 f (some 220) (nI i) (nI (bS (tch q) 8)) (nI no) M = some (nI ((List.range' no k).any (fun no => tch q no && all8 (fun dn => !(tch q dn && !(dn == no)) || W i no dn))).toNat, M)
  | k, 0, no, _, hf => absurd hf (by omega)
  | 0, f + 1, no, hno, _ => by
    obtain rfl : no = 8 := by omega
    rw [u_X0_hasGoodNo_2]
    unfold b_X0_hasGoodNo_2
    rw [if_pos (by decide), tv_0]
    rfl
  | k + 1, f + 1, no, hno, hf => by
    have hl := hb.lay
    have ih := x_good_l (q := q) hb hL hi hn k f (no + 1) (by omega) (by omega)
    have e8 : (nI i * (8 : Int32)) + nI no = nI (i * 8 + no) := by rw [show (8 : Int32) = nI 8 from rfl, pk_mul, nI_add]
    rw [u_X0_hasGoodNo_2, List.range'_succ, List.any_cons]
    unfold b_X0_hasGoodNo_2
    rw [if_neg (show ¬ (8 : Int32) ≤ nI no from nI_ge (b := 8) (by omega) (by decide)), bS_delI (by decide) (by omega), nI_1]
    cases ht : tch q no with
    | false =>
      rw [if_pos ((bS_eqN (by decide)).mpr (fun m _ => by
        by_cases z : m = no
        · subst z; rw [ht]; rfl
        · simp [z])), Bool.false_and, Bool.false_or]
      exact ih
    | true =>
      rw [if_neg (fun z => by
        have := (bS_eqN (by decide)).mp z no (by omega)
        rw [ht] at this
        simp at this), gR_t (ly_t220 hl), ly_r220_4 hl, e8, aI_t (ly_t223 hl) (by omega) (by decide), (hL i no hi (by omega)).1, bS_andN, Bool.true_and]
      have hiff : (nI (bS (fun m => W i no m && (tch q m && !(m == no))) 8) = nI (bS (fun m => tch q m && !(m == no)) 8)) ↔ all8 (fun dn => !(tch q dn && !(dn == no)) || W i no dn) = true := by
        rw [bS_eqN (by decide), all8_t]
        constructor
        · intro z m hm
          have := z m hm
          cases h1 : (tch q m && !(m == no))
          · rfl
          · rw [h1] at this; simpa using this
        · intro z m hm
          have := z m hm
          cases h1 : (tch q m && !(m == no))
          · simp
          · rw [h1] at this; simpa using this
      cases ha : all8 (fun dn => !(tch q dn && !(dn == no)) || W i no dn) with
      | true => rw [if_pos (hiff.mpr ha), tv_1, Bool.true_or]; rfl
      | false => rw [if_neg (fun z => by rw [hiff.mp z] at ha; cases ha), Bool.false_or]; exact ih
theorem x_good {i q : Nat} (hb : Bs w h L nt τ M) (hL : LdX n W Ls M) (hi : i < n) (hn : n ≤ 2000) : f_X0_hasGoodNo (some 220) (nI i) (nI (bS (tch q) 8)) M = some (nI (gnS W i q).toNat, M) := x_good_l hb hL hi hn 8 FU 0 (by omega) (by decide)
/-- a state is settled -/
theorem x_settle {i v p qd : Nat} (hb : Bs w h L nt τ M) (hi : i < 2000) (hq : mI M 220 11 = nI qd) (hqd : qd < 2000) : f_X0_settle (some 220) (nI i) (nI v) (nI p) M = some ((), sI (sI (sI (sI M 221 i (nI v)) 222 i (nI p)) 227 qd (nI i)) 220 11 (nI (qd + 1))) := by
  have hl := hb.lay
  have h1 : ¬ (2000 ≤ qd) := by omega
  unfold f_X0_settle
  simp (disch := first | omega | (simp (disch := omega) only [↓litm, lit, tN_n, nI_add, pk_mul, pk_sub, pk_div, nI_remN, nI_remN', nI_eq, nI_leI, nI_ltI, nI_nm1, m1_nI, m1_m1, m1_le, m1_lt, le_m1, lt_m1, oI_n, oI_s, bS_inN, bS_addN, bS_delN, not_true_eq_false, not_false_eq_true, and_true, true_and, if_true, if_false, mT_sI, mT_sL, mT_sR, mR_sI, mR_sL, mI_sL, mI_sR, mL_sI, mL_sR, mI_e, mI_na, mI_nk, mL_e, mL_na, mL_nk, inB_n, hq, h1]; done) | (simp (disch := omega) only [↓litm, lit, tN_n, nI_add, pk_mul, pk_sub, pk_div, nI_remN, nI_remN', nI_eq, nI_leI, nI_ltI, nI_nm1, m1_nI, m1_m1, m1_le, m1_lt, le_m1, lt_m1, oI_n, oI_s, bS_inN, bS_addN, bS_delN, not_true_eq_false, not_false_eq_true, and_true, true_and, if_true, if_false, mT_sI, mT_sL, mT_sR, mR_sI, mR_sL, mI_sL, mI_sR, mL_sI, mL_sR, mI_e, mI_na, mI_nk, mL_e, mL_na, mL_nk, inB_n, hq, h1]; omega)) only [↓T_220 hl, ly_r220_0 hl, ly_r220_1 hl, ly_r220_2 hl, ly_r220_3 hl, ly_r220_4 hl, ly_r220_5 hl, ly_r220_6 hl, ly_r220_7 hl, ly_r220_8 hl, ly_r220_9 hl, ly_r220_10 hl, ↓A_221 hl, ↓A_222 hl, ↓A_227 hl, ↓N_227 hl, ↓e_gI, ↓e_gL, ↓e_gR, ↓e_pI, ↓e_pL, ↓e_pR, ↓e_cR, ↓e_aI, ↓e_aL, ↓e_aR, ↓e_wI, ↓e_wL, ↓e_aN, ↓t_sI, ↓t_sL, ↓t_sR, ↓q_sI, ↓q_sL, ↓q_sR, ↓n_sI, ↓n_sL, ↓n_sR, ↓cA_s, tv_0, tv_1, tv_n0, tv_n1, ↓nz_y, ↓reduceIte, mT_sI, mT_sL, mT_sR, mR_sI, mR_sL, mI_sL, mI_sR, mL_sI, mL_sR, mI_e, mI_na, mI_nk, mL_e, mL_na, mL_nk, ↓litm, lit, tN_n, nI_add, pk_mul, pk_sub, pk_div, nI_remN, nI_remN', nI_eq, nI_leI, nI_ltI, nI_nm1, m1_nI, m1_m1, m1_le, m1_lt, le_m1, lt_m1, oI_n, oI_s, bS_inN, bS_addN, bS_delN, not_true_eq_false, not_false_eq_true, and_true, true_and, if_true, if_false, hq, h1]
/-- what is decided of a state: 1 won, 2 lost, 0 neither -/
def wnS (Ls : Nat → Nat → Chi) (i q : Nat) : Bool := all8 (fun m => lnS Ls i q m == tch q m)
def dcS (op : Chi) (W Ls : Nat → Nat → Chi) (i : Nat) : List Nat → Bool → Nat
  | [], b => if b = true then 2 else 0
  | q :: l, b => if inq op q = true then (if wnS Ls i q = true then 1 else dcS op W Ls i l (b && gnS W i q)) else dcS op W Ls i l b
theorem x_decide_l {i p qd : Nat} {op : Chi} (hb : Bs w h L nt τ M) (hL : LdX n W Ls M) (hi : i < n) (hn : n ≤ 2000) (ho : mI M 212 i = nI (bS op 8)) (hq : mI M 220 11 = nI qd) (hqd : qd < 2000) : ∀ (k f j : Nat) (b : Bool), j + k = 56 → k < f → f_X0_decide_5 f (some 220) (nI i) (nI p) (nI b.toNat) (nI j) M = some ((), if dcS op W Ls i (TQ.drop j) b = 0 then M else sI (sI (sI (sI M 221 i (nI (dcS op W Ls i (TQ.drop j) b))) 222 i (nI p)) 227 qd (nI i)) 220 11 (nI (qd + 1)))
  | k, 0, j, b, _, hf => absurd hf (by omega)
  | 0, f + 1, j, b, hj, _ => by
    obtain rfl : j = 56 := by omega
    have hl := hb.lay
    rw [u_X0_decide_5, List.drop_of_length_le (by rw [TQ_len]; omega)]
    unfold b_X0_decide_5
    rw [if_pos (by decide)]
    cases b with
    | false => rw [if_pos (by decide)]; rfl
    | true => rw [if_neg (by decide), cR_t (ly_t220 hl), show (2 : Int32) = nI 2 from rfl, x_settle hb (by omega) hq hqd, cA_s]; rfl
  | k + 1, f + 1, j, b, hj, hf => by
    have hl := hb.lay
    have hq' := TQ_tri _ (TQ_mem (show j < 56 by omega))
    have ih := fun b => x_decide_l (p := p) hb hL hi hn ho hq hqd k f (j + 1) b (by omega) (by omega)
    rw [u_X0_decide_5, TQ_drop (by omega)]
    unfold b_X0_decide_5
    rw [if_neg (show ¬ (56 : Int32) ≤ nI j from nI_ge (b := 56) (by omega) (by decide)), gR_t (ly_t220 hl), ly_r220_3 hl, gR_t (ly_t45 hl), ly_r45_0 hl, aI_t (ly_t46 hl) (by omega) (by decide), bits_at hb (by omega), gR_t (ly_t220 hl), ly_r220_2 hl, gR_t (ly_t211 hl), ly_r211_0 hl, aI_t (ly_t212 hl) (by omega) (by decide), ho, nI_1]
    by_cases hc : inq op (TQ.getD j 0) = true
    · have hd : ∀ b, dcS op W Ls i (TQ.getD j 0 :: TQ.drop (j + 1)) b = if wnS Ls i (TQ.getD j 0) = true then 1 else dcS op W Ls i (TQ.drop (j + 1)) (b && gnS W i (TQ.getD j 0)) := fun b => by show (if _ then _ else _) = _; rw [if_pos hc]
      rw [if_pos ((tch_sub hq'.1).mpr hc), cR_t (ly_t220 hl), x_losing hb hL hi hn, cA_s, hd]
      have hw : (nI (bS (lnS Ls i (TQ.getD j 0)) 8) = nI (bS (tch (TQ.getD j 0)) 8)) ↔ wnS Ls i (TQ.getD j 0) = true := by
        unfold wnS
        rw [bS_eqN (by decide), all8_t]
        exact ⟨fun z m hm => by rw [z m hm]; simp, fun z m hm => by simpa using z m hm⟩
      cases hwn : wnS Ls i (TQ.getD j 0) with
      | true =>
        rw [if_pos (hw.mpr hwn), cR_t (ly_t220 hl), show (1 : Int32) = nI 1 from rfl, x_settle hb (by omega) hq hqd, cA_s, if_pos rfl]
        rfl
      | false =>
        rw [if_neg (fun z => by rw [hw.mp z] at hwn; cases hwn), if_neg (show ¬ false = true by decide)]
        cases b with
        | false =>
          rw [if_pos (show nI false.toNat = (0 : Int32) from rfl), Bool.false_and]
          exact ih false
        | true =>
          rw [if_neg (show ¬ nI true.toNat = (0 : Int32) by decide), cR_t (ly_t220 hl), x_good hb hL hi hn, cA_s, Bool.true_and]
          cases hg : gnS W i (TQ.getD j 0) with
          | false => rw [if_pos (show nI false.toNat = (0 : Int32) from rfl)]; exact ih false
          | true => rw [if_neg (show ¬ nI true.toNat = (0 : Int32) by decide)]; exact ih true
    · have hd : dcS op W Ls i (TQ.getD j 0 :: TQ.drop (j + 1)) b = dcS op W Ls i (TQ.drop (j + 1)) b := by show (if _ then _ else _) = _; rw [if_neg hc]
      rw [if_neg (fun z => hc ((tch_sub hq'.1).mp z)), hd]
      exact ih b
theorem x_decideS {i p qd : Nat} {op : Chi} (hb : Bs w h L nt τ M) (hL : LdX n W Ls M) (hi : i < n) (hn : n ≤ 2000) (ho : mI M 212 i = nI (bS op 8)) (hq : mI M 220 11 = nI qd) (hqd : qd < 2000) : f_X0_decide (some 220) (nI i) (nI p) M = some ((), if dcS op W Ls i TQ true = 0 then M else sI (sI (sI (sI M 221 i (nI (dcS op W Ls i TQ true))) 222 i (nI p)) 227 qd (nI i)) 220 11 (nI (qd + 1))) := by
  have := x_decide_l (p := p) hb hL hi hn ho hq hqd 56 FU 0 true (by omega) (by decide)
  rw [List.drop_zero] at this
  exact this
end DECIDE
