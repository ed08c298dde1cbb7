/-! ===== tokens of the class, on ===== -/
def fnI (v : Int32) : List Int32 → Nat → Option Nat
  | [], _ => none
  | x :: l, i => if x = v then some i else fnI v l (i + 1)
theorem fn_sg : ∀ c, c < 256 → (match fnI (nI c).toInt8.toInt32 wb2 0 with | none => (36 : Int32) | some j => wtk.getD j 0) = nI (sgT c) := by decide +kernel
theorem fn_lt {v : Int32} : ∀ (l : List Int32) (i j : Nat), fnI v l i = some j → j < i + l.length
  | [], _, _, h => by cases h
  | x :: l, i, j, h => by
    rw [List.length_cons]
    change (if x = v then some i else fnI v l (i + 1)) = some j at h
    by_cases e : x = v
    · rw [if_pos e] at h; cases h; omega
    · rw [if_neg e] at h; have := fn_lt l (i + 1) j h; omega
section XLEX2
variable {pl L : Nat} {tp : Nat → Nat} {ln : Nat}
theorem s_ioc {M : Mem} {v : Int32} (hl : Lay pl L M) : ∀ (k f i : Nat), i + k = 12 → k < f → f_J1_indexOfChar_4cfef_7 f (some 5) (nI 12) v (nI i) M = some (oI (fnI v (wb2.drop i) i), M)
  | k, 0, i => fun _ z => absurd z (by omega)
  | 0, f + 1, i => by
    intro hi _
    obtain rfl : i = 12 := by omega
    rw [u_J1_indexOfChar_4cfef_7]
    unfold b_J1_indexOfChar_4cfef_7
    rw [if_pos (Int32.le_refl _)]
    rfl
  | k + 1, f + 1, i => by
    intro hi hf
    have t5 : mT M 5 = (10, 12) := by rw [hl.1]; rfl
    have e5 : mI M 5 i = wb2.getD i 0 := hl.2.2.2.2.2.2.2.2.2.2.1 i
    have hil : i < wb2.length := by show i < 12; omega
    have hdr : wb2.drop i = wb2.getD i 0 :: wb2.drop (i + 1) := by
      rw [List.drop_eq_getElem_cons hil, List.getD_eq_getElem?_getD, List.getElem?_eq_getElem hil]
      rfl
    rw [u_J1_indexOfChar_4cfef_7, hdr]
    unfold b_J1_indexOfChar_4cfef_7
    rw [if_neg (nI_ge (by omega) (by decide)), aI_t t5 (by omega) (by decide), e5]
    show _ = some (oI (if wb2.getD i 0 = v then some i else fnI v (wb2.drop (i + 1)) (i + 1)), M)
    by_cases e : wb2.getD i 0 = v
    · rw [if_pos e, if_pos e]; rfl
    · rw [if_neg e, if_neg e, nI_1]; exact s_ioc hl k f (i + 1) (by omega) (by omega)
theorem x_sign81 {M : Mem} {c : Nat} (hl : Lay pl L M) (hc : c < 256) : f_X5_sign_81 (nI c) M = some (nI (sgT c), M) := by
  have t3 : (mT M 3).1 = 9 := by rw [hl.1]; rfl
  have t5 : mT M 5 = (10, 12) := by rw [hl.1]; rfl
  have t1 : mT M 1 = (8, 12) := by rw [hl.1]; rfl
  have r3 : mR M 3 0 = some 5 := hl.2.2.2.2.2.2.2.1
  have c3 : mI M 3 1 = 0 := hl.2.2.2.2.2.2.2.2.2.2.2.2 1
  have hlen : f_J0_length_8abf5 (some 3) M = some (nI 12, M) := by
    unfold f_J0_length_8abf5 f_J0_coder_7d493
    rw [gS_t t3, r3, aN_t t5 (by decide) (by decide) (by decide), cS_t t3, if_neg (by decide), gSc_t t3, c3, bv_t (by decide), cA_s]
    rfl
  have hcan : f_J1_canEncode_9a6ad (nI c) M = some (1, M) := by
    unfold f_J1_canEncode_9a6ad
    rw [if_neg (nI_pos (by omega)), if_neg (show ¬ (255 : Int32) < nI c from nI_nlt (a := 255) (by omega) (by decide)), tv_1]
  have hio : f_J0_indexOf_0f7a4 (some 3) (nI c) M = some (oI (fnI (nI c).toInt8.toInt32 wb2 0), M) := by
    have h0 := s_ioc (M := M) (v := (nI c).toInt8.toInt32) hl 12 FU 0 (by omega) (by decide)
    rw [List.drop_zero] at h0
    unfold f_J0_indexOf_0f7a4 f_J0_indexOf_7cf53 f_J0_isLatin1_aae02 f_J1_indexOf_4cfef f_J1_indexOfChar_4cfef
    rw [cS_t t3, cS_t t3, if_neg (by decide), gSc_t t3, c3, if_pos rfl, tv_1, cA_s, if_neg (by decide), gS_t t3, r3, cS_t t3, hlen, cA_s, hcan, cA_s, if_neg (by decide), aN_t t5 (by decide) (by decide) (by decide), if_neg (show ¬ (0 : Int32) < 0 by decide), if_neg (show ¬ nI 12 < nI 12 by decide), if_pos (by decide)]
    rw [show f_J1_indexOfChar_4cfef_7 FU (some 5) (nI 12) (nI c).toInt8.toInt32 (0 : Int32) M = _ from h0, cA_s, cA_s, cA_s]
  have hf := fn_sg c hc
  unfold f_X5_sign_81
  rw [cS_t t3, s_c16 c hc, hio, cA_s]
  cases hfn : fnI (nI c).toInt8.toInt32 wb2 0 with
  | none =>
    rw [hfn] at hf
    rw [oI_n, if_pos (by decide)]
    show some ((36 : Int32), M) = _
    rw [← hf]
  | some j =>
    rw [hfn] at hf
    have hj := fn_lt wb2 0 j hfn
    rw [show wb2.length = 12 from rfl] at hj
    have e1 : mI M 1 j = wtk.getD j 0 := hl.2.2.2.2.2.2.2.2.1 j
    rw [oI_s, if_neg (nI_pos (by omega)), aN_t t1 (by decide) (by decide) (by decide), if_neg (nI_ge (by omega) (by decide)), aI_t t1 (by omega) (by decide), e1]
    show some (wtk.getD j 0, M) = _
    rw [← hf]
theorem x_adv171 {M0 : Mem} : ∀ (k f p v : Nat) (M : Mem), p + k = ln → k < f → v ≤ 10000 → Lay pl L M → TpeX tp ln M → mI M 43 5 = nI p → mI M 43 8 = nI v → Fx [] lxF M0 M → ∃ M', f_X5_advance_171 f (some 43) M = some ((), M') ∧ Fx [] lxF M0 M' ∧ mI M' 43 5 = nI (spn isG tp k p) ∧ mI M' 43 8 = nI (nmV tp (spn isG tp k p - p) p v) ∧ mI M' 43 6 = mI M 43 6 ∧ mI M' 43 7 = mI M 43 7
  | k, 0, p, v, M => fun _ z => absurd z (by omega)
  | 0, f + 1, p, v, M => by
    intro hp _ hv hl hT h5 h8 fr
    obtain rfl : p = ln := by omega
    refine ⟨M, ?_, fr, h5, ?_, rfl, rfl⟩
    · rw [u_X5_advance_171]
      unfold b_X5_advance_171
      rw [gI_t (ly_t43 hl), h5, gI_t (ly_t43 hl), hT.2.1, if_pos (Int32.le_refl _)]
    · rw [h8]
      show nI v = nI (nmV tp (p - p) p v)
      rw [Nat.sub_self]; rfl
  | k + 1, f + 1, p, v, M => by
    intro hp hf hv hl hT h5 h8 fr
    have h300 := hT.1
    obtain ⟨t1, t2⟩ := hT.2.2 p (by omega)
    rw [u_X5_advance_171]
    unfold b_X5_advance_171
    rw [gI_t (ly_t43 hl), h5, gI_t (ly_t43 hl), hT.2.1, if_neg (nI_ge (by omega) (by omega)), gR_t (ly_t43 hl), ly_r43_0 hl, gI_t (ly_t43 hl), h5, aI_t (ly_t44 hl) (by omega) (by decide), t2, x_isDigit t1, cA_s]
    cases hg : isG (tp p) with
    | false =>
      refine ⟨M, ?_, fr, by rw [spn_n hg]; exact h5, ?_, rfl, rfl⟩
      · rw [if_pos (by decide)]
      · rw [spn_n hg, Nat.sub_self]; exact h8
    | true =>
      have hg' := hg
      unfold isG at hg'
      simp only [Bool.and_eq_true, decide_eq_true_eq] at hg'
      have hval : (if (((nI v * (10 : Int32)) + nI (tp p)) - (48 : Int32)) < (10000 : Int32) then (((nI v * (10 : Int32)) + nI (tp p)) - (48 : Int32)) else (10000 : Int32)) = nI (min 10000 (v * 10 + (tp p - 48))) := by
        have e1 : ((nI v * (10 : Int32)) + nI (tp p)) - (48 : Int32) = nI (v * 10 + (tp p - 48)) := by
          rw [show (10 : Int32) = nI 10 from rfl, pk_mul, nI_add, show (48 : Int32) = nI 48 from rfl, pk_sub (by omega)]
          congr 1
          omega
        rw [e1]
        by_cases z : v * 10 + (tp p - 48) < 10000
        · rw [if_pos (show nI _ < (10000 : Int32) from nI_lt (b := 10000) z (by decide))]
          congr 1
          omega
        · rw [if_neg (show ¬ nI _ < (10000 : Int32) from nI_nlt (b := 10000) (by omega) (by omega))]
          show nI 10000 = _
          congr 1
          omega
      have f1 : Fx [] lxF M (sI M 43 8 (nI (min 10000 (v * 10 + (tp p - 48))))) := Fx.wI (Or.inr (by decide))
      have hl1 := hl.lx f1
      have f2 : Fx [] lxF M (sI (sI M 43 8 (nI (min 10000 (v * 10 + (tp p - 48))))) 43 5 (nI (p + 1))) := f1.I (Or.inr (by decide))
      rw [if_neg (by decide), gI_t (ly_t43 hl), h8, gR_t (ly_t43 hl), ly_r43_0 hl, gI_t (ly_t43 hl), h5, aI_t (ly_t44 hl) (by omega) (by decide), t2, hval, pI_t (ly_t43 hl), gI_t (ly_t43 hl1), mI_nk (by decide), h5, nI_1, pI_t (ly_t43 hl1)]
      obtain ⟨M', z1, z2, z3, z4, z5, z6⟩ := x_adv171 k f (p + 1) (min 10000 (v * 10 + (tp p - 48))) _ (by omega) (by omega) (by omega) (hl.lx f2) (hT.fx f2 (by decide) (by decide)) mI_e (by rw [mI_nk (by decide), mI_e]) (fr.tr f2)
      have hge := spn_ge (P := isG) (tp := tp) k (p + 1)
      refine ⟨M', z1, z2, by rw [spn_y hg]; exact z3, ?_, by rw [z5, mI_nk (by decide), mI_nk (by decide)], by rw [z6, mI_nk (by decide), mI_nk (by decide)]⟩
      rw [spn_y hg, z4, show spn isG tp k (p + 1) - p = (spn isG tp k (p + 1) - (p + 1)) + 1 by omega]
      rfl
theorem x_adv95 {p0 : Nat} {M0 : Mem} : ∀ (k f p : Nat) (M : Mem), p + k = ln → k < f → p0 ≤ p → Lay pl L M → TpeX tp ln M → mI M 43 5 = nI p → mI M 43 7 = nI p0 → Fx [] lxF M0 M → ∃ M', f_X5_advance_95 f (some 43) M = some ((), M') ∧ Fx [] lxF M0 M' ∧ mI M' 43 5 = nI (spn isL tp k p) ∧ mI M' 43 6 = nI (wdT (lets tp p0 (spn isL tp k p))) ∧ mI M' 43 7 = nI p0
  | k, 0, p, M => fun _ z => absurd z (by omega)
  | 0, f + 1, p, M => by
    intro hp _ h0 hl hT h5 h7 fr
    obtain rfl : p = ln := by omega
    have hw := x_word hl hT h5 h7 h0 (Nat.le_refl _)
    refine ⟨sI M 43 6 (nI (wdT (lets tp p0 p))), ?_, fr.I (Or.inr (by decide)), by rw [mI_nk (by decide)]; exact h5, mI_e, by rw [mI_nk (by decide)]; exact h7⟩
    rw [u_X5_advance_95]
    unfold b_X5_advance_95
    rw [gI_t (ly_t43 hl), h5, gI_t (ly_t43 hl), hT.2.1, if_pos (Int32.le_refl _), cR_t (ly_t43 hl), hw, cA_s, pI_t (ly_t43 hl)]
  | k + 1, f + 1, p, M => by
    intro hp hf h0 hl hT h5 h7 fr
    have h300 := hT.1
    obtain ⟨t1, t2⟩ := hT.2.2 p (by omega)
    rw [u_X5_advance_95]
    unfold b_X5_advance_95
    rw [gI_t (ly_t43 hl), h5, gI_t (ly_t43 hl), hT.2.1, if_neg (nI_ge (by omega) (by omega)), gR_t (ly_t43 hl), ly_r43_0 hl, gI_t (ly_t43 hl), h5, aI_t (ly_t44 hl) (by omega) (by decide), t2, x_isLetter t1, cA_s]
    cases hg : isL (tp p) with
    | false =>
      have hw := x_word hl hT h5 h7 h0 (by omega)
      refine ⟨sI M 43 6 (nI (wdT (lets tp p0 p))), ?_, fr.I (Or.inr (by decide)), by rw [mI_nk (by decide), spn_n hg]; exact h5, by rw [mI_e, spn_n hg], by rw [mI_nk (by decide)]; exact h7⟩
      rw [if_pos (by decide), cR_t (ly_t43 hl), hw, cA_s, pI_t (ly_t43 hl)]
    | true =>
      have f1 : Fx [] lxF M (sI M 43 5 (nI (p + 1))) := Fx.wI (Or.inr (by decide))
      rw [if_neg (by decide), gI_t (ly_t43 hl), h5, nI_1, pI_t (ly_t43 hl), spn_y hg]
      exact x_adv95 k f (p + 1) _ (by omega) (by omega) (by omega) (hl.lx f1) (hT.fx f1 (by decide) (by decide)) mI_e (by rw [mI_nk (by decide)]; exact h7) (fr.tr f1)
/-- the class stands at a token -/
def TkX (tp : Nat → Nat) (ln a : Nat) (M : Mem) : Prop := mI M 43 5 = nI (tNx tp ln a) ∧ mI M 43 6 = nI (tTk tp ln a) ∧ mI M 43 7 = nI (tSt tp ln a) ∧ (tTk tp ln a = 20 → mI M 43 8 = nI (tNm tp ln a))
theorem tTp_20 {p : Nat} (h : tTp tp ln p = 20) : p < ln ∧ isL (tp p) = false ∧ isG (tp p) = true := by
  unfold tTp at h
  by_cases e : ln ≤ p
  · rw [if_pos e] at h; cases h
  · rw [if_neg e] at h
    cases l : isL (tp p) with
    | true =>
      rw [if_pos l] at h
      have := wdT_le (lets tp p (tWe tp ln p))
      omega
    | false =>
      rw [if_neg (by rw [l]; decide)] at h
      cases g : isG (tp p) with
      | true => exact ⟨by omega, rfl, rfl⟩
      | false =>
        rw [if_neg (by rw [g]; decide)] at h
        exfalso
        split at h
        · split at h <;> cases h
        · unfold sgT at h
          repeat' split at h
          all_goals cases h
theorem x_adv52 {M M0 : Mem} {p : Nat} (hl : Lay pl L M) (hT : TpeX tp ln M) (h5 : mI M 43 5 = nI p) (hp : p ≤ ln) (fr : Fx [] lxF M0 M) : ∃ M', f_X5_advance_52 (some 43) M = some ((), M') ∧ Fx [] lxF M0 M' ∧ mI M' 43 5 = nI (tNp tp ln p) ∧ mI M' 43 6 = nI (tTp tp ln p) ∧ mI M' 43 7 = nI p ∧ (tTp tp ln p = 20 → mI M' 43 8 = nI (nmV tp (tGe tp ln p - p) p 0)) := by
  have h300 := hT.1
  have f1 : Fx [] lxF M (sI M 43 7 (nI p)) := Fx.wI (Or.inr (by decide))
  have hl1 := hl.lx f1
  have hT1 := hT.fx f1 (by decide) (by decide)
  have h51 : mI (sI M 43 7 (nI p)) 43 5 = nI p := by rw [mI_nk (by decide)]; exact h5
  unfold f_X5_advance_52
  rw [gI_t (ly_t43 hl), h5, pI_t (ly_t43 hl), gI_t (ly_t43 hl1), h51, gI_t (ly_t43 hl1), hT1.2.1]
  by_cases e : ln ≤ p
  · have e1 : tTp tp ln p = 35 := by unfold tTp; rw [if_pos e]
    have e2 : tNp tp ln p = p := by unfold tNp; rw [if_pos e]
    refine ⟨sI (sI M 43 7 (nI p)) 43 6 (nI 35), ?_, (fr.tr f1).I (Or.inr (by decide)), by rw [mI_nk (by decide), e2]; exact h51, by rw [mI_e, e1], by rw [mI_nk (by decide), mI_e], fun z => by rw [e1] at z; cases z⟩
    rw [if_neg (nI_nlt e (by omega)), pI_t (ly_t43 hl1)]
    rfl
  · obtain ⟨t1, t2⟩ := hT1.2.2 p (by omega)
    rw [if_pos (nI_lt (by omega) (by omega)), gR_t (ly_t43 hl1), ly_r43_0 hl1, gI_t (ly_t43 hl1), h51, aI_t (ly_t44 hl1) (by omega) (by decide), t2, x_isLetter t1, cA_s]
    cases l : isL (tp p) with
    | true =>
      have e1 : tTp tp ln p = wdT (lets tp p (tWe tp ln p)) := by unfold tTp; rw [if_neg e, if_pos l]
      have e2 : tNp tp ln p = tWe tp ln p := by unfold tNp; rw [if_neg e, if_pos l]
      obtain ⟨M', z1, z2, z3, z4, z5⟩ := x_adv95 (p0 := p) (ln - p) FU p _ (by omega) (by unfold FU; omega) (Nat.le_refl _) hl1 hT1 h51 mI_e (fr.tr f1)
      refine ⟨M', ?_, z2, by rw [e2]; exact z3, by rw [e1]; exact z4, z5, fun z => ?_⟩
      · rw [if_neg (by decide)]; exact z1
      · rw [e1] at z
        have := wdT_le (lets tp p (tWe tp ln p))
        omega
    | false =>
      rw [if_pos (by decide), gR_t (ly_t43 hl1), ly_r43_0 hl1, gI_t (ly_t43 hl1), h51, aI_t (ly_t44 hl1) (by omega) (by decide), t2, x_isDigit t1, cA_s]
      cases g : isG (tp p) with
      | true =>
        have e1 : tTp tp ln p = 20 := by unfold tTp; rw [if_neg e, if_neg (by rw [l]; decide), if_pos g]
        have e2 : tNp tp ln p = tGe tp ln p := by unfold tNp; rw [if_neg e, if_neg (by rw [l]; decide), if_pos g]
        have f2 : Fx [] lxF M (sI (sI M 43 7 (nI p)) 43 6 (nI 20)) := f1.I (Or.inr (by decide))
        have f3 : Fx [] lxF M (sI (sI (sI M 43 7 (nI p)) 43 6 (nI 20)) 43 8 (nI 0)) := f2.I (Or.inr (by decide))
        obtain ⟨M', z1, z2, z3, z4, z5, z6⟩ := x_adv171 (ln - p) FU p 0 _ (by omega) (by unfold FU; omega) (by omega) (hl.lx f3) (hT.fx f3 (by decide) (by decide)) (by rw [mI_nk (by decide), mI_nk (by decide)]; exact h51) mI_e (fr.tr f3)
        refine ⟨M', ?_, z2, by rw [e2]; exact z3, by rw [e1, z5, mI_nk (by decide), mI_e], by rw [z6, mI_nk (by decide), mI_nk (by decide), mI_e], fun _ => z4⟩
        rw [if_neg (by decide), pI_t (ly_t43 hl1), show sI (sI M 43 7 (nI p)) 43 6 (20 : Int32) = sI (sI M 43 7 (nI p)) 43 6 (nI 20) from rfl, pI_t (ly_t43 (hl.lx f2))]
        exact z1
      | false =>
        have f2 : Fx [] lxF M (sI (sI M 43 7 (nI p)) 43 5 (nI (p + 1))) := f1.I (Or.inr (by decide))
        have hl2 := hl.lx f2
        have hT2 := hT.fx f2 (by decide) (by decide)
        rw [if_pos (by decide), cR_t (ly_t43 hl1)]
        -- what sign leaves
        have fin : ∀ (N : Mem) (v nx : Nat), f_X5_sign (some 43) (sI M 43 7 (nI p)) = some (nI v, N) → Fx [] lxF M N → mI N 43 5 = nI nx → mI N 43 7 = nI p → tTp tp ln p = v → tNp tp ln p = nx → v ≠ 20 → ∃ M', (cA (f_X5_sign (some 43) (sI M 43 7 (nI p))) fun v12 M4 => pI M4 (some 43) 5 6 v12 fun M5 => some ((), M5)) = some ((), M') ∧ Fx [] lxF M0 M' ∧ mI M' 43 5 = nI (tNp tp ln p) ∧ mI M' 43 6 = nI (tTp tp ln p) ∧ mI M' 43 7 = nI p ∧ (tTp tp ln p = 20 → mI M' 43 8 = nI (nmV tp (tGe tp ln p - p) p 0)) := by
          intro N v nx hs fN n5 n7 e1 e2 hv
          refine ⟨sI N 43 6 (nI v), ?_, (fr.tr fN).I (Or.inr (by decide)), by rw [mI_nk (by decide), e2]; exact n5, by rw [mI_e, e1], by rw [mI_nk (by decide)]; exact n7, fun z => absurd (e1.symm.trans z) hv⟩
          rw [hs, cA_s, pI_t (ly_t43 (hl.lx fN))]
        have hsg : sgT (tp p) ≠ 20 := by
          unfold sgT
          repeat' split
          all_goals decide
        have h52 : mI (sI (sI M 43 7 (nI p)) 43 5 (nI (p + 1))) 43 5 = nI (p + 1) := mI_e
        have n7 : mI (sI (sI M 43 7 (nI p)) 43 5 (nI (p + 1))) 43 7 = nI p := by rw [mI_nk (by decide), mI_e]
        have start : f_X5_sign (some 43) (sI M 43 7 (nI p)) = (if nI (tp p) = (60 : Int32) then f_X5_sign_32 (some 43) (nI (tp p)) (sI (sI M 43 7 (nI p)) 43 5 (nI (p + 1))) else if nI (tp p) = (62 : Int32) then f_X5_sign_32 (some 43) (nI (tp p)) (sI (sI M 43 7 (nI p)) 43 5 (nI (p + 1))) else f_X5_sign_81 (nI (tp p)) (sI (sI M 43 7 (nI p)) 43 5 (nI (p + 1)))) := by
          unfold f_X5_sign
          rw [gR_t (ly_t43 hl1), ly_r43_0 hl1, gI_t (ly_t43 hl1), h51, aI_t (ly_t44 hl1) (by omega) (by decide), t2, gI_t (ly_t43 hl1), h51, nI_1, pI_t (ly_t43 hl1)]
        have plain : f_X5_sign (some 43) (sI M 43 7 (nI p)) = some (nI (sgT (tp p)), sI (sI M 43 7 (nI p)) 43 5 (nI (p + 1))) → ¬ ((tp p = 60 ∨ tp p = 62) ∧ p + 1 < ln ∧ tp (p + 1) = 61) → _ := fun hs hno => fin _ _ _ hs f2 h52 n7 (by unfold tTp; rw [if_neg e, if_neg (by rw [l]; decide), if_neg (by rw [g]; decide), if_neg hno]) (by unfold tNp; rw [if_neg e, if_neg (by rw [l]; decide), if_neg (by rw [g]; decide), if_neg hno]) hsg
        by_cases hs6 : tp p = 60 ∨ tp p = 62
        · have s32 : f_X5_sign (some 43) (sI M 43 7 (nI p)) = f_X5_sign_32 (some 43) (nI (tp p)) (sI (sI M 43 7 (nI p)) 43 5 (nI (p + 1))) := by
            rw [start]
            rcases hs6 with z | z
            · rw [if_pos (show nI (tp p) = (60 : Int32) by rw [z]; rfl)]
            · rw [if_neg (show ¬ nI (tp p) = (60 : Int32) by rw [z]; decide), if_pos (show nI (tp p) = (62 : Int32) by rw [z]; rfl)]
          by_cases y : p + 1 < ln
          · obtain ⟨t3, t4⟩ := hT2.2.2 (p + 1) y
            by_cases x : tp (p + 1) = 61
            · have f3 : Fx [] lxF M (sI (sI (sI M 43 7 (nI p)) 43 5 (nI (p + 1))) 43 5 (nI (p + 2))) := f2.I (Or.inr (by decide))
              have hy : (tp p = 60 ∨ tp p = 62) ∧ p + 1 < ln ∧ tp (p + 1) = 61 := ⟨hs6, y, x⟩
              refine fin (sI (sI (sI M 43 7 (nI p)) 43 5 (nI (p + 1))) 43 5 (nI (p + 2))) (if tp p = 60 then 22 else 24) (p + 2) ?_ f3 mI_e (by rw [mI_nk (by decide)]; exact n7) (by unfold tTp; rw [if_neg e, if_neg (by rw [l]; decide), if_neg (by rw [g]; decide), if_pos hy]) (by unfold tNp; rw [if_neg e, if_neg (by rw [l]; decide), if_neg (by rw [g]; decide), if_pos hy]) (by split <;> decide)
              rw [s32]
              unfold f_X5_sign_32
              rw [gI_t (ly_t43 hl2), h52, gI_t (ly_t43 hl2), hT2.2.1, if_neg (nI_ge y (by omega)), gR_t (ly_t43 hl2), ly_r43_0 hl2, gI_t (ly_t43 hl2), h52, aI_t (ly_t44 hl2) (by omega) (by decide), t4, if_pos (show nI (tp (p + 1)) = (61 : Int32) by rw [x]; rfl), gI_t (ly_t43 hl2), h52, nI_1, pI_t (ly_t43 hl2)]
              rcases hs6 with z | z
              · rw [if_pos (show nI (tp p) = (60 : Int32) by rw [z]; rfl), if_pos z]; rfl
              · rw [if_neg (show ¬ nI (tp p) = (60 : Int32) by rw [z]; decide), if_neg (by omega)]; rfl
            · refine plain ?_ (fun t => x t.2.2)
              rw [s32]
              unfold f_X5_sign_32
              rw [gI_t (ly_t43 hl2), h52, gI_t (ly_t43 hl2), hT2.2.1, if_neg (nI_ge y (by omega)), gR_t (ly_t43 hl2), ly_r43_0 hl2, gI_t (ly_t43 hl2), h52, aI_t (ly_t44 hl2) (by omega) (by decide), t4, if_neg (show ¬ nI (tp (p + 1)) = (61 : Int32) from nIne (b := 61) (by omega) (by decide) x), x_sign81 hl2 t1]
          · refine plain ?_ (fun t => y t.2.1)
            rw [s32]
            unfold f_X5_sign_32
            rw [gI_t (ly_t43 hl2), h52, gI_t (ly_t43 hl2), hT2.2.1, if_pos (nI_le (by omega) (by omega)), x_sign81 hl2 t1]
        · refine plain ?_ (fun t => hs6 t.1)
          rw [start, if_neg (show ¬ nI (tp p) = (60 : Int32) from nIne (b := 60) (by omega) (by decide) (fun z => hs6 (Or.inl z))), if_neg (show ¬ nI (tp p) = (62 : Int32) from nIne (b := 62) (by omega) (by decide) (fun z => hs6 (Or.inr z))), x_sign81 hl2 t1]
theorem x_adv0 {M0 : Mem} : ∀ (k f p : Nat) (M : Mem), p + k = ln → k < f → Lay pl L M → TpeX tp ln M → mI M 43 5 = nI p → Fx [] lxF M0 M → ∃ M', f_X5_advance_0 f (some 43) M = some ((), M') ∧ Fx [] lxF M0 M' ∧ mI M' 43 5 = nI (tNp tp ln (spn isW tp k p)) ∧ mI M' 43 6 = nI (tTp tp ln (spn isW tp k p)) ∧ mI M' 43 7 = nI (spn isW tp k p) ∧ (tTp tp ln (spn isW tp k p) = 20 → mI M' 43 8 = nI (nmV tp (tGe tp ln (spn isW tp k p) - spn isW tp k p) (spn isW tp k p) 0))
  | k, 0, p, M => fun _ z => absurd z (by omega)
  | 0, f + 1, p, M => by
    intro hp _ hl hT h5 fr
    obtain rfl : p = ln := by omega
    rw [u_X5_advance_0]
    unfold b_X5_advance_0
    rw [gI_t (ly_t43 hl), h5, gI_t (ly_t43 hl), hT.2.1, if_pos (Int32.le_refl _)]
    exact x_adv52 hl hT h5 (Nat.le_refl _) fr
  | k + 1, f + 1, p, M => by
    intro hp hf hl hT h5 fr
    have h300 := hT.1
    obtain ⟨t1, t2⟩ := hT.2.2 p (by omega)
    have f1 : Fx [] lxF M (sI M 43 5 (nI (p + 1))) := Fx.wI (Or.inr (by decide))
    rw [u_X5_advance_0]
    unfold b_X5_advance_0
    rw [gI_t (ly_t43 hl), h5, gI_t (ly_t43 hl), hT.2.1, if_neg (nI_ge (by omega) (by omega)), gR_t (ly_t43 hl), ly_r43_0 hl, gI_t (ly_t43 hl), h5, aI_t (ly_t44 hl) (by omega) (by decide), t2, gI_t (ly_t43 hl), h5, nI_1, pI_t (ly_t43 hl), gR_t (ly_t43 hl), ly_r43_0 hl, gI_t (ly_t43 hl), h5, aI_t (ly_t44 hl) (by omega) (by decide), t2]
    have nxt := x_adv0 (M0 := M0) k f (p + 1) (sI M 43 5 (nI (p + 1))) (by omega) (by omega) (hl.lx f1) (hT.fx f1 (by decide) (by decide)) mI_e (fr.tr f1)
    by_cases a : tp p = 32
    · rw [if_pos (show nI (tp p) = (32 : Int32) by rw [a]; rfl), spn_y (by unfold isW; rw [a]; rfl)]
      exact nxt
    · rw [if_neg (show ¬ nI (tp p) = (32 : Int32) from nIne (b := 32) (by omega) (by decide) a)]
      by_cases b : tp p = 10
      · rw [if_pos (show nI (tp p) = (10 : Int32) by rw [b]; rfl), spn_y (by unfold isW; rw [b]; rfl)]
        exact nxt
      · rw [if_neg (show ¬ nI (tp p) = (10 : Int32) from nIne (b := 10) (by omega) (by decide) b), spn_n (by unfold isW; simp [a, b])]
        exact x_adv52 hl hT h5 (by omega) fr
theorem x_advanceT {M : Mem} {a : Nat} (hl : Lay pl L M) (hT : TpeX tp ln M) (h5 : mI M 43 5 = nI a) (ha : a ≤ ln) : ∃ M', f_X5_advance (some 43) M = some ((), M') ∧ Fx [] lxF M M' ∧ TkX tp ln a M' := x_adv0 (ln - a) FU a M (by omega) (by have := hT.1; unfold FU; omega) hl hT h5 Fx.rf
end XLEX2
