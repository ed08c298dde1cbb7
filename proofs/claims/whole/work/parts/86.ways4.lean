/-! ===== a ply by ways, in the reference ===== -/
theorem bS_sh3 {χ : Chi} {x y z : Nat} (hx : x < 8) (hy : y < 8) (hz : z < 8) : (((nI (bS χ 8) >>> (nI x &&& 31)) &&& (nI (bS χ 8) >>> (nI y &&& 31))) &&& (nI (bS χ 8) >>> (nI z &&& 31))) &&& (1 : Int32) = nI (χ x && χ y && χ z).toNat := by
  have h := bS_lt χ 8
  rw [pk_shrN (by omega) _ x (s_l x (by omega)), pk_shrN (by omega) _ y (s_l y (by omega)), pk_shrN (by omega) _ z (s_l z (by omega)), show (1 : Int32) = nI 1 from rfl, nx_and, nx_and, nx_and]
  congr 1
  have e : ∀ k, k < 8 → ((bS χ 8) / 2 ^ k).testBit 0 = χ k := fun k hk => by
    rw [Nat.testBit_div_two_pow, bS_bit]
    simp [hk]
  have key : ∀ n : Nat, n &&& 1 = (n.testBit 0).toNat := fun n => by
    rw [Nat.and_one_is_mod, Nat.testBit_zero]
    rcases Nat.mod_two_eq_zero_or_one n with q | q <;> simp [q]
  rw [key, Nat.testBit_and, Nat.testBit_and, e x hx, e y hy, e z hz]
section WAYS4
variable {w h L nt : Nat} {τ : Nat → Txt} {π : Pos}
abbrev lA : List Nat := [252, 253, 259]
abbrev lF : List (Nat × Nat) := [(230, 46), (230, 47)]
theorem y_worth_l {x y : Option Nat} {k : Nat} {χ : Chi} (ok : okN w h π) (hx : okX nt x) (hy : okX nt y) (hk : 12 ≤ k ∧ k ≤ 15) : ∀ (j n m : Nat) (M : Mem), m + j = 8 → j < n → Bs w h L nt τ M → MPos π M → LaidAt (canS w h (tT τ x) π) χ 8 M → (∀ i, i < m → mL M 259 i = i64 (wgS w h (tT τ x) (tT τ y) π k i)) → ∃ M', f_X12_laysWorth_2 n (some 230) (oI y) (nI (mwd k)) (nI m) M = some ((), M') ∧ Fx lA lF M M' ∧ ∀ i, i < 8 → mL M' 259 i = i64 (wgS w h (tT τ x) (tT τ y) π k i)
  | j, 0, m, M => fun _ z => absurd z (by omega)
  | 0, n + 1, m, M => by
    intro hm _ hb hM hL hW
    obtain rfl : m = 8 := by omega
    refine ⟨M, ?_, Fx.rf, hW⟩
    rw [u_X12_laysWorth_2]
    unfold b_X12_laysWorth_2
    rw [if_pos (by decide)]
  | j + 1, n + 1, m, M => by
    intro hm hn hb hM hL hW
    have hl := hb.lay
    have hm8 : m < 8 := by omega
    obtain ⟨l1, l2, l3⟩ := hL.2 m hm8
    have fr1 : Fx lA lF M (sI M 230 46 (bF (canS w h (tT τ x) π m))) := Fx.wI (Or.inr (by decide))
    have hb1 := hb.fx fr1 (by decide) (by decide)
    have fr2 : Fx lA lF M (sI (sI M 230 46 (bF (canS w h (tT τ x) π m))) 230 47 (bG (canS w h (tT τ x) π m))) := fr1.I (Or.inr (by decide))
    have hb2 := hb.fx fr2 (by decide) (by decide)
    obtain ⟨-, g1, g2⟩ := nmA_ok (T := tT τ x) hb.1 (hb.okT hx) ok.1 hm8
    obtain ⟨M3, v1, v2⟩ := y_sumOf (y := k) hb2 (hM.fx fr2 (by decide) (by decide)) ok hy hk hm8 g1 g2 (by rw [mI_nk (by decide), mI_e, bF_i]) (by rw [mI_e, bG_i])
    have fr3 : Fx lA lF M (sL M3 259 m (i64 (wgS w h (tT τ x) (tT τ y) π k m))) := (fr2.tr (v2.mono (by decide) (by decide))).L (Or.inl (by decide))
    have hb3 := (hb2.fx v2 (by decide) (by decide)).lay
    obtain ⟨M', z1, z2, z3⟩ := y_worth_l ok hx hy hk j n (m + 1) _ (by omega) (by omega) (hb.fx fr3 (by decide) (by decide)) (hM.fx fr3 (by decide) (by decide)) (hL.fx fr3 (by decide) (by decide)) (fun i hi => by
      by_cases e : i = m
      · subst e; rw [mL_e]
      · rw [mL_nk e, v2.lb (by decide), mL_sI, mL_sI]; exact hW i (by omega))
    refine ⟨M', ?_, fr3.tr z2, z3⟩
    rw [u_X12_laysWorth_2]
    unfold b_X12_laysWorth_2
    rw [if_neg (show ¬ (8 : Int32) ≤ nI m from nI_ge (b := 8) (by omega) (by decide)), gR_t (ly_t230 hl), ly_r230_50 hl, aI_t (ly_t256 hl) hm8 (by decide), l1, pI_t (ly_t230 hl), gR_t (ly_t230 hb1.lay), ly_r230_51 hb1.lay, aI_t (ly_t257 hb1.lay) hm8 (by decide), fr1.ib (by decide), l2, pI_t (ly_t230 hb1.lay), gR_t (ly_t230 hb2.lay), ly_r230_54 hb2.lay, cR_t (ly_t230 hb2.lay), v1, cA_s, wL_t (ly_t259 hb3) hm8 (by decide), nI_1]
    exact z1
theorem y_worth {M : Mem} {x y : Option Nat} {k : Nat} {χ : Chi} (hb : Bs w h L nt τ M) (hM : MPos π M) (ok : okN w h π) (hx : okX nt x) (hy : okX nt y) (hk : 12 ≤ k ∧ k ≤ 15) (hL : LaidAt (canS w h (tT τ x) π) χ 8 M) : ∃ M', f_X12_laysWorth (some 230) (oI y) (nI (mwd k)) M = some ((), M') ∧ Fx lA lF M M' ∧ ∀ i, i < 8 → mL M' 259 i = i64 (wgS w h (tT τ x) (tT τ y) π k i) := y_worth_l ok hx hy hk 8 FU 0 M (by omega) (by decide) hb hM hL (fun i hi => absurd hi (by omega))
theorem y_never_l {x : Option Nat} {t m : Nat} {χ : Chi} (ok : okN w h π) (hx : okX nt x) (ht : t < nt) (hm : m < 8) : ∀ (j n k : Nat) (M : Mem), k + j = (τ t).length → j < n → Bs w h L nt τ M → MPos π M → LaidAt (canS w h (tT τ x) π) χ 8 M → ∃ M', f_X12_isNever_5 n (some 230) (nI t) (nI m) (nI (nevS ((τ t).take k) (nmA w h (tT τ x) π m)).toNat) (nI k) M = some (nI (nevS (τ t) (nmA w h (tT τ x) π m)).toNat, M') ∧ Fx [252, 253] [] M M'
  | j, 0, k, M => fun _ q => absurd q (by omega)
  | 0, n + 1, k, M => by
    intro hk _ hb hM hL
    obtain ⟨o1, o2, o3⟩ := hb.2.2.2.2.2 t ht
    have h6 := hb.2.2.2.2.1
    have hl := hb.lay
    have hlen := o1.1
    have hz := o3.1
    refine ⟨M, ?_, Fx.rf⟩
    rw [u_X12_isNever_5]
    unfold b_X12_isNever_5
    rw [if_neg (show ¬ nI t = -1 from fun q => (nI_nm1 (by omega)).mp q), gR_t (ly_t230 hl), ly_r230_9 hl, aI_t (ly_t234 hl) (by omega) (by decide), hz, if_pos (nI_le (by omega) (by omega)), List.take_of_length_le (by omega)]
    cases nevS (τ t) (nmA w h (tT τ x) π m) with
    | false => exact tv_n0
    | true => exact tv_n1
  | j + 1, n + 1, k, M => by
    intro hk hn hb hM hL
    obtain ⟨o1, o2, o3⟩ := hb.2.2.2.2.2 t ht
    have h6 := hb.2.2.2.2.1
    have hl := hb.lay
    have hlen := o1.1
    have hz := o3.1
    obtain ⟨c, hc⟩ : ∃ c, (τ t)[k]? = some c := ⟨_, List.getElem?_eq_getElem (by omega)⟩
    obtain ⟨q1, q2, q3, q4, q5⟩ := o3.2 k c hc
    have hty : cTy c = 0 ∨ (12 ≤ cTy c ∧ cTy c ≤ 16) := by
      rcases o1.2.1 k c hc with q | q | q
      · exact Or.inl q.1
      · exact Or.inr ⟨q.1, by have := q.2.1; omega⟩
      · exact Or.inr ⟨by have := q.1; omega, by have := q.1; omega⟩
    have hnt := nev_take (nm := nmA w h (tT τ x) π m) hc
    obtain ⟨l1, l2, l3⟩ := hL.2 m hm
    rw [u_X12_isNever_5]
    unfold b_X12_isNever_5
    rw [if_neg (show ¬ nI t = -1 from fun q => (nI_nm1 (by omega)).mp q), gR_t (ly_t230 hl), ly_r230_9 hl, aI_t (ly_t234 hl) (by omega) (by decide), hz, if_neg (nI_ge (by omega) (by omega)), gR_t (ly_t230 hl), ly_r230_10 hl, show (20 : Int32) = nI 20 from rfl, pk_mul, nI_add, aI_t (ly_t235 hl) (by omega) (by decide), q1]
    by_cases e : cTy c = 16
    · rw [if_pos (by rw [e]; rfl), gR_t (ly_t230 hl), ly_r230_50 hl, aI_t (ly_t256 hl) hm (by decide), l1, gR_t (ly_t230 hl), ly_r230_51 hl, aI_t (ly_t257 hl) hm (by decide), l2, bF_i, bG_i, cR_t (ly_t230 hl)]
      obtain ⟨M1, u1, u2, u3⟩ := y_names (f := fI (canS w h (tT τ x) π m)) (t := gI' (canS w h (tT τ x) π m)) hb hM ok hm
      have hb1 := hb.fx u2 (by decide) (by decide)
      have hno := (nmA_ok (T := tT τ x) hb.1 (hb.okT hx) ok.1 hm).1
      have hwt : wtC (cCd c) true := by
        rcases o1.2.1 k c hc with q | q | q
        · have := q.1; omega
        · have := q.2.1; omega
        · exact q.2
      obtain ⟨M2, v1, v2⟩ := y_val hb1 ht hc (wtC_ne hwt) hno u3
      have hv := (evV_ok hno hwt).2 rfl
      rw [u1, cA_s]
      cases hp : nevS ((τ t).take k) (nmA w h (tT τ x) π m) with
      | true =>
        rw [hp, Bool.true_or] at hnt
        have fr : Fx [252, 253] [] M M1 := u2.mono (by decide) (by decide)
        rw [if_neg (by decide), nI_1]
        obtain ⟨M3, z1, z2⟩ := y_never_l ok hx ht hm j n (k + 1) M1 (by omega) (by omega) hb1 (hM.fx fr (by decide) (by decide)) (hL.fx fr (by decide) (by decide))
        rw [hnt] at z1
        exact ⟨M3, z1, fr.tr z2⟩
      | false =>
        rw [hp, Bool.false_or, e] at hnt
        have fr : Fx [252, 253] [] M M2 := (u2.mono (by decide) (by decide)).tr (v2.mono (by decide) (by decide))
        obtain ⟨M3, z1, z2⟩ := y_never_l ok hx ht hm j n (k + 1) M2 (by omega) (by omega) (hb.fx fr (by decide) (by decide)) (hM.fx fr (by decide) (by decide)) (hL.fx fr (by decide) (by decide))
        rw [if_pos (by decide), gR_t (ly_t230 hb1.lay), ly_r230_11 hb1.lay, aI_t (ly_t236 hb1.lay) (by omega) (by decide), cR_t (ly_t230 hb1.lay), v1, cA_s, i64_0, nI_1]
        rcases hv with ev | ev
        · rw [ev] at hnt ⊢
          rw [if_pos ((lg_cmp_le _ _).mpr (Int64.le_refl _))]
          rw [hnt] at z1
          exact ⟨M3, z1, fr.tr z2⟩
        · rw [ev] at hnt ⊢
          rw [if_neg (show ¬ lg_cmp (i64 1) (i64 0) ≤ 0 from fun q => by have := (i64_le (b01.vl (Or.inr rfl)).sm.bg vl0.sm.bg).mp ((lg_cmp_le _ _).mp q); omega)]
          rw [hnt] at z1
          exact ⟨M3, z1, fr.tr z2⟩
    · have e' : (cTy c == 16) = false := by simpa using e
      rw [e', Bool.false_and, Bool.or_false] at hnt
      rw [if_neg (show ¬ nI (mwd (cTy c)) = (5 : Int32) from nIne (b := 5) (by unfold mwd; omega) (by decide) (by unfold mwd; omega)), nI_1, ← hnt]
      exact y_never_l ok hx ht hm j n (k + 1) M (by omega) (by omega) hb hM hL
theorem y_never {M : Mem} {x y : Option Nat} {m : Nat} {χ : Chi} (hb : Bs w h L nt τ M) (hM : MPos π M) (ok : okN w h π) (hx : okX nt x) (hy : okX nt y) (hm : m < 8) (hL : LaidAt (canS w h (tT τ x) π) χ 8 M) : ∃ M', f_X12_isNever (some 230) (oI y) (nI m) M = some (nI (nevS (tT τ y) (nmA w h (tT τ x) π m)).toNat, M') ∧ Fx [252, 253] [] M M' := by
  unfold f_X12_isNever
  cases y with
  | none =>
    refine ⟨M, ?_, Fx.rf⟩
    rw [show FU = 999999999 + 1 from rfl, u_X12_isNever_5]
    unfold b_X12_isNever_5
    rw [oI_n, if_pos (show m1 = -1 from rfl), tv_0]
    rfl
  | some t =>
    have ht := hy t rfl
    have hlen := (hb.2.2.2.2.2 t ht).1.1
    exact y_never_l ok hx ht hm (τ t).length FU 0 M (by omega) (by unfold FU; omega) hb hM hL
def encM (a : Option (Nat × Int)) (i4 : Int32) (l5 : Int64) : Prop := i4 = oI (a.map (fun b => b.1)) ∧ ∀ b, a = some b → b.1 < 512 ∧ l5 = i64 b.2 ∧ -8000000 ≤ b.2 ∧ b.2 ≤ 8000000
theorem y_by75 {M : Mem} {f : Nat → Int} {χ : Chi} (hb : Bs w h L nt τ M) (hW : ∀ i, i < 8 → mL M 259 i = i64 (f i)) (hf : ∀ i, i < 8 → vl (f i)) : ∀ (k n q : Nat) (a : Option (Nat × Int)) (i4 : Int32) (l5 : Int64), q + k = 512 → k < n → encM a i4 l5 → f_X12_offerBy_75 n (some 230) (nI (bS χ 8)) i4 l5 (nI q) M = some (oI ((bstQ (fun q => tri q && inq χ q) (f3 f) (List.range' q k) a).map (fun b => b.1)), M)
  | k, 0, q, a, i4, l5, _, hn => absurd hn (by omega)
  | 0, n + 1, q, a, i4, l5, hq, _ => by
    intro he
    obtain rfl : q = 512 := by omega
    rw [u_X12_offerBy_75]
    unfold b_X12_offerBy_75
    rw [if_pos (by decide), he.1]
    rfl
  | k + 1, n + 1, q, a, i4, l5, hq, hn => by
    intro he
    have hl := hb.lay
    have n64 : ∀ {X : Option (Int32 × Mem)}, nzI (64 : Int32) X = X := nz_y (y := 64) (by decide)
    have n8 : ∀ {X : Option (Int32 × Mem)}, nzI (8 : Int32) X = X := nz_y (y := 8) (by decide)
    have d1 : nI q / (64 : Int32) = nI (qx q) := pk_div (d := 64) (by omega) (by decide) (by decide)
    have d2 : nI q / (8 : Int32) = nI (q / 8) := pk_div (d := 8) (by omega) (by decide) (by decide)
    have d3 : nI (q / 8) - nI (q / 8) / (8 : Int32) * (8 : Int32) = nI (qy q) := pk_rem (d := 8) (by omega) (by decide) (by decide)
    have d4 : nI q - nI (q / 8) * (8 : Int32) = nI (qz q) := nI_remN (d := 8) (by omega) (by decide) (by decide)
    have hx : qx q < 8 := by unfold qx; omega
    have hy : qy q < 8 := by unfold qy; omega
    have hz : qz q < 8 := by unfold qz; omega
    have skip := y_by75 (χ := χ) hb hW hf k n (q + 1) a i4 l5 (by omega) (by omega) he
    rw [u_X12_offerBy_75, List.range'_succ, bstQ_c]
    unfold b_X12_offerBy_75
    rw [if_neg (show ¬ (512 : Int32) ≤ nI q from nI_ge (b := 512) (by omega) (by decide)), n64, n8, n8, n8, d1, d2, d3, d4, nI_1]
    by_cases t1 : qx q < qy q
    · rw [if_neg (nI_ge t1 (by omega))]
      by_cases t2 : qy q < qz q
      · have ht : tri q = true := by unfold tri; simp [t1, t2]
        rw [if_neg (nI_ge t2 (by omega)), bS_sh3 hx hy hz]
        by_cases hc : inq χ q = true
        · have hc' : (χ (qx q) && χ (qy q) && χ (qz q)) = true := hc
          have v1 := hf _ hx
          have v2 := hf _ hy
          have v3 := hf _ hz
          have hbd : -8000000 ≤ f3 f q ∧ f3 f q ≤ 8000000 := by
            unfold f3
            obtain ⟨a1, a2⟩ := v1
            obtain ⟨a3, a4⟩ := v2
            obtain ⟨a5, a6⟩ := v3
            omega
          have hnew : encM (some (q, f3 f q)) (nI q) (i64 (f3 f q)) := ⟨rfl, fun b e => by cases e; exact ⟨by omega, rfl, hbd.1, hbd.2⟩⟩
          have up := y_by75 (χ := χ) hb hW hf k n (q + 1) _ _ _ (by omega) (by omega) hnew
          rw [hc', if_pos (by decide), gR_t (ly_t230 hl), ly_r230_54 hl, aL_t (ly_t259 hl) hx (by decide), hW _ hx, gR_t (ly_t230 hl), ly_r230_54 hl, aL_t (ly_t259 hl) hy (by decide), hW _ hy, gR_t (ly_t230 hl), ly_r230_54 hl, aL_t (ly_t259 hl) hz (by decide), hW _ hz, i64_add, i64_add, if_pos (show (tri q && inq χ q) = true by rw [ht, hc]; rfl)]
          rw [show f (qx q) + f (qy q) + f (qz q) = f3 f q from rfl]
          cases a with
          | none =>
            rw [he.1, show oI (Option.map (fun b : Nat × Int => b.1) none) = m1 from rfl, if_pos (show m1 = -1 from rfl)]
            exact up
          | some b =>
            obtain ⟨g1, g2, g3, g4⟩ := he.2 b rfl
            have ei : i4 = nI b.1 := he.1
            unfold upQ
            dsimp only
            rw [ei, if_neg (show ¬ nI b.1 = -1 from fun z => (nI_nm1 (by omega)).mp z), g2]
            by_cases hlt : b.2 < f3 f q
            · rw [if_neg (fun z => by have := (i64_le ⟨by omega, by omega⟩ ⟨by omega, by omega⟩).mp ((lg_cmp_le _ _).mp z); omega), if_pos hlt]
              exact up
            · rw [if_pos ((lg_cmp_le _ _).mpr ((i64_le ⟨by omega, by omega⟩ ⟨by omega, by omega⟩).mpr (by omega))), if_neg hlt, ← ei, ← g2]
              exact skip
        · have hc' : (χ (qx q) && χ (qy q) && χ (qz q)) = false := by cases z : (χ (qx q) && χ (qy q) && χ (qz q)); rfl; exact absurd z hc
          rw [hc', if_neg (by decide), if_neg (fun z => hc (by simp only [Bool.and_eq_true] at z; exact z.2))]
          exact skip
      · rw [if_pos (nI_le (by omega) (by omega)), if_neg (fun z => t2 (by simp only [Bool.and_eq_true] at z; have := z.1; unfold tri at this; simp only [Bool.and_eq_true, decide_eq_true_eq] at this; exact this.2))]
        exact skip
    · rw [if_pos (nI_le (by omega) (by omega)), if_neg (fun z => t1 (by simp only [Bool.and_eq_true] at z; have := z.1; unfold tri at this; simp only [Bool.and_eq_true, decide_eq_true_eq] at this; exact this.1))]
      exact skip
theorem wgS_vl {T W : Txt} {k m : Nat} (hd : okD w h) (okt : okT T) (okw : okT W) (ok : okP π) (hm : m < 8) (hk : 12 ≤ k ∧ k ≤ 15) : vl (wgS w h T W π k m) := worS_vl okw (nmA_ok hd okt ok hm).1 hk
theorem y_by4 {x y : Option Nat} (ok : okN w h π) (hx : okX nt x) (hy : okX nt y) : ∀ (j n m : Nat) (M : Mem), m + j = 8 → j < n → Bs w h L nt τ M → MPos π M → LaidAt (canS w h (tT τ x) π) (ablS w h (tT τ x) π) 8 M → ∃ M', f_X12_offerBy_4 n (some 230) (oI y) (nI (bS (fun i => decide (i < m) && lefS w h (tT τ x) (tT τ y) π i) 8)) (nI m) M = some (oI ((bstQ (fun q => tri q && inq (alwS w h (tT τ x) (tT τ y) π) q) (f3 (wgS w h (tT τ x) (tT τ y) π 13)) (List.range' 0 512) none).map (fun b => b.1)), M') ∧ Fx lA lF M M'
  | j, 0, m, M => fun _ z => absurd z (by omega)
  | 0, n + 1, m, M => by
    intro hm _ hb hM hL
    obtain rfl : m = 8 := by omega
    have hl := hb.lay
    have e : bS (fun i => decide (i < 8) && lefS w h (tT τ x) (tT τ y) π i) 8 = bS (lefS w h (tT τ x) (tT τ y) π) 8 := bS_ext (fun i hi => by simp [hi])
    have hle := popC_le (lefS w h (tT τ x) (tT τ y) π) 8
    obtain ⟨M1, u1, u2, u3⟩ := y_worth hb hM ok hx hy (k := 13) (by decide) hL
    have hb1 := hb.fx u2 (by decide) (by decide)
    have fin : ∀ χ, χ = alwS w h (tT τ x) (tT τ y) π → f_X12_offerBy_75 FU (some 230) (nI (bS χ 8)) (-1) 0 0 M1 = some (oI ((bstQ (fun q => tri q && inq (alwS w h (tT τ x) (tT τ y) π) q) (f3 (wgS w h (tT τ x) (tT τ y) π 13)) (List.range' 0 512) none).map (fun b => b.1)), M1) := by
      rintro χ rfl
      exact y_by75 hb1 u3 (fun i hi => wgS_vl hb.1 (hb.okT hx) (hb.okT hy) ok.1 hi (by decide)) 512 FU 0 none (-1) 0 (by omega) (by decide) ⟨rfl, fun b e => by cases e⟩
    refine ⟨M1, ?_, u2⟩
    rw [u_X12_offerBy_4, e]
    unfold b_X12_offerBy_4
    rw [if_pos (by decide), y_bits, cA_s]
    by_cases h3 : popC (lefS w h (tT τ x) (tT τ y) π) 8 < 3
    · rw [if_neg (show ¬ (3 : Int32) ≤ nI _ from nI_ge (b := 3) h3 (by decide)), gI_t (ly_t230 hl), laid_abl hL, cR_t (ly_t230 hl), show (2 : Int32) = nI (mwd 13) from rfl, u1, cA_s]
      exact fin _ (by unfold alwS; rw [if_pos h3])
    · rw [if_pos (show (3 : Int32) ≤ nI _ from nI_le (a := 3) (by omega) (by omega)), cR_t (ly_t230 hl), show (2 : Int32) = nI (mwd 13) from rfl, u1, cA_s]
      exact fin _ (by unfold alwS; rw [if_neg h3])
  | j + 1, n + 1, m, M => by
    intro hm hn hb hM hL
    have hl := hb.lay
    have hm8 : m < 8 := by omega
    rw [u_X12_offerBy_4]
    unfold b_X12_offerBy_4
    rw [if_neg (show ¬ (8 : Int32) ≤ nI m from nI_ge (b := 8) (by omega) (by decide)), cR_t (ly_t230 hl), y_isIn hb (laid_abl hL) hm8, cA_s, nI_1]
    have keep : ∀ M1, Fx [252, 253] [] M M1 → lefS w h (tT τ x) (tT τ y) π m = false → ∃ M', f_X12_offerBy_4 n (some 230) (oI y) (nI (bS (fun i => decide (i < m) && lefS w h (tT τ x) (tT τ y) π i) 8)) (nI (m + 1)) M1 = some (oI ((bstQ (fun q => tri q && inq (alwS w h (tT τ x) (tT τ y) π) q) (f3 (wgS w h (tT τ x) (tT τ y) π 13)) (List.range' 0 512) none).map (fun b => b.1)), M') ∧ Fx lA lF M M' := by
      intro M1 fr hf
      obtain ⟨M', z1, z2⟩ := y_by4 ok hx hy j n (m + 1) M1 (by omega) (by omega) (hb.fx fr (by decide) (by decide)) (hM.fx fr (by decide) (by decide)) (hL.fx fr (by decide) (by decide))
      have e : bS (fun i => decide (i < m + 1) && lefS w h (tT τ x) (tT τ y) π i) 8 = bS (fun i => decide (i < m) && lefS w h (tT τ x) (tT τ y) π i) 8 := bS_ext (fun i _ => by
        by_cases q : i = m
        · subst q; simp [hf]
        · simp [show i < m + 1 ↔ i < m by omega])
      rw [e] at z1
      exact ⟨M', z1, (fr.mono (by decide) (by decide)).tr z2⟩
    cases hab : ablS w h (tT τ x) π m with
    | false =>
      rw [if_pos (by decide)]
      exact keep M Fx.rf (by unfold lefS; rw [hab]; rfl)
    | true =>
      rw [if_neg (by decide), cR_t (ly_t230 hl)]
      obtain ⟨M1, v1, v2⟩ := y_never hb hM ok hx hy hm8 hL
      rw [v1, cA_s]
      cases hnv : nevS (tT τ y) (nmA w h (tT τ x) π m) with
      | true =>
        rw [if_neg (by decide)]
        exact keep M1 v2 (by unfold lefS; rw [hnv]; simp)
      | false =>
        rw [if_pos (by decide), bS_addI (by decide) hm8]
        obtain ⟨M', z1, z2⟩ := y_by4 ok hx hy j n (m + 1) M1 (by omega) (by omega) (hb.fx v2 (by decide) (by decide)) (hM.fx v2 (by decide) (by decide)) (hL.fx v2 (by decide) (by decide))
        have e : bS (fun i => decide (i < m + 1) && lefS w h (tT τ x) (tT τ y) π i) 8 = bS (fun i => (decide (i < m) && lefS w h (tT τ x) (tT τ y) π i) || i == m) 8 := bS_ext (fun i _ => by
          by_cases q : i = m
          · subst q; unfold lefS; simp [hab, hnv]
          · have q' : (i == m) = false := by simpa using q
            simp [show i < m + 1 ↔ i < m by omega, q'])
        rw [e] at z1
        exact ⟨M', z1, (v2.mono (by decide) (by decide)).tr z2⟩
/-- the offer of both is the same -/
theorem off_eq {T W : Txt} : (bstQ (fun q => tri q && inq (alwS w h T W π) q) (f3 (wgS w h T W π 13)) (List.range' 0 512) none) = bstQ (inq (alwS w h T W π)) (f3 (wgX w h T W π 13)) TQ none := by
  rw [← bstQ_filter]
  apply bstQ_congr
  intro q hq hp
  have h1 : ∀ m, tch q m = true → wgS w h T W π 13 m = wgX w h T W π 13 m := fun m hm => by
    unfold wgX
    rw [if_pos (alw_abl (inq_at hp hm))]
  unfold f3
  rw [h1 (qx q) (by simp [tch]), h1 (qy q) (by simp [tch]), h1 (qz q) (by simp [tch])]
theorem y_offerBy {M : Mem} {x y : Option Nat} (hb : Bs w h L nt τ M) (hM : MPos π M) (ok : okN w h π) (hx : okX nt x) (hy : okX nt y) (hL : LaidAt (canS w h (tT τ x) π) (ablS w h (tT τ x) π) 8 M) (ho : ¬ popC (ablS w h (tT τ x) π) 8 < 3) : ∃ M', f_X12_offerBy (some 230) (oI y) M = some (nI (wayQ w h (tT τ x) (tT τ y) π), M') ∧ Fx lA lF M M' := by
  obtain ⟨v, q1, q2, q3⟩ := wayQ_ok (W := tT τ y) ho
  obtain ⟨M', z1, z2⟩ := y_by4 ok hx hy 8 FU 0 M (by omega) (by decide) hb hM hL
  rw [off_eq, q1] at z1
  refine ⟨M', ?_, z2⟩
  have e : bS (fun i => decide (i < 0) && lefS w h (tT τ x) (tT τ y) π i) 8 = 0 := by
    rw [show (fun i => decide (i < 0) && lefS w h (tT τ x) (tT τ y) π i) = fun _ => false by funext i; simp, bS_0]
  rw [e] at z1
  exact z1
end WAYS4
