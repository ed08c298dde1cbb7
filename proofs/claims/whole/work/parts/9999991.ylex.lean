/-! ===== tokens of the reference ===== -/
def b8 (c : Nat) : Int32 := (nI c).toInt8.toInt32
theorem b8_lo : ∀ c, c < 128 → b8 c = nI c := by decide +kernel
theorem b8_hi : ∀ c, c < 256 → 128 ≤ c → b8 c < 0 := by decide +kernel
theorem b8_eq {c k : Nat} (hc : c < 256) (hk : k < 128) : b8 c = nI k ↔ c = k := by
  by_cases h : c < 128
  · rw [b8_lo c h, nI_eq (by omega) (by omega)]
  · constructor
    · intro e
      have := b8_hi c hc (by omega)
      rw [e] at this
      exact absurd this (nI_pos (by omega))
    · intro e; omega
theorem y_inB {M : Mem} {c lo hi : Nat} (hc : c < 256) (hlo : lo < 128) (hhi : hi < 128) : f_X12_in (b8 c) (nI lo) (nI hi) M = some (nI (decide (lo ≤ c) && decide (c ≤ hi)).toNat, M) := by
  by_cases h : c < 128
  · rw [b8_lo c h]
    by_cases h1 : lo ≤ c
    · by_cases h2 : c ≤ hi
      · rw [in_ok (nI_nlt h1 (by omega)) (nI_nlt h2 (by omega)), decide_eq_true h1, decide_eq_true h2]; rfl
      · rw [in_hi (nI_lt (by omega) (by omega)), decide_eq_false h2, Bool.and_false]; rfl
    · rw [in_lo (nI_lt (by omega) (by omega)), decide_eq_false h1, Bool.false_and]; rfl
  · have hneg := b8_hi c hc (by omega)
    have : b8 c < nI lo := by
      rw [Int32.lt_iff_toInt_lt] at hneg ⊢
      rw [nI_toInt (by omega)]
      have : (0 : Int32).toInt = 0 := rfl
      omega
    rw [in_lo this, decide_eq_false (show ¬ c ≤ hi by omega), Bool.and_false]
    rfl
theorem y_isLetterB {M : Mem} {c : Nat} (hc : c < 256) : f_X12_isLetter (b8 c) M = some (nI (isL c).toNat, M) := by
  unfold f_X12_isLetter isL
  rw [show f_X12_in (b8 c) (97 : Int32) (122 : Int32) M = _ from y_inB (lo := 97) (hi := 122) hc (by decide) (by decide), cA_s]
  cases h1 : (decide (97 ≤ c) && decide (c ≤ 122)) with
  | true => rw [if_neg (by decide), tv_1, Bool.true_or]; rfl
  | false =>
    rw [if_pos (by decide), show f_X12_in (b8 c) (65 : Int32) (90 : Int32) M = _ from y_inB (lo := 65) (hi := 90) hc (by decide) (by decide), cA_s, Bool.false_or]
    cases h2 : (decide (65 ≤ c) && decide (c ≤ 90)) with
    | true => rw [if_neg (by decide), tv_1]; rfl
    | false => rw [if_pos (by decide), tv_0]; rfl
theorem y_isDigitB {M : Mem} {c : Nat} (hc : c < 256) : f_X12_in (b8 c) (48 : Int32) (57 : Int32) M = some (nI (isG c).toNat, M) := y_inB (lo := 48) (hi := 57) hc (by decide) (by decide)
/-- words by their numbers -/
def wcL : List (Nat × Nat) := [(11992485, 0), (816978149, 1), (798648690, 2), (54318030053, 3), (38264569061, 4), (781674866, 5), (13584752, 6), (11688048, 7), (12803304, 8), (38260894181, 9), (933403429, 10), (3058, 11), (138148, 12), (191476, 13), (599743412, 14), (10169325, 15), (3375, 16), (11967397, 17), (56515534003, 18), (13539621, 19)]
def wcC (x : Int64) (M : Mem) : List (Nat × Nat) → Option (Int32 × Mem)
  | [] => some (-1, M)
  | e :: l => if lg_cmp x (lN e.1) = 0 then some (nI e.2, M) else wcC x M l
def wcI (x : Nat) : List (Nat × Nat) → Option Nat
  | [] => none
  | e :: l => if x = e.1 then some e.2 else wcI x l
theorem wof_c {x : Int64} {M : Mem} : f_X12_wordOf x M = wcC x M wcL := rfl
theorem wcC_i {x : Nat} {M : Mem} (hx : x < 2 ^ 62) : ∀ l : List (Nat × Nat), (∀ e, e ∈ l → e.1 < 2 ^ 62) → wcC (lN x) M l = some (oI (wcI x l), M)
  | [], _ => rfl
  | e :: l, h => by
    have h1 := h e List.mem_cons_self
    show (if _ then _ else _) = some (oI (if _ then _ else _), M)
    by_cases z : x = e.1
    · rw [if_pos ((lg_cmp_eq _ _).mpr (by rw [z])), if_pos z]; rfl
    · rw [if_neg (fun y => z ((lN_eqq (by omega) (by omega)).mp ((lg_cmp_eq _ _).mp y))), if_neg z]
      exact wcC_i hx l (fun d hd => h d (List.mem_cons_of_mem _ hd))
theorem wc_lt : ∀ e ∈ wcL, e.1 < 2 ^ 62 := by decide +kernel
theorem wc_w : ∀ e ∈ wcL, ∃ w ∈ wdsL, hsW w 0 = e.1 := by decide +kernel
theorem wd_ok : ∀ w ∈ wdsL, ∀ c ∈ w, 65 ≤ c ∧ c ≤ 122 := by decide +kernel
theorem wd_rw : ∀ w ∈ wdsL, wcI (hsW w 0) wcL = some (rwT (wdT w)) ∧ wdT w < 20 := by decide +kernel
theorem wd_ln : ∀ w ∈ wdsL, w.length ≤ 6 := by decide +kernel
theorem wcI_no {x : Nat} : ∀ l : List (Nat × Nat), (∀ e, e ∈ l → x ≠ e.1) → wcI x l = none
  | [], _ => rfl
  | e :: l, h => by
    show (if _ then _ else _) = none
    rw [if_neg (h e List.mem_cons_self)]
    exact wcI_no l (fun d hd => h d (List.mem_cons_of_mem _ hd))
theorem wdF_no {l : List Nat} : ∀ (ws : List (List Nat)) (i : Nat), l ∉ ws → wdF ws i l = 36
  | [], _, _ => rfl
  | w :: ws, i, h => by
    show (if _ then _ else _) = 36
    rw [if_neg (show ¬ l = w from fun e => h (by rw [e]; exact List.mem_cons_self))]
    exact wdF_no ws (i + 1) (fun z => h (List.mem_cons_of_mem _ z))
theorem wd_all {l : List Nat} (hl : okW1 l) : wcI (hsW l 0) wcL = if wdT l < 20 then some (rwT (wdT l)) else none := by
  by_cases h : l ∈ wdsL
  · obtain ⟨h1, h2⟩ := wd_rw l h
    rw [if_pos h2, h1]
  · rw [show wdT l = 36 from wdF_no wdsL 0 h, if_neg (by decide)]
    refine wcI_no wcL (fun e he z => ?_)
    obtain ⟨w, hw, hh⟩ := wc_w e he
    exact h (by rw [hsW_inj hl (fun c hc => wd_ok w hw c hc) (by rw [z, hh])]; exact hw)
theorem wd_long {l : List Nat} (h : 7 < l.length) : wdT l = 36 := wdF_no wdsL 0 (fun z => by have := wd_ln l z; omega)
def sgM (t : Nat) : Nat := [60, 300, 62, 301, 61, 35, 43, 45, 42, 47, 40, 41, 44, 59].getD (t - 21) 0
theorem sg_all : ∀ c, c < 256 → (sgT c ≠ 36 ↔ ((59 ≤ c ∧ c ≤ 62) ∨ (40 ≤ c ∧ c ≤ 45) ∨ c = 47 ∨ c = 35)) ∧ (sgT c ≠ 36 → sgM (sgT c) = c ∧ 21 ≤ sgT c ∧ sgT c ≤ 34) := by decide +kernel
section YLEX
variable {pl L : Nat} {tp : Nat → Nat} {ln : Nat}
def TpeM (tp : Nat → Nat) (ln : Nat) (M : Mem) : Prop := ln ≤ 300 ∧ mI M 230 18 = nI ln ∧ ∀ i, i < ln → tp i < 256 ∧ mI M 233 i = b8 (tp i)
abbrev lyF : List (Nat × Nat) := [(230, 19), (230, 20), (230, 21), (230, 22)]
theorem TpeM.fx {M M' : Mem} {A : List Nat} {F : List (Nat × Nat)} (h : TpeM tp ln M) (fr : Fx A F M M') (h1 : 230 ∉ A ∧ (230, 18) ∉ F) (h2 : 233 ∉ A ∧ ∀ q ∈ F, q.1 ≠ 233) : TpeM tp ln M' := by
  unfold TpeM at *
  rw [fr.i h1.1 h1.2, fr.ib h2]
  exact h
theorem Lay.ly {M M' : Mem} (hl : Lay pl L M) (fr : Fx [] lyF M M') : Lay pl L M' := hl.fx fr (by decide) (by decide)
theorem y_nx232 {M0 : Mem} : ∀ (k f p v : Nat) (M : Mem), p + k = ln → k < f → v < 1000000 → Lay pl L M → TpeM tp ln M → mI M 230 19 = nI p → mI M 230 22 = nI v → Fx [] lyF M0 M → ∃ M', f_X12_next_232 f (some 230) M = some ((), M') ∧ Fx [] lyF M0 M' ∧ mI M' 230 19 = nI (spn isG tp k p) ∧ mI M' 230 22 = nI (nmM tp (spn isG tp k p - p) p v) ∧ mI M' 230 20 = mI M 230 20 ∧ mI M' 230 21 = mI M 230 21
  | k, 0, p, v, M => fun _ z => absurd z (by omega)
  | 0, f + 1, p, v, M => by
    intro hp _ hv hl hT h5 h8 fr
    obtain rfl : p = ln := by omega
    refine ⟨M, ?_, fr, h5, ?_, rfl, rfl⟩
    · rw [u_X12_next_232]
      unfold b_X12_next_232
      rw [gI_t (ly_t230 hl), h5, gI_t (ly_t230 hl), hT.2.1, if_pos (Int32.le_refl _)]
    · rw [h8]
      show nI v = nI (nmM tp (p - p) p v)
      rw [Nat.sub_self]; rfl
  | k + 1, f + 1, p, v, M => by
    intro hp hf hv hl hT h5 h8 fr
    have h300 := hT.1
    obtain ⟨t1, t2⟩ := hT.2.2 p (by omega)
    rw [u_X12_next_232]
    unfold b_X12_next_232
    rw [gI_t (ly_t230 hl), h5, gI_t (ly_t230 hl), hT.2.1, if_neg (nI_ge (by omega) (by omega)), gR_t (ly_t230 hl), ly_r230_5 hl, gI_t (ly_t230 hl), h5, aI_t (ly_t233 hl) (by omega) (by decide), t2, y_isDigitB t1, cA_s]
    cases hg : isG (tp p) with
    | false =>
      refine ⟨M, ?_, fr, by rw [spn_n hg]; exact h5, ?_, rfl, rfl⟩
      · rw [if_pos (by decide)]
      · rw [spn_n hg, Nat.sub_self]; exact h8
    | true =>
      have hg' := hg
      unfold isG at hg'
      simp only [Bool.and_eq_true, decide_eq_true_eq] at hg'
      have go : ∀ u, u < 1000000 → (u = if 99999 < v then v else 10 * v + (tp p - 48)) → ∃ M', f_X12_next_232 f (some 230) (sI (sI M 230 22 (nI u)) 230 19 (nI (p + 1))) = some ((), M') ∧ Fx [] lyF M0 M' ∧ mI M' 230 19 = nI (spn isG tp (k + 1) p) ∧ mI M' 230 22 = nI (nmM tp (spn isG tp (k + 1) p - p) p v) ∧ mI M' 230 20 = mI M 230 20 ∧ mI M' 230 21 = mI M 230 21 := by
        intro u hu he
        have f2 : Fx [] lyF M (sI (sI M 230 22 (nI u)) 230 19 (nI (p + 1))) := (Fx.wI (Or.inr (by decide))).I (Or.inr (by decide))
        obtain ⟨M', z1, z2, z3, z4, z5, z6⟩ := y_nx232 k f (p + 1) u _ (by omega) (by omega) hu (hl.ly f2) (hT.fx f2 (by decide) (by decide)) mI_e (by rw [mI_nk (by decide), mI_e]) (fr.tr f2)
        have hge := spn_ge (P := isG) (tp := tp) k (p + 1)
        refine ⟨M', z1, z2, by rw [spn_y hg]; exact z3, ?_, by rw [z5, mI_nk (by decide), mI_nk (by decide)], by rw [z6, mI_nk (by decide), mI_nk (by decide)]⟩
        rw [spn_y hg, z4, show spn isG tp k (p + 1) - p = (spn isG tp k (p + 1) - (p + 1)) + 1 by omega]
        show nI (nmM tp _ (p + 1) u) = nI (nmM tp _ (p + 1) (if 99999 < v then v else 10 * v + (tp p - 48)))
        rw [← he]
      rw [if_neg (by decide), gI_t (ly_t230 hl), h8]
      by_cases z : v ≤ 99999
      · have hval : (((10 : Int32) * nI v) + b8 (tp p)) - (48 : Int32) = nI (10 * v + (tp p - 48)) := by
          rw [b8_lo _ (by omega), show (10 : Int32) = nI 10 from rfl, pk_mul, nI_add, show (48 : Int32) = nI 48 from rfl, pk_sub (by omega)]
          congr 1
          omega
        have hl1 := hl.ly (Fx.wI (M := M) (a := 230) (k := 22) (v := nI (10 * v + (tp p - 48))) (Or.inr (by decide)))
        rw [if_pos (show nI v ≤ (99999 : Int32) from nI_le (b := 99999) z (by decide)), gI_t (ly_t230 hl), h8, gR_t (ly_t230 hl), ly_r230_5 hl, gI_t (ly_t230 hl), h5, aI_t (ly_t233 hl) (by omega) (by decide), t2, hval, pI_t (ly_t230 hl), gI_t (ly_t230 hl1), mI_nk (by decide), h5, nI_1, pI_t (ly_t230 hl1)]
        exact go _ (by omega) (by rw [if_neg (by omega)])
      · have hl1 := hl.ly (Fx.wI (M := M) (a := 230) (k := 22) (v := nI v) (Or.inr (by decide)))
        rw [if_neg (show ¬ nI v ≤ (99999 : Int32) from nI_ge (a := 99999) (by omega) (by omega)), gI_t (ly_t230 hl), h8, pI_t (ly_t230 hl), gI_t (ly_t230 hl1), mI_nk (by decide), h5, nI_1, pI_t (ly_t230 hl1)]
        exact go _ hv (by rw [if_pos (by omega)])
/-- what is told of a token -/
def SoM (t mm : Nat) (M : Mem) : Prop := (t < 20 → mI M 230 21 = nI 1 ∧ mI M 230 22 = nI (rwT t)) ∧ (t = 20 → mI M 230 21 = nI 2 ∧ mI M 230 22 = nI mm) ∧ (21 ≤ t ∧ t ≤ 34 → mI M 230 21 = nI 3 ∧ mI M 230 22 = nI (sgM t)) ∧ (t = 35 → mI M 230 21 = nI 0) ∧ (t = 36 → mI M 230 21 = nI 4)
theorem y_nx173 {M : Mem} {l : List Nat} (hl : Lay pl L M) (ho : okW1 l) (hlen : l.length ≤ 300) {x : Int64} (hx : l.length ≤ 7 → x = lN (hsW l 0)) : ∃ M', f_X12_next_173 (some 230) x (nI l.length) M = some ((), M') ∧ Fx [] lyF M M' ∧ mI M' 230 19 = mI M 230 19 ∧ mI M' 230 20 = mI M 230 20 ∧ SoM (wdT l) 0 M' := by
  have hw := wdT_le l
  have wr : ∀ (u : Int32) (v : Nat), Fx [] lyF M (sI (sI M 230 22 u) 230 21 (nI v)) ∧ mI (sI (sI M 230 22 u) 230 21 (nI v)) 230 19 = mI M 230 19 ∧ mI (sI (sI M 230 22 u) 230 21 (nI v)) 230 20 = mI M 230 20 ∧ mI (sI (sI M 230 22 u) 230 21 (nI v)) 230 21 = nI v ∧ mI (sI (sI M 230 22 u) 230 21 (nI v)) 230 22 = u := fun u v => ⟨(Fx.wI (Or.inr (by decide))).I (Or.inr (by decide)), by rw [mI_nk (by decide), mI_nk (by decide)], by rw [mI_nk (by decide), mI_nk (by decide)], mI_e, by rw [mI_nk (by decide), mI_e]⟩
  have hl1 : ∀ u, Lay pl L (sI M 230 22 u) := fun u => hl.ly (Fx.wI (Or.inr (by decide)))
  have bad : wdT l = 36 → ∃ M', (pI M (some 230) 12 22 (-1 : Int32) fun M5 => gI M5 (some 230) 12 22 fun v3 => if 0 ≤ v3 then pI M5 (some 230) 12 21 (1 : Int32) fun M6 => some ((), M6) else pI M5 (some 230) 12 21 (4 : Int32) fun M7 => some ((), M7)) = some ((), M') ∧ Fx [] lyF M M' ∧ mI M' 230 19 = mI M 230 19 ∧ mI M' 230 20 = mI M 230 20 ∧ SoM (wdT l) 0 M' := by
    intro h36
    obtain ⟨w1, w2, w3, w4, w5⟩ := wr (-1) 4
    refine ⟨_, ?_, w1, w2, w3, ?_⟩
    · rw [pI_t (ly_t230 hl), gI_t (ly_t230 (hl1 _)), mI_e, if_neg (by decide), pI_t (ly_t230 (hl1 _))]
      rfl
    · rw [h36]
      exact ⟨fun z => absurd z (by decide), fun z => absurd z (by decide), fun z => absurd z (by decide), fun z => absurd z (by decide), fun _ => w4⟩
  unfold f_X12_next_173
  by_cases h7 : l.length ≤ 7
  · have hlt := hsW_lt l 0 ho
    have hp : 64 ^ l.length ≤ 64 ^ 7 := Nat.pow_le_pow_right (by decide) h7
    have h62 : hsW l 0 < 2 ^ 62 := by
      have : (64 : Nat) ^ 7 = 4398046511104 := by decide
      omega
    rw [if_pos (show nI l.length ≤ (7 : Int32) from nI_le (b := 7) h7 (by decide)), hx h7, wof_c, wcC_i h62 wcL (fun e he => wc_lt e he), cA_s, wd_all ho]
    rcases hw with hw | hw
    · obtain ⟨w1, w2, w3, w4, w5⟩ := wr (nI (rwT (wdT l))) 1
      have hrw : rwT (wdT l) < 20 := by
        have : ∀ t, t < 20 → rwT t < 20 := by decide +kernel
        exact this _ hw
      refine ⟨_, ?_, w1, w2, w3, ?_⟩
      · rw [if_pos hw, oI_s, pI_t (ly_t230 hl), gI_t (ly_t230 (hl1 _)), mI_e, if_pos (nI_ge0 (by omega)), pI_t (ly_t230 (hl1 _))]
        rfl
      · exact ⟨fun _ => ⟨w4, w5⟩, fun z => absurd z (by omega), fun z => absurd z (by omega), fun z => absurd z (by omega), fun z => absurd z (by omega)⟩
    · rw [if_neg (show ¬ wdT l < 20 by omega)]
      exact bad hw
  · rw [if_neg (show ¬ nI l.length ≤ (7 : Int32) from nI_ge (a := 7) (by omega) (by omega))]
    exact bad (wd_long (by omega))
theorem isL_b {c : Nat} (h : isL c = true) : 65 ≤ c ∧ c ≤ 122 := by
  unfold isL at h
  simp only [Bool.or_eq_true, Bool.and_eq_true, decide_eq_true_eq] at h
  omega
theorem y_nx99 {p0 : Nat} {M0 : Mem} : ∀ (k f p : Nat) (x : Int64) (M : Mem), p + k = ln → k < f → p0 ≤ p → (∀ j, p0 ≤ j → j < p → isL (tp j) = true) → (p - p0 ≤ 8 → x = lN (hsW (lets tp p0 p) 0)) → Lay pl L M → TpeM tp ln M → mI M 230 19 = nI p → mI M 230 20 = nI p0 → Fx [] lyF M0 M → ∃ M', f_X12_next_99 f (some 230) x (nI (p - p0)) M = some ((), M') ∧ Fx [] lyF M0 M' ∧ mI M' 230 19 = nI (spn isL tp k p) ∧ mI M' 230 20 = nI p0 ∧ SoM (wdT (lets tp p0 (spn isL tp k p))) 0 M'
  | k, 0, p, x, M => fun _ z => absurd z (by omega)
  | k, f + 1, p, x, M => by
    intro hp hf h0 hle hx hl hT h5 h7 fr
    have h300 := hT.1
    have oks : okW1 (lets tp p0 p) := by
      intro c hc
      unfold lets at hc
      obtain ⟨j, j1, j2⟩ := List.mem_map.mp hc
      have := List.mem_range'_1.mp j1
      rw [← j2]
      exact isL_b (hle j (by omega) (by omega))
    have ll := lets_len (tp := tp) (p := p0) (q := p)
    have fin : ∃ M', f_X12_next_173 (some 230) x (nI (p - p0)) M = some ((), M') ∧ Fx [] lyF M0 M' ∧ mI M' 230 19 = nI p ∧ mI M' 230 20 = nI p0 ∧ SoM (wdT (lets tp p0 p)) 0 M' := by
      obtain ⟨M', z1, z2, z3, z4, z5⟩ := y_nx173 (x := x) hl oks (by omega) (fun z => hx (by omega))
      rw [ll] at z1
      exact ⟨M', z1, fr.tr z2, by rw [z3]; exact h5, by rw [z4]; exact h7, z5⟩
    rw [u_X12_next_99]
    unfold b_X12_next_99
    rw [gI_t (ly_t230 hl), h5, gI_t (ly_t230 hl), hT.2.1]
    match k, hp, hf with
    | 0, hp, _ =>
      obtain rfl : p = ln := by omega
      rw [if_pos (Int32.le_refl _)]
      exact fin
    | k + 1, hp, hf =>
    obtain ⟨t1, t2⟩ := hT.2.2 p (by omega)
    rw [if_neg (nI_ge (by omega) (by omega)), gR_t (ly_t230 hl), ly_r230_5 hl, gI_t (ly_t230 hl), h5, aI_t (ly_t233 hl) (by omega) (by decide), t2, y_isLetterB t1, cA_s]
    cases hg : isL (tp p) with
    | false =>
      rw [if_pos (by decide), spn_n hg]
      exact fin
    | true =>
      have f1 : Fx [] lyF M (sI M 230 19 (nI (p + 1))) := Fx.wI (Or.inr (by decide))
      have hcb := isL_b hg
      have hlets : lets tp p0 (p + 1) = lets tp p0 p ++ [tp p] := by
        unfold lets
        rw [show p + 1 - p0 = (p - p0) + 1 by omega, List.range'_concat, List.map_append]
        show _ ++ [tp (p0 + 1 * (p - p0))] = _
        rw [show p0 + 1 * (p - p0) = p by omega]
      have nxt : ∀ y : Int64, (p + 1 - p0 ≤ 8 → y = lN (hsW (lets tp p0 (p + 1)) 0)) → ∃ M', f_X12_next_99 f (some 230) y (nI (p - p0) + 1) (sI M 230 19 (nI (p + 1))) = some ((), M') ∧ Fx [] lyF M0 M' ∧ mI M' 230 19 = nI (spn isL tp (k + 1) p) ∧ mI M' 230 20 = nI p0 ∧ SoM (wdT (lets tp p0 (spn isL tp (k + 1) p))) 0 M' := by
        intro y hy
        have := y_nx99 (p0 := p0) (M0 := M0) k f (p + 1) y _ (by omega) (by omega) (by omega) (fun j a b => by
          by_cases e : j = p
          · subst e; exact hg
          · exact hle j a (by omega)) hy (hl.ly f1) (hT.fx f1 (by decide) (by decide)) mI_e (by rw [mI_nk (by decide)]; exact h7) (fr.tr f1)
        rw [spn_y hg, nI_1, show p - p0 + 1 = p + 1 - p0 by omega]
        exact this
      rw [if_neg (by decide)]
      by_cases h8 : 8 ≤ p - p0
      · rw [if_pos (show (8 : Int32) ≤ nI (p - p0) from nI_le (a := 8) h8 (by omega)), gI_t (ly_t230 hl), h5, nI_1 p, pI_t (ly_t230 hl)]
        exact nxt x (fun z => absurd z (by omega))
      · rw [if_neg (show ¬ (8 : Int32) ≤ nI (p - p0) from nI_ge (b := 8) (by omega) (by decide)), gR_t (ly_t230 hl), ly_r230_5 hl, gI_t (ly_t230 hl), h5, aI_t (ly_t233 hl) (by omega) (by decide), t2, gI_t (ly_t230 hl), h5, nI_1 p, pI_t (ly_t230 hl)]
        refine nxt _ (fun _ => ?_)
        rw [hx (by omega), hlets, hsW_app, b8_lo _ (by omega), lN_nI (by omega), show (64 : Int64) = lN 64 from rfl, lN_mul, lN_add, lN_sub (by omega)]
        congr 1
        omega
/-- the reference stands at a token -/
def TkM (tp : Nat → Nat) (ln a : Nat) (M : Mem) : Prop := mI M 230 19 = nI (tNx tp ln a) ∧ mI M 230 20 = nI (tSt tp ln a) ∧ SoM (tTk tp ln a) (tMm tp ln a) M
end YLEX
