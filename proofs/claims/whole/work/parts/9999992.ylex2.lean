/-! ===== tokens of the reference, on ===== -/
section YLEX2
variable {pl L : Nat} {tp : Nat → Nat} {ln : Nat}
theorem SoM.of21 {t mm : Nat} {M : Mem} (h1 : 21 ≤ t) (h2 : t ≤ 34) (a : mI M 230 21 = nI 3) (b : mI M 230 22 = nI (sgM t)) : SoM t mm M := ⟨fun z => absurd z (by omega), fun z => absurd z (by omega), fun _ => ⟨a, b⟩, fun z => absurd z (by omega), fun z => absurd z (by omega)⟩
theorem SoM.of36 {mm : Nat} {M : Mem} (a : mI M 230 21 = nI 4) : SoM 36 mm M := ⟨fun z => absurd z (by omega), fun z => absurd z (by omega), fun z => absurd z (by omega), fun z => absurd z (by omega), fun _ => a⟩
theorem y_nx52 {M M0 : Mem} {p : Nat} (hl : Lay pl L M) (hT : TpeM tp ln M) (h5 : mI M 230 19 = nI p) (hp : p ≤ ln) (fr : Fx [] lyF M0 M) : ∃ M', f_X12_next_52 (some 230) M = some ((), M') ∧ Fx [] lyF M0 M' ∧ mI M' 230 19 = nI (tNp tp ln p) ∧ mI M' 230 20 = nI p ∧ SoM (tTp tp ln p) (nmM tp (tGe tp ln p - p) p 0) M' := by
  have h300 := hT.1
  have f1 : Fx [] lyF M (sI M 230 20 (nI p)) := Fx.wI (Or.inr (by decide))
  have hl1 := hl.ly f1
  have hT1 := hT.fx f1 (by decide) (by decide)
  have h51 : mI (sI M 230 20 (nI p)) 230 19 = nI p := by rw [mI_nk (by decide)]; exact h5
  unfold f_X12_next_52
  rw [gI_t (ly_t230 hl), h5, pI_t (ly_t230 hl), gI_t (ly_t230 hl1), h51, gI_t (ly_t230 hl1), hT1.2.1]
  by_cases e : p = ln
  · have e1 : tTp tp ln p = 35 := by unfold tTp; rw [if_pos (by omega)]
    have e2 : tNp tp ln p = p := by unfold tNp; rw [if_pos (by omega)]
    refine ⟨sI (sI M 230 20 (nI p)) 230 21 (nI 0), ?_, (fr.tr f1).I (Or.inr (by decide)), by rw [mI_nk (by decide), e2]; exact h51, by rw [mI_nk (by decide), mI_e], ?_⟩
    · rw [if_pos (by rw [e]), pI_t (ly_t230 hl1)]
      rfl
    · rw [e1]
      exact ⟨fun z => absurd z (by omega), fun z => absurd z (by omega), fun z => absurd z (by omega), fun _ => mI_e, fun z => absurd z (by omega)⟩
  · have e' : ¬ ln ≤ p := by omega
    obtain ⟨t1, t2⟩ := hT1.2.2 p (by omega)
    rw [if_neg (nIne (by omega) (by omega) e), gR_t (ly_t230 hl1), ly_r230_5 hl1, gI_t (ly_t230 hl1), h51, aI_t (ly_t233 hl1) (by omega) (by decide), t2, y_isLetterB t1, cA_s]
    cases l : isL (tp p) with
    | true =>
      have e1 : tTp tp ln p = wdT (lets tp p (tWe tp ln p)) := by unfold tTp; rw [if_neg e', if_pos l]
      have e2 : tNp tp ln p = tWe tp ln p := by unfold tNp; rw [if_neg e', if_pos l]
      obtain ⟨M', z1, z2, z3, z4, z5⟩ := y_nx99 (p0 := p) (ln - p) FU p (lN 0) _ (by omega) (by unfold FU; omega) (Nat.le_refl _) (fun j a b => absurd b (by omega)) (fun _ => by unfold lets; rw [Nat.sub_self]; rfl) hl1 hT1 h51 mI_e (fr.tr f1)
      rw [Nat.sub_self] at z1
      refine ⟨M', ?_, z2, by rw [e2]; exact z3, z4, ?_⟩
      · rw [if_neg (by decide)]; exact z1
      · rw [e1]
        have := wdT_le (lets tp p (tWe tp ln p))
        exact ⟨z5.1, fun z => absurd z (by omega), z5.2.2⟩
    | false =>
      rw [if_pos (by decide), y_isDigitB t1, cA_s]
      cases g : isG (tp p) with
      | true =>
        have e1 : tTp tp ln p = 20 := by unfold tTp; rw [if_neg e', if_neg (by rw [l]; decide), if_pos g]
        have e2 : tNp tp ln p = tGe tp ln p := by unfold tNp; rw [if_neg e', if_neg (by rw [l]; decide), if_pos g]
        have f2 : Fx [] lyF M (sI (sI M 230 20 (nI p)) 230 21 (nI 2)) := f1.I (Or.inr (by decide))
        have f3 : Fx [] lyF M (sI (sI (sI M 230 20 (nI p)) 230 21 (nI 2)) 230 22 (nI 0)) := f2.I (Or.inr (by decide))
        obtain ⟨M', z1, z2, z3, z4, z5, z6⟩ := y_nx232 (ln - p) FU p 0 _ (by omega) (by unfold FU; omega) (by omega) (hl.ly f3) (hT.fx f3 (by decide) (by decide)) (by rw [mI_nk (by decide), mI_nk (by decide)]; exact h51) mI_e (fr.tr f3)
        refine ⟨M', ?_, z2, by rw [e2]; exact z3, by rw [z5, mI_nk (by decide), mI_nk (by decide), mI_e], ?_⟩
        · rw [if_neg (by decide), pI_t (ly_t230 hl1), show sI (sI M 230 20 (nI p)) 230 21 (2 : Int32) = sI (sI M 230 20 (nI p)) 230 21 (nI 2) from rfl, pI_t (ly_t230 (hl.ly f2))]
          exact z1
        · rw [e1]
          exact ⟨fun z => absurd z (by omega), fun _ => ⟨by rw [z6, mI_nk (by decide), mI_e], z4⟩, fun z => absurd z (by omega), fun z => absurd z (by omega), fun z => absurd z (by omega)⟩
      | false =>
        have f2 : Fx [] lyF M (sI (sI M 230 20 (nI p)) 230 19 (nI (p + 1))) := f1.I (Or.inr (by decide))
        have hl2 := hl.ly f2
        have f3 : Fx [] lyF M (sI (sI (sI M 230 20 (nI p)) 230 19 (nI (p + 1))) 230 22 (b8 (tp p))) := f2.I (Or.inr (by decide))
        have hl3 := hl.ly f3
        obtain ⟨sg1, sg2⟩ := sg_all (tp p) t1
        have f4 : ∀ v : Nat, Fx [] lyF M (sI (sI (sI (sI M 230 20 (nI p)) 230 19 (nI (p + 1))) 230 22 (b8 (tp p))) 230 21 (nI v)) := fun v => f3.I (Or.inr (by decide))
        have m19 : ∀ v : Nat, mI (sI (sI (sI (sI M 230 20 (nI p)) 230 19 (nI (p + 1))) 230 22 (b8 (tp p))) 230 21 (nI v)) 230 19 = nI (p + 1) := fun v => by rw [mI_nk (by decide), mI_nk (by decide), mI_e]
        have m20 : ∀ v : Nat, mI (sI (sI (sI (sI M 230 20 (nI p)) 230 19 (nI (p + 1))) 230 22 (b8 (tp p))) 230 21 (nI v)) 230 20 = nI p := fun v => by rw [mI_nk (by decide), mI_nk (by decide), mI_nk (by decide), mI_e]
        have m22 : ∀ v : Nat, mI (sI (sI (sI (sI M 230 20 (nI p)) 230 19 (nI (p + 1))) 230 22 (b8 (tp p))) 230 21 (nI v)) 230 22 = b8 (tp p) := fun v => by rw [mI_nk (by decide), mI_e]
        -- behind the sort
        have tail : ∀ v : Nat, (sgT (tp p) ≠ 36 → v = 3) → (sgT (tp p) = 36 → v = 4) → ∃ M', (if b8 (tp p) = (60 : Int32) then f_X12_next_385 (some 230) (b8 (tp p)) (sI (sI (sI (sI M 230 20 (nI p)) 230 19 (nI (p + 1))) 230 22 (b8 (tp p))) 230 21 (nI v)) else if b8 (tp p) = (62 : Int32) then f_X12_next_385 (some 230) (b8 (tp p)) (sI (sI (sI (sI M 230 20 (nI p)) 230 19 (nI (p + 1))) 230 22 (b8 (tp p))) 230 21 (nI v)) else some ((), sI (sI (sI (sI M 230 20 (nI p)) 230 19 (nI (p + 1))) 230 22 (b8 (tp p))) 230 21 (nI v))) = some ((), M') ∧ Fx [] lyF M0 M' ∧ mI M' 230 19 = nI (tNp tp ln p) ∧ mI M' 230 20 = nI p ∧ SoM (tTp tp ln p) (nmM tp (tGe tp ln p - p) p 0) M' := by
          intro v hv3 hv4
          have plain : ¬ ((tp p = 60 ∨ tp p = 62) ∧ p + 1 < ln ∧ tp (p + 1) = 61) → Fx [] lyF M0 (sI (sI (sI (sI M 230 20 (nI p)) 230 19 (nI (p + 1))) 230 22 (b8 (tp p))) 230 21 (nI v)) ∧ mI (sI (sI (sI (sI M 230 20 (nI p)) 230 19 (nI (p + 1))) 230 22 (b8 (tp p))) 230 21 (nI v)) 230 19 = nI (tNp tp ln p) ∧ mI (sI (sI (sI (sI M 230 20 (nI p)) 230 19 (nI (p + 1))) 230 22 (b8 (tp p))) 230 21 (nI v)) 230 20 = nI p ∧ SoM (tTp tp ln p) (nmM tp (tGe tp ln p - p) p 0) (sI (sI (sI (sI M 230 20 (nI p)) 230 19 (nI (p + 1))) 230 22 (b8 (tp p))) 230 21 (nI v)) := by
            intro hno
            have e1 : tTp tp ln p = sgT (tp p) := by unfold tTp; rw [if_neg e', if_neg (by rw [l]; decide), if_neg (by rw [g]; decide), if_neg hno]
            have e2 : tNp tp ln p = p + 1 := by unfold tNp; rw [if_neg e', if_neg (by rw [l]; decide), if_neg (by rw [g]; decide), if_neg hno]
            refine ⟨fr.tr (f4 v), by rw [e2]; exact m19 v, m20 v, ?_⟩
            rw [e1]
            by_cases z : sgT (tp p) = 36
            · rw [z]
              exact SoM.of36 (by rw [mI_e, hv4 z])
            · obtain ⟨q1, q2, q3⟩ := sg2 z
              have hlow : tp p < 128 := by have := sg1.mp z; omega
              exact SoM.of21 q2 q3 (by rw [mI_e, hv3 z]) (by rw [m22, q1, b8_lo _ hlow])
          by_cases hs6 : tp p = 60 ∨ tp p = 62
          · have hsg : sgT (tp p) ≠ 36 := by rcases hs6 with z | z <;> rw [z] <;> decide
            obtain rfl := hv3 hsg
            have hl4 := hl.ly (f4 3)
            have hT4 := hT.fx (f4 3) (by decide) (by decide)
            have start : ∀ X, f_X12_next_385 (some 230) (b8 (tp p)) (sI (sI (sI (sI M 230 20 (nI p)) 230 19 (nI (p + 1))) 230 22 (b8 (tp p))) 230 21 (nI 3)) = X → (if b8 (tp p) = (60 : Int32) then f_X12_next_385 (some 230) (b8 (tp p)) (sI (sI (sI (sI M 230 20 (nI p)) 230 19 (nI (p + 1))) 230 22 (b8 (tp p))) 230 21 (nI 3)) else if b8 (tp p) = (62 : Int32) then f_X12_next_385 (some 230) (b8 (tp p)) (sI (sI (sI (sI M 230 20 (nI p)) 230 19 (nI (p + 1))) 230 22 (b8 (tp p))) 230 21 (nI 3)) else some ((), sI (sI (sI (sI M 230 20 (nI p)) 230 19 (nI (p + 1))) 230 22 (b8 (tp p))) 230 21 (nI 3))) = X := by
              intro X hX
              rcases hs6 with z | z
              · rw [if_pos (show b8 (tp p) = (60 : Int32) from (b8_eq (k := 60) t1 (by decide)).mpr z)]; exact hX
              · rw [if_neg (show ¬ b8 (tp p) = (60 : Int32) from fun y => by have := (b8_eq (k := 60) t1 (by decide)).mp y; omega), if_pos (show b8 (tp p) = (62 : Int32) from (b8_eq (k := 62) t1 (by decide)).mpr z)]; exact hX
            by_cases y : p + 1 < ln
            · obtain ⟨t3, t4⟩ := hT4.2.2 (p + 1) y
              by_cases x : tp (p + 1) = 61
              · have hy : (tp p = 60 ∨ tp p = 62) ∧ p + 1 < ln ∧ tp (p + 1) = 61 := ⟨hs6, y, x⟩
                have e1 : tTp tp ln p = if tp p = 60 then 22 else 24 := by unfold tTp; rw [if_neg e', if_neg (by rw [l]; decide), if_neg (by rw [g]; decide), if_pos hy]
                have e2 : tNp tp ln p = p + 2 := by unfold tNp; rw [if_neg e', if_neg (by rw [l]; decide), if_neg (by rw [g]; decide), if_pos hy]
                have wr : ∀ u : Nat, Fx [] lyF M (sI (sI (sI (sI (sI (sI M 230 20 (nI p)) 230 19 (nI (p + 1))) 230 22 (b8 (tp p))) 230 21 (nI 3)) 230 22 (nI u)) 230 19 (nI (p + 2))) := fun u => ((f4 3).I (Or.inr (by decide))).I (Or.inr (by decide))
                have hl5 : ∀ u : Nat, Lay pl L (sI (sI (sI (sI (sI M 230 20 (nI p)) 230 19 (nI (p + 1))) 230 22 (b8 (tp p))) 230 21 (nI 3)) 230 22 (nI u)) := fun u => hl.ly ((f4 3).I (Or.inr (by decide)))
                have run : ∀ u : Nat, (u = if tp p = 60 then 300 else 301) → f_X12_next_385 (some 230) (b8 (tp p)) (sI (sI (sI (sI M 230 20 (nI p)) 230 19 (nI (p + 1))) 230 22 (b8 (tp p))) 230 21 (nI 3)) = some ((), sI (sI (sI (sI (sI (sI M 230 20 (nI p)) 230 19 (nI (p + 1))) 230 22 (b8 (tp p))) 230 21 (nI 3)) 230 22 (nI u)) 230 19 (nI (p + 2))) := by
                  intro u hu
                  unfold f_X12_next_385
                  rw [gI_t (ly_t230 hl4), m19, gI_t (ly_t230 hl4), hT4.2.1, if_neg (nI_ge y (by omega)), gR_t (ly_t230 hl4), ly_r230_5 hl4, gI_t (ly_t230 hl4), m19, aI_t (ly_t233 hl4) (by omega) (by decide), t4, if_pos (show b8 (tp (p + 1)) = (61 : Int32) from (b8_eq (k := 61) t3 (by decide)).mpr x)]
                  rcases hs6 with z | z
                  · rw [if_pos z] at hu
                    subst hu
                    rw [if_pos (show b8 (tp p) = (60 : Int32) from (b8_eq (k := 60) t1 (by decide)).mpr z), show (300 : Int32) = nI 300 from rfl, pI_t (ly_t230 hl4), gI_t (ly_t230 (hl5 300)), mI_nk (by decide), m19, nI_1, pI_t (ly_t230 (hl5 300))]
                  · rw [if_neg (by omega)] at hu
                    subst hu
                    rw [if_neg (show ¬ b8 (tp p) = (60 : Int32) from fun y => by have := (b8_eq (k := 60) t1 (by decide)).mp y; omega), show (301 : Int32) = nI 301 from rfl, pI_t (ly_t230 hl4), gI_t (ly_t230 (hl5 301)), mI_nk (by decide), m19, nI_1, pI_t (ly_t230 (hl5 301))]
                refine ⟨_, start _ (run _ rfl), fr.tr (wr _), by rw [mI_e, e2], ?_, ?_⟩
                · rw [mI_nk (by decide), mI_nk (by decide)]; exact m20 3
                · rw [e1]
                  have h21 : ∀ u : Nat, mI (sI (sI (sI (sI (sI (sI M 230 20 (nI p)) 230 19 (nI (p + 1))) 230 22 (b8 (tp p))) 230 21 (nI 3)) 230 22 (nI u)) 230 19 (nI (p + 2))) 230 21 = nI 3 := fun u => by rw [mI_nk (by decide), mI_nk (by decide), mI_e]
                  have h22 : ∀ u : Nat, mI (sI (sI (sI (sI (sI (sI M 230 20 (nI p)) 230 19 (nI (p + 1))) 230 22 (b8 (tp p))) 230 21 (nI 3)) 230 22 (nI u)) 230 19 (nI (p + 2))) 230 22 = nI u := fun u => by rw [mI_nk (by decide), mI_e]
                  rcases hs6 with z | z
                  · rw [if_pos z, if_pos z]
                    exact SoM.of21 (by decide) (by decide) (h21 _) (h22 _)
                  · rw [if_neg (show ¬ tp p = 60 by omega), if_neg (show ¬ tp p = 60 by omega)]
                    exact SoM.of21 (by decide) (by decide) (h21 _) (h22 _)
              · refine ⟨_, start _ ?_, plain (fun t => x t.2.2)⟩
                unfold f_X12_next_385
                rw [gI_t (ly_t230 hl4), m19, gI_t (ly_t230 hl4), hT4.2.1, if_neg (nI_ge y (by omega)), gR_t (ly_t230 hl4), ly_r230_5 hl4, gI_t (ly_t230 hl4), m19, aI_t (ly_t233 hl4) (by omega) (by decide), t4, if_neg (show ¬ b8 (tp (p + 1)) = (61 : Int32) from fun y => x ((b8_eq (k := 61) t3 (by decide)).mp y))]
            · refine ⟨_, start _ ?_, plain (fun t => y t.2.1)⟩
              unfold f_X12_next_385
              rw [gI_t (ly_t230 hl4), m19, gI_t (ly_t230 hl4), hT4.2.1, if_pos (nI_le (by omega) (by omega))]
          · refine ⟨_, ?_, plain (fun t => hs6 t.1)⟩
            rw [if_neg (show ¬ b8 (tp p) = (60 : Int32) from fun y => hs6 (Or.inl ((b8_eq (k := 60) t1 (by decide)).mp y))), if_neg (show ¬ b8 (tp p) = (62 : Int32) from fun y => hs6 (Or.inr ((b8_eq (k := 62) t1 (by decide)).mp y)))]
        rw [if_pos (by decide), gI_t (ly_t230 hl1), h51, nI_1, pI_t (ly_t230 hl1), pI_t (ly_t230 hl2), show f_X12_in (b8 (tp p)) (59 : Int32) (62 : Int32) (sI (sI (sI M 230 20 (nI p)) 230 19 (nI (p + 1))) 230 22 (b8 (tp p))) = _ from y_inB (lo := 59) (hi := 62) t1 (by decide) (by decide), cA_s]
        by_cases c1 : 59 ≤ tp p ∧ tp p ≤ 62
        · rw [decide_eq_true c1.1, decide_eq_true c1.2, if_neg (by decide), pI_t (ly_t230 hl3)]
          exact tail 3 (fun _ => rfl) (fun z => absurd z (sg1.mpr (Or.inl c1)))
        · have hb1 : (decide (59 ≤ tp p) && decide (tp p ≤ 62)) = false := by
            rw [← Bool.not_eq_true, Bool.and_eq_true, decide_eq_true_eq, decide_eq_true_eq]; exact c1
          rw [hb1, if_pos (by decide), show f_X12_in (b8 (tp p)) (40 : Int32) (45 : Int32) (sI (sI (sI M 230 20 (nI p)) 230 19 (nI (p + 1))) 230 22 (b8 (tp p))) = _ from y_inB (lo := 40) (hi := 45) t1 (by decide) (by decide), cA_s]
          by_cases c2 : 40 ≤ tp p ∧ tp p ≤ 45
          · rw [decide_eq_true c2.1, decide_eq_true c2.2, if_neg (by decide), pI_t (ly_t230 hl3)]
            exact tail 3 (fun _ => rfl) (fun z => absurd z (sg1.mpr (Or.inr (Or.inl c2))))
          · have hb2 : (decide (40 ≤ tp p) && decide (tp p ≤ 45)) = false := by
              rw [← Bool.not_eq_true, Bool.and_eq_true, decide_eq_true_eq, decide_eq_true_eq]; exact c2
            rw [hb2, if_pos (by decide)]
            by_cases c3 : tp p = 47
            · rw [if_pos (show b8 (tp p) = (47 : Int32) from (b8_eq (k := 47) t1 (by decide)).mpr c3), pI_t (ly_t230 hl3)]
              exact tail 3 (fun _ => rfl) (fun z => absurd z (sg1.mpr (Or.inr (Or.inr (Or.inl c3)))))
            · rw [if_neg (show ¬ b8 (tp p) = (47 : Int32) from fun y => c3 ((b8_eq (k := 47) t1 (by decide)).mp y))]
              by_cases c4 : tp p = 35
              · rw [if_pos (show b8 (tp p) = (35 : Int32) from (b8_eq (k := 35) t1 (by decide)).mpr c4), pI_t (ly_t230 hl3)]
                exact tail 3 (fun _ => rfl) (fun z => absurd z (sg1.mpr (Or.inr (Or.inr (Or.inr c4)))))
              · rw [if_neg (show ¬ b8 (tp p) = (35 : Int32) from fun y => c4 ((b8_eq (k := 35) t1 (by decide)).mp y)), pI_t (ly_t230 hl3)]
                refine tail 4 (fun z => ?_) (fun _ => rfl)
                have := sg1.mp z
                omega
theorem y_nx0 {M0 : Mem} : ∀ (k f p : Nat) (M : Mem), p + k = ln → k < f → Lay pl L M → TpeM tp ln M → mI M 230 19 = nI p → Fx [] lyF M0 M → ∃ M', f_X12_next_0 f (some 230) M = some ((), M') ∧ Fx [] lyF M0 M' ∧ mI M' 230 19 = nI (tNp tp ln (spn isW tp k p)) ∧ mI M' 230 20 = nI (spn isW tp k p) ∧ SoM (tTp tp ln (spn isW tp k p)) (nmM tp (tGe tp ln (spn isW tp k p) - spn isW tp k p) (spn isW tp k p) 0) M'
  | k, 0, p, M => fun _ z => absurd z (by omega)
  | 0, f + 1, p, M => by
    intro hp _ hl hT h5 fr
    obtain rfl : p = ln := by omega
    rw [u_X12_next_0]
    unfold b_X12_next_0
    rw [gI_t (ly_t230 hl), h5, gI_t (ly_t230 hl), hT.2.1, if_pos (Int32.le_refl _)]
    exact y_nx52 hl hT h5 (Nat.le_refl _) fr
  | k + 1, f + 1, p, M => by
    intro hp hf hl hT h5 fr
    have h300 := hT.1
    obtain ⟨t1, t2⟩ := hT.2.2 p (by omega)
    have f1 : Fx [] lyF M (sI M 230 19 (nI (p + 1))) := Fx.wI (Or.inr (by decide))
    rw [u_X12_next_0]
    unfold b_X12_next_0
    rw [gI_t (ly_t230 hl), h5, gI_t (ly_t230 hl), hT.2.1, if_neg (nI_ge (by omega) (by omega)), gR_t (ly_t230 hl), ly_r230_5 hl, gI_t (ly_t230 hl), h5, aI_t (ly_t233 hl) (by omega) (by decide), t2, gI_t (ly_t230 hl), h5, nI_1, pI_t (ly_t230 hl), gR_t (ly_t230 hl), ly_r230_5 hl, gI_t (ly_t230 hl), h5, aI_t (ly_t233 hl) (by omega) (by decide), t2]
    have nxt := y_nx0 (M0 := M0) k f (p + 1) (sI M 230 19 (nI (p + 1))) (by omega) (by omega) (hl.ly f1) (hT.fx f1 (by decide) (by decide)) mI_e (fr.tr f1)
    by_cases a : tp p = 32
    · rw [if_pos (show b8 (tp p) = (32 : Int32) from (b8_eq (k := 32) t1 (by decide)).mpr a), spn_y (by unfold isW; rw [a]; rfl)]
      exact nxt
    · rw [if_neg (show ¬ b8 (tp p) = (32 : Int32) from fun y => a ((b8_eq (k := 32) t1 (by decide)).mp y))]
      by_cases b : tp p = 10
      · rw [if_pos (show b8 (tp p) = (10 : Int32) from (b8_eq (k := 10) t1 (by decide)).mpr b), spn_y (by unfold isW; rw [b]; rfl)]
        exact nxt
      · rw [if_neg (show ¬ b8 (tp p) = (10 : Int32) from fun y => b ((b8_eq (k := 10) t1 (by decide)).mp y)), spn_n (by unfold isW; simp [a, b])]
        exact y_nx52 hl hT h5 (by omega) fr
theorem y_nextT {M : Mem} {a : Nat} (hl : Lay pl L M) (hT : TpeM tp ln M) (h5 : mI M 230 19 = nI a) (ha : a ≤ ln) : ∃ M', f_X12_next (some 230) M = some ((), M') ∧ Fx [] lyF M M' ∧ TkM tp ln a M' := y_nx0 (ln - a) FU a M (by omega) (by have := hT.1; unfold FU; omega) hl hT h5 Fx.rf
end YLEX2
