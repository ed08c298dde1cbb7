/-! ===== the class reads sums and eithers: all of it ===== -/
def ndP (k l o : Nat) : Nat := (if k = 0 then (if l = 0 then 7 else if l = 1 then 6 else if l = 2 then 5 else if l = 3 then 3 else if l = 4 then 2 else 1) else if k = 1 then 4 else 0) + (1 + 4 * (8 - o))
section XPARSE2
variable {pl L r : Nat} {tp : Nat → Nat} {ln : Nat}
/-- what a reading of the class comes to -/
def XR (pl L r : Nat) (tp : Nat → Nat) (ln : Nat) (c : List Nat) (o : Option (Unit × Mem)) (M : Mem) (res : Rs) : Prop := match res with
  | .inl e => ∃ M', o = some ((), M') ∧ XFr r M M' ∧ FlX pl L r tp ln e.1 (tSt tp ln e.2) M'
  | .inr q => ∃ M', o = some ((), M') ∧ XFr r M M' ∧ ClX pl L r tp ln q.1 (c ++ q.2) M'
theorem XR.pre {c : List Nat} {o o' : Option (Unit × Mem)} {M M1 : Mem} {res : Rs} (h : XR pl L r tp ln c o M1 res) (fr : XFr r M M1) (e : o' = o) : XR pl L r tp ln c o' M res := by
  subst e
  cases res with
  | inl q => obtain ⟨M', a, b, d⟩ := h; exact ⟨M', a, fr.tr b, d⟩
  | inr q => obtain ⟨M', a, b, d⟩ := h; exact ⟨M', a, fr.tr b, d⟩
theorem x_lp {d l o : Nat} (hr : isRA r) (hl : l < 5) (hl2 : l ≠ 2) (ho : o ≤ 8) (hrec : ∀ (a : Nat) (c : List Nat) (M : Mem), ClX pl L r tp ln a c M → c.length ≤ a → a ≤ ln → XR pl L r tp ln c (f_X5_rec d 0 (some 43) (nI (l + 1)) (nI o) M) M (pP tp ln d 0 (l + 1) o a)) : ∀ (k f i a : Nat) (c0 cl : List Nat) (M : Mem), i + k = 300 → k < f → ClX pl L r tp ln a (c0 ++ cl) M → (c0 ++ cl).length ≤ a → a ≤ ln → XR pl L r tp ln c0 (f_X5_level_36 (f_X5_rec d) f (some 43) (nI l) (nI o) (nI i) M) M (pLp tp ln (fun b => pP tp ln d 0 (l + 1) o b) l k a cl)
  | k, 0, i, a, c0, cl, M => fun _ z => absurd z (by omega)
  | 0, f + 1, i, a, c0, cl, M => by
    intro hi _ hC hc ha
    obtain rfl : i = 300 := by omega
    refine ⟨M, ?_, XFr.rf, hC⟩
    rw [u_X5_level_36]
    unfold b_X5_level_36
    rw [if_pos (by decide)]
  | k + 1, f + 1, i, a, c0, cl, M => by
    intro hi hf hC hc ha
    have hl43 := ly_t43 hC.1
    have h300 := hC.2.1.1
    have htk := tTk_le (tp := tp) (ln := ln) (a := a)
    obtain ⟨c1, c2, c3, c4, c5, c6, c7⟩ := id hC
    rw [u_X5_level_36]
    unfold b_X5_level_36
    rw [if_neg (show ¬ (300 : Int32) ≤ nI i from nI_ge (b := 300) (by omega) (by decide)), gI_t hl43, c4.1, if_pos (show nI 0 = (0 : Int32) from rfl), gI_t hl43, c5.2.1, x_levelOf _ htk, cA_s]
    show XR pl L r tp ln c0 _ M (if lvO (tTk tp ln a) = l then _ else _)
    by_cases e : lvO (tTk tp ln a) = l
    · have hx := tNx_b (tp := tp) ha
      have hne : tTk tp ln a ≠ 35 := fun z => by rw [z] at e; unfold lvO at e; simp at e; omega
      obtain ⟨M1, a1, a2, a3⟩ := x_adv_c hr hC ha
      have hrc := hrec (tNx tp ln a) (c0 ++ cl) M1 a3 (by omega) hx.1
      have hlv : (if lvO (tTk tp ln a) = 9 then (-1 : Int32) else nI (lvO (tTk tp ln a))) = nI l := by rw [if_neg (by omega), e]
      rw [if_pos e, if_pos hlv, gI_t hl43, c5.2.1, cR_t hl43, a1, cA_s, cR_t (ly_t43 a3.1), nI_1]
      show XR pl L r tp ln c0 _ M (bnR (pP tp ln d 0 (l + 1) o (tNx tp ln a)) _)
      cases hres : pP tp ln d 0 (l + 1) o (tNx tp ln a) with
      | inl q =>
        rw [hres] at hrc
        obtain ⟨M2, b1, b2, b3⟩ := hrc
        obtain ⟨M3, d1, d2, d3⟩ := x_emit_f (v := (10000 : Int32) + nI (tTk tp ln a)) hr b3
        obtain ⟨t1, -⟩ := ly_ra b3.1 hr
        refine ⟨M3, ?_, a2.tr (b2.tr d2), d3⟩
        rw [b1, cA_s, gR_t (ly_t43 b3.1), b3.2.2.1, cR_t t1, d1, cA_s]
        obtain ⟨f', rfl⟩ : ∃ f', f = f' + 1 := ⟨f - 1, by omega⟩
        rw [nI_1, u_X5_level_36]
        unfold b_X5_level_36
        by_cases z : 300 ≤ i + 1
        · rw [if_pos (show (300 : Int32) ≤ nI (i + 1) from nI_le (a := 300) z (by omega))]
        · rw [if_neg (show ¬ (300 : Int32) ≤ nI (i + 1) from nI_ge (b := 300) (by omega) (by decide)), gI_t (ly_t43 d3.1), if_neg d3.nz]
      | inr q =>
        obtain ⟨a', c'⟩ := q
        rw [hres] at hrc
        obtain ⟨M2, b1, b2, b3⟩ := hrc
        obtain ⟨⟨g1, g2, g3⟩, -⟩ := pP_ok d 0 (l + 1) o _ a' c' hx.1 ho (by omega) (by omega) hres
        have hlt := hx.2.2 hne
        have hlen : (c0 ++ cl ++ c').length < a' := by rw [List.length_append]; omega
        obtain ⟨M3, d1, d2, d3⟩ := x_emit_c (v := 10000 + tTk tp ln a) hr b3 (show ((c0 ++ cl) ++ c').length < 300 by omega)
        obtain ⟨t1, -⟩ := ly_ra b3.1 hr
        have ev : (10000 : Int32) + nI (tTk tp ln a) = nI (10000 + tTk tp ln a) := by rw [show (10000 : Int32) = nI 10000 from rfl, nI_add]
        have hcode : c0 ++ cl ++ c' ++ [10000 + tTk tp ln a] = c0 ++ (cl ++ c' ++ [10000 + tTk tp ln a]) := by simp only [List.append_assoc]
        rw [hcode] at d3
        have nxt := x_lp hr hl hl2 ho hrec k f (i + 1) a' c0 (cl ++ c' ++ [10000 + tTk tp ln a]) M3 (by omega) (by omega) d3 (by
          rw [← hcode, List.length_append]
          simp only [List.length_singleton]
          omega) g2
        refine XR.pre nxt (a2.tr (b2.tr d2)) ?_
        rw [b1, cA_s, gR_t (ly_t43 b3.1), b3.2.2.1, cR_t t1, ev, d1, cA_s, nI_1]
    · rw [if_neg e]
      have hlv : ¬ (if lvO (tTk tp ln a) = 9 then (-1 : Int32) else nI (lvO (tTk tp ln a))) = nI l := by
        by_cases e9 : lvO (tTk tp ln a) = 9
        · rw [if_pos e9]; exact fun z => (m1_nI (by omega)).mp z
        · have : lvO (tTk tp ln a) < 2 ^ 31 := by
            unfold lvO
            repeat' split
            all_goals decide
          rw [if_neg e9]; exact nIne this (by omega) e
      refine ⟨M, ?_, XFr.rf, hC⟩
      rw [if_neg hlv]
theorem x_rec_c (hr : isRA r) : ∀ (d k l o a : Nat) (c : List Nat) (M : Mem), ndP k l o ≤ d → k ≤ 2 → l ≤ 5 → o ≤ 8 → ClX pl L r tp ln a c M → c.length ≤ a → a ≤ ln → XR pl L r tp ln c (f_X5_rec d k (some 43) (if k = 0 then nI l else nI o) (if k = 0 then nI o else 0) M) M (pP tp ln d k l o a)
  | 0, k, l, o, a, c, M => fun z => absurd z (by unfold ndP; omega)
  | d + 1, k, l, o, a, c, M => by
    intro hd hk hl5 ho hC hc ha
    have ih0 : ∀ (l o a : Nat) (c : List Nat) (M : Mem), ndP 0 l o ≤ d → l ≤ 5 → o ≤ 8 → ClX pl L r tp ln a c M → c.length ≤ a → a ≤ ln → XR pl L r tp ln c (f_X5_rec d 0 (some 43) (nI l) (nI o) M) M (pP tp ln d 0 l o a) := fun l o a c M h1 h2 h3 h4 h5 h6 => x_rec_c hr d 0 l o a c M h1 (by omega) h2 h3 h4 h5 h6
    have ih1 : ∀ (o a : Nat) (c : List Nat) (M : Mem), ndP 1 0 o ≤ d → o ≤ 8 → ClX pl L r tp ln a c M → c.length ≤ a → a ≤ ln → XR pl L r tp ln c (f_X5_rec d 1 (some 43) (nI o) 0 M) M (pP tp ln d 1 0 o a) := fun o a c M h1 h3 h4 h5 h6 => x_rec_c hr d 1 0 o a c M h1 (by omega) (by omega) h3 h4 h5 h6
    have ih2 : ∀ (o a : Nat) (c : List Nat) (M : Mem), ndP 2 0 o ≤ d → o ≤ 8 → ClX pl L r tp ln a c M → c.length ≤ a → a ≤ ln → XR pl L r tp ln c (f_X5_rec d 2 (some 43) (nI o) 0 M) M (pP tp ln d 2 0 o a) := fun o a c M h1 h3 h4 h5 h6 => x_rec_c hr d 2 0 o a c M h1 (by omega) (by omega) h3 h4 h5 h6
    have hl43 := ly_t43 hC.1
    have h300 := hC.2.1.1
    have htk := tTk_le (tp := tp) (ln := ln) (a := a)
    have hx := tNx_b (tp := tp) ha
    obtain ⟨c1, c2, c3, c4, c5, c6, c7⟩ := id hC
    obtain ⟨tr, -⟩ := ly_ra c1 hr
    unfold pP
    by_cases k0 : k = 0
    · subst k0
      rw [if_pos rfl, if_pos rfl, if_pos rfl]
      show XR pl L r tp ln c (if (0 : Nat) = 0 then b_X5_level (f_X5_rec d) (some 43) (nI l) (nI o) M else _) M _
      rw [if_pos rfl]
      unfold b_X5_level
      by_cases l2 : l = 2
      · subst l2
        rw [if_pos rfl, if_pos (show nI 2 = (2 : Int32) from rfl), cR_t hl43]
        refine XR.pre (ih1 o a c M (by unfold ndP at hd ⊢; simp at hd ⊢; omega) ho hC hc ha) XFr.rf ?_
        cases f_X5_rec d 1 (some 43) (nI o) 0 M with
        | none => rfl
        | some q => rfl
      · rw [if_neg l2, if_neg (show ¬ nI l = (2 : Int32) from ne_2 (by omega) l2)]
        by_cases l5 : l < 5
        · have hnd : ndP 0 (l + 1) o ≤ d ∧ True := by
            refine ⟨?_, trivial⟩
            unfold ndP at hd ⊢
            simp only [if_true] at hd ⊢
            rcases (show l = 0 ∨ l = 1 ∨ l = 3 ∨ l = 4 by omega) with rfl | rfl | rfl | rfl <;> simp at hd ⊢ <;> omega
          rw [if_pos l5, if_pos (show nI l < (5 : Int32) from nI_lt (b := 5) l5 (by decide)), cR_t hl43, nI_1]
          have h1 := ih0 (l + 1) o a c M hnd.1 (by omega) ho hC hc ha
          cases hres : pP tp ln d 0 (l + 1) o a with
          | inl q =>
            rw [hres] at h1
            obtain ⟨M1, b1, b2, b3⟩ := h1
            refine ⟨M1, ?_, b2, b3⟩
            rw [b1, cA_s, show FU = 999999999 + 1 from rfl, u_X5_level_36]
            unfold b_X5_level_36
            rw [if_neg (by decide), gI_t (ly_t43 b3.1), if_neg b3.nz]
          | inr q =>
            obtain ⟨a1, c1'⟩ := q
            rw [hres] at h1
            obtain ⟨M1, b1, b2, b3⟩ := h1
            obtain ⟨⟨g1, g2, g3⟩, -⟩ := pP_ok d 0 (l + 1) o _ a1 c1' ha ho (by omega) (by omega) hres
            have h2 := x_lp hr l5 l2 ho (fun a c M hC' hc' ha' => ih0 (l + 1) o a c M hnd.1 (by omega) ho hC' hc' ha') 300 FU 0 a1 c c1' M1 (by omega) (by decide) b3 (by rw [List.length_append]; omega) g2
            refine XR.pre h2 b2 ?_
            rw [b1, cA_s]
            rfl
        · obtain rfl : l = 5 := by omega
          rw [if_neg l5, if_neg (by decide), cR_t hl43]
          refine XR.pre (ih2 o a c M (by unfold ndP at hd ⊢; simp at hd ⊢; omega) ho hC hc ha) XFr.rf ?_
          cases f_X5_rec d 2 (some 43) (nI o) 0 M with
          | none => rfl
          | some q => rfl
    · rw [if_neg k0, if_neg k0, if_neg k0]
      by_cases k1 : k = 1
      · subst k1
        rw [if_pos rfl]
        show XR pl L r tp ln c (if (1 : Nat) = 0 then _ else if (1 : Nat) = 1 then b_X5_ask (f_X5_rec d) (some 43) (nI o) M else _) M _
        rw [if_neg (by decide), if_pos rfl]
        unfold b_X5_ask
        rw [gI_t hl43, c4.1, if_pos (show nI 0 = (0 : Int32) from rfl), gI_t hl43, c5.2.1]
        by_cases e19 : tTk tp ln a = 19
        · rw [if_pos e19, if_pos (show nI (tTk tp ln a) = (19 : Int32) by rw [e19]; rfl), cR_t hl43]
          by_cases o8 : o < 8
          · obtain ⟨M1, a1, a2, a3⟩ := x_adv_c hr hC ha
            have hlt := hx.2.2 (by omega)
            have h1 := ih1 (o + 1) (tNx tp ln a) c M1 (by unfold ndP at hd ⊢; simp at hd ⊢; omega) (by omega) a3 (by omega) hx.1
            rw [if_pos o8, x_mayOpen_y o8, cA_s, if_neg (by decide), cR_t hl43, a1, cA_s, cR_t (ly_t43 a3.1), nI_1]
            cases hres : pP tp ln d 1 0 (o + 1) (tNx tp ln a) with
            | inl q =>
              rw [hres] at h1
              obtain ⟨M2, b1, b2, b3⟩ := h1
              obtain ⟨M3, d1, d2, d3⟩ := x_emit_f (v := (10019 : Int32)) hr b3
              obtain ⟨t1, -⟩ := ly_ra b3.1 hr
              refine ⟨M3, ?_, a2.tr (b2.tr d2), d3⟩
              rw [b1, cA_s, gR_t (ly_t43 b3.1), b3.2.2.1, cR_t t1, d1, cA_s]
            | inr q =>
              obtain ⟨a', c'⟩ := q
              rw [hres] at h1
              obtain ⟨M2, b1, b2, b3⟩ := h1
              obtain ⟨⟨g1, g2, g3⟩, -⟩ := pP_ok d 1 0 (o + 1) _ a' c' hx.1 (by omega) (by omega) (by omega) hres
              obtain ⟨M3, d1, d2, d3⟩ := x_emit_c (v := 10019) hr b3 (by rw [List.length_append]; show c.length + c'.length < 300; omega)
              obtain ⟨t1, -⟩ := ly_ra b3.1 hr
              refine ⟨M3, ?_, a2.tr (b2.tr d2), ?_⟩
              · rw [b1, cA_s, gR_t (ly_t43 b3.1), b3.2.2.1, cR_t t1, show (10019 : Int32) = nI 10019 from rfl, d1, cA_s]
              · rw [List.append_assoc] at d3; exact d3
          · obtain rfl : o = 8 := by omega
            obtain ⟨M1, a1, a2, a3⟩ := x_mayOpen_n hr hC (by omega)
            rw [if_neg o8, a1, cA_s, if_pos rfl]
            exact ⟨M1, rfl, a2, a3⟩
        · have hnd : ndP 0 3 o ≤ d ∧ 4 ≤ d := by unfold ndP at hd ⊢; simp at hd ⊢; omega
          rw [if_neg e19, if_neg (show ¬ nI (tTk tp ln a) = (19 : Int32) from nIne (b := 19) (by omega) (by decide) e19), cR_t hl43]
          have h1 := ih0 3 o a c M hnd.1 (by omega) ho hC hc ha
          rw [show (3 : Int32) = nI 3 from rfl]
          cases hres : pP tp ln d 0 3 o a with
          | inl q =>
            rw [hres] at h1
            obtain ⟨M1, b1, b2, b3⟩ := h1
            have hrf := (x_rec_f b3).2.2 d 3 (nI o) hnd.2 (by decide)
            obtain ⟨t1, -⟩ := ly_ra b3.1 hr
            obtain ⟨M3, d1, d2, d3⟩ := x_emit_f (v := (10000 : Int32) + mI M1 43 6) hr b3
            refine ⟨M3, ?_, b2.tr d2, d3⟩
            rw [b1, cA_s, gI_t (ly_t43 b3.1)]
            have s70 : f_X5_ask_70 (f_X5_rec d) (some 43) (nI o) (mI M1 43 6) M1 = some ((), M3) := by
              unfold f_X5_ask_70
              rw [cR_t (ly_t43 b3.1), x_fail_f b3, cA_s, cR_t (ly_t43 b3.1), x_expect_f b3, cA_s, cR_t (ly_t43 b3.1), show (3 : Int32) = nI 3 from rfl, hrf, cA_s, gR_t (ly_t43 b3.1), b3.2.2.1, cR_t t1, d1, cA_s]
            by_cases z1 : mI M1 43 6 < (21 : Int32)
            · rw [if_pos z1]; exact s70
            · rw [if_neg z1]
              by_cases z2 : mI M1 43 6 ≤ (26 : Int32)
              · rw [if_pos z2, cR_t (ly_t43 b3.1), x_expect_f b3, cA_s, cR_t (ly_t43 b3.1), hrf, cA_s, gR_t (ly_t43 b3.1), b3.2.2.1, cR_t t1, d1, cA_s]
              · rw [if_neg z2]; exact s70
          | inr q =>
            obtain ⟨a1, cc⟩ := q
            rw [hres] at h1
            obtain ⟨M1, b1, b2, b3⟩ := h1
            obtain ⟨⟨g1, g2, g3⟩, -⟩ := pP_ok d 0 3 o _ a1 cc ha ho (by omega) (by omega) hres
            have htk1 := tTk_le (tp := tp) (ln := ln) (a := a1)
            have hlen1 : (c ++ cc).length ≤ a1 := by rw [List.length_append]; omega
            have hk6 := b3.2.2.2.2.1.2.1
            show XR pl L r tp ln c _ M (if 21 ≤ tTk tp ln a1 ∧ tTk tp ln a1 ≤ 26 then _ else _)
            rw [b1, cA_s, gI_t (ly_t43 b3.1), hk6]
            by_cases ec : 21 ≤ tTk tp ln a1 ∧ tTk tp ln a1 ≤ 26
            · have hx1 := tNx_b (tp := tp) g2
              have hlt1 := hx1.2.2 (by omega)
              obtain ⟨M2, d1, d2, d3⟩ := x_expect_y hr b3 g2
              have h2 := ih0 3 o (tNx tp ln a1) (c ++ cc) M2 hnd.1 (by omega) ho d3 (by omega) hx1.1
              rw [if_pos ec, if_neg (show ¬ nI (tTk tp ln a1) < (21 : Int32) from nI_nlt (b := 21) ec.1 (by omega)), if_pos (show nI (tTk tp ln a1) ≤ (26 : Int32) from nI_le (b := 26) ec.2 (by decide)), cR_t (ly_t43 b3.1), d1, cA_s, cR_t (ly_t43 d3.1)]
              cases hres2 : pP tp ln d 0 3 o (tNx tp ln a1) with
              | inl q =>
                rw [hres2] at h2
                obtain ⟨M3, e1, e2, e3⟩ := h2
                obtain ⟨t1, -⟩ := ly_ra e3.1 hr
                obtain ⟨M4, f1, f2, f3⟩ := x_emit_f (v := (10000 : Int32) + nI (tTk tp ln a1)) hr e3
                refine ⟨M4, ?_, b2.tr (d2.tr (e2.tr f2)), f3⟩
                rw [e1, cA_s, gR_t (ly_t43 e3.1), e3.2.2.1, cR_t t1, f1, cA_s]
              | inr q =>
                obtain ⟨a2, c2'⟩ := q
                rw [hres2] at h2
                obtain ⟨M3, e1, e2, e3⟩ := h2
                obtain ⟨t1, -⟩ := ly_ra e3.1 hr
                obtain ⟨⟨k1, k2, k3⟩, -⟩ := pP_ok d 0 3 o _ a2 c2' hx1.1 ho (by omega) (by omega) hres2
                obtain ⟨M4, f1, f2, f3⟩ := x_emit_c (v := 10000 + tTk tp ln a1) hr e3 (by rw [List.length_append]; show (c ++ cc).length + c2'.length < 300; omega)
                refine ⟨M4, ?_, b2.tr (d2.tr (e2.tr f2)), ?_⟩
                · rw [e1, cA_s, gR_t (ly_t43 e3.1), e3.2.2.1, cR_t t1, show (10000 : Int32) + nI (tTk tp ln a1) = nI (10000 + tTk tp ln a1) by rw [show (10000 : Int32) = nI 10000 from rfl, nI_add], f1, cA_s]
                · simp only [List.append_assoc] at f3 ⊢; exact f3
            · obtain ⟨M2, d1, d2, d3⟩ := x_fail_c (k := 1) hr b3 (Nat.le_trans hlen1 (Nat.le_trans g2 h300)) (by decide)
              have hrf := (x_rec_f d3).2.2 d 3 (nI o) hnd.2 (by decide)
              obtain ⟨t1, -⟩ := ly_ra d3.1 hr
              obtain ⟨M3, f1, f2, f3⟩ := x_emit_f (v := (10000 : Int32) + nI (tTk tp ln a1)) hr d3
              have s70 : f_X5_ask_70 (f_X5_rec d) (some 43) (nI o) (nI (tTk tp ln a1)) M1 = some ((), M3) := by
                unfold f_X5_ask_70
                rw [cR_t (ly_t43 b3.1), show f_X5_fail (some 43) (1 : Int32) M1 = _ from d1, cA_s, cR_t (ly_t43 d3.1), x_expect_f d3, cA_s, cR_t (ly_t43 d3.1), show (3 : Int32) = nI 3 from rfl, hrf, cA_s, gR_t (ly_t43 d3.1), d3.2.2.1, cR_t t1, f1, cA_s]
              rw [if_neg ec]
              refine ⟨M3, ?_, b2.tr (d2.tr f2), f3⟩
              by_cases z1 : tTk tp ln a1 < 21
              · rw [if_pos (show nI (tTk tp ln a1) < (21 : Int32) from nI_lt (b := 21) z1 (by decide))]; exact s70
              · rw [if_neg (show ¬ nI (tTk tp ln a1) < (21 : Int32) from nI_nlt (b := 21) (by omega) (by omega)), if_neg (show ¬ nI (tTk tp ln a1) ≤ (26 : Int32) from nI_ge (a := 26) (by omega) (by omega))]; exact s70
      · rw [if_neg k1]
        obtain rfl : k = 2 := by omega
        show XR pl L r tp ln c (if (2 : Nat) = 0 then _ else if (2 : Nat) = 1 then _ else b_X5_one (f_X5_rec d) (some 43) (nI o) M) M _
        rw [if_neg (by decide), if_neg (by decide)]
        unfold b_X5_one
        rw [gI_t hl43, c4.1, if_pos (show nI 0 = (0 : Int32) from rfl), gI_t hl43, c5.2.1]
        have s131 : tTk tp ln a ≠ 28 → ∃ M', f_X5_one_131 (f_X5_rec d) (some 43) (nI o) M = some ((), M') ∧ XFr r M M' ∧ FlX pl L r tp ln 1 (tSt tp ln a) M' := fun hne => by
          obtain ⟨M1, a1, a2, a3⟩ := x_fail_c (k := 1) hr hC (by omega) (by decide)
          refine ⟨M1, ?_, a2, a3⟩
          unfold f_X5_one_131
          rw [gI_t hl43, c5.2.1, if_neg (show ¬ nI (tTk tp ln a) = (28 : Int32) from nIne (b := 28) (by omega) (by decide) hne), cR_t hl43, show f_X5_fail (some 43) (1 : Int32) M = _ from a1, cA_s]
        by_cases e20 : tTk tp ln a = 20
        · have hnm := c5.2.2.2 e20
          have hnl : tNm tp ln a ≤ 10000 := nmV_le _ _ 0 (by omega)
          rw [if_pos e20, if_pos (show nI (tTk tp ln a) = (20 : Int32) by rw [e20]; rfl), gI_t hl43, hnm]
          by_cases en : tNm tp ln a ≤ 9999
          · obtain ⟨M1, a1, a2, a3⟩ := x_emit_c (v := tNm tp ln a) hr hC (Nat.lt_of_le_of_lt hc (Nat.lt_of_lt_of_le (hx.2.2 (by omega)) (Nat.le_trans hx.1 h300)))
            obtain ⟨M2, b1, b2, b3⟩ := x_adv_c hr a3 ha
            rw [if_pos en, if_pos (show nI (tNm tp ln a) ≤ (9999 : Int32) from nI_le (b := 9999) en (by decide))]
            refine ⟨M2, ?_, a2.tr b2, b3⟩
            unfold f_X5_one_35
            rw [gI_t hl43, c5.2.1, if_pos (show nI (tTk tp ln a) = (20 : Int32) by rw [e20]; rfl), gR_t hl43, c3, gI_t hl43, hnm, cR_t tr, a1, cA_s, cR_t (ly_t43 a3.1), b1, cA_s]
          · obtain ⟨M1, a1, a2, a3⟩ := x_fail_c (k := 2) hr hC (by omega) (by decide)
            rw [if_neg en, if_neg (show ¬ nI (tNm tp ln a) ≤ (9999 : Int32) from nI_ge (a := 9999) (by omega) (by omega)), cR_t hl43, show f_X5_fail (some 43) (2 : Int32) M = _ from a1, cA_s]
            exact ⟨M1, rfl, a2, a3⟩
        · rw [if_neg e20, if_neg (show ¬ nI (tTk tp ln a) = (20 : Int32) from nIne (b := 20) (by omega) (by decide) e20)]
          unfold f_X5_one_35
          rw [gI_t hl43, c5.2.1, if_neg (show ¬ nI (tTk tp ln a) = (20 : Int32) from nIne (b := 20) (by omega) (by decide) e20), gI_t hl43, c5.2.1]
          by_cases e6 : tTk tp ln a ≤ 6
          · obtain ⟨M1, a1, a2, a3⟩ := x_emit_c (v := 10000 + tTk tp ln a) hr hC (Nat.lt_of_le_of_lt hc (Nat.lt_of_lt_of_le (hx.2.2 (by omega)) (Nat.le_trans hx.1 h300)))
            obtain ⟨M2, b1, b2, b3⟩ := x_adv_c hr a3 ha
            rw [if_pos e6, if_neg (show ¬ (6 : Int32) < nI (tTk tp ln a) from nI_nlt (a := 6) e6 (by decide)), gR_t hl43, c3, gI_t hl43, c5.2.1, cR_t tr, show (10000 : Int32) + nI (tTk tp ln a) = nI (10000 + tTk tp ln a) by rw [show (10000 : Int32) = nI 10000 from rfl, nI_add], a1, cA_s, cR_t (ly_t43 a3.1), b1, cA_s]
            exact ⟨M2, rfl, a2.tr b2, b3⟩
          · rw [if_neg e6, if_pos (show (6 : Int32) < nI (tTk tp ln a) from nI_lt (a := 6) (by omega) (by omega)), gI_t hl43, c5.2.1]
            by_cases e31 : tTk tp ln a = 31
            · rw [if_pos e31, if_pos (show nI (tTk tp ln a) = (31 : Int32) by rw [e31]; rfl), cR_t hl43]
              by_cases o8 : o < 8
              · obtain ⟨M1, a1, a2, a3⟩ := x_adv_c hr hC ha
                have hlt := hx.2.2 (by omega)
                have h1 := ih0 3 (o + 1) (tNx tp ln a) c M1 (by unfold ndP at hd ⊢; simp at hd ⊢; omega) (by omega) (by omega) a3 (by omega) hx.1
                rw [if_pos o8, x_mayOpen_y o8, cA_s, if_neg (by decide), cR_t hl43, a1, cA_s, cR_t (ly_t43 a3.1), nI_1, show (3 : Int32) = nI 3 from rfl]
                cases hres : pP tp ln d 0 3 (o + 1) (tNx tp ln a) with
                | inl q =>
                  rw [hres] at h1
                  obtain ⟨M2, b1, b2, b3⟩ := h1
                  refine ⟨M2, ?_, a2.tr b2, b3⟩
                  rw [b1, cA_s, cR_t (ly_t43 b3.1), x_expect_f b3, cA_s]
                | inr q =>
                  obtain ⟨a', c'⟩ := q
                  rw [hres] at h1
                  obtain ⟨M2, b1, b2, b3⟩ := h1
                  obtain ⟨⟨g1, g2, g3⟩, -⟩ := pP_ok d 0 3 (o + 1) _ a' c' hx.1 (by omega) (by omega) (by omega) hres
                  show XR pl L r tp ln c _ M (if tTk tp ln a' = 32 then _ else _)
                  rw [b1, cA_s, cR_t (ly_t43 b3.1)]
                  by_cases e32 : tTk tp ln a' = 32
                  · obtain ⟨M3, d1, d2, d3⟩ := x_expect_y hr b3 g2
                    have d1 : f_X5_expect (some 43) (32 : Int32) M2 = some ((), M3) := by
                      have : nI (tTk tp ln a') = (32 : Int32) := by rw [e32]; rfl
                      rw [← this]; exact d1
                    rw [if_pos e32, d1, cA_s]
                    exact ⟨M3, rfl, a2.tr (b2.tr d2), d3⟩
                  · obtain ⟨M3, d1, d2, d3⟩ := x_expect_n (t := 32) hr b3 (by rw [List.length_append]; show c.length + c'.length ≤ 300; omega) (by decide) e32
                    rw [if_neg e32, show f_X5_expect (some 43) (32 : Int32) M2 = _ from d1, cA_s]
                    exact ⟨M3, rfl, a2.tr (b2.tr d2), d3⟩
              · obtain rfl : o = 8 := by omega
                obtain ⟨M1, a1, a2, a3⟩ := x_mayOpen_n hr hC (by omega)
                rw [if_neg o8, a1, cA_s, if_pos rfl]
                refine ⟨M1, ?_, a2, a3⟩
                have hk6 : mI M1 43 6 = nI (tTk tp ln a) := by
                  have : f_X5_mayOpen (some 43) (nI 8) M = some (0, sI (sI M 43 2 (nI 3)) 43 3 (nI (tSt tp ln a))) := by
                    have hl1 := c1.xf hr (XFr.w (r := r) (M := M) (a := 43) (k := 2) (v := nI 3) (Or.inl ⟨rfl, by omega⟩))
                    unfold f_X5_mayOpen f_X5_fail
                    rw [if_neg (by decide), cR_t hl43, gI_t hl43, c4.1, if_pos (show nI 0 = (0 : Int32) from rfl), show (3 : Int32) = nI 3 from rfl, pI_t hl43, gI_t (ly_t43 hl1), mI_nk (by decide), c5.2.2.1, pI_t (ly_t43 hl1), cA_s, if_pos (by decide), tv_0]
                  rw [this] at a1
                  cases a1
                  rw [mI_nk (by decide), mI_nk (by decide)]
                  exact c5.2.1
                unfold f_X5_one_131
                rw [gI_t (ly_t43 a3.1), hk6, if_neg (show ¬ nI (tTk tp ln a) = (28 : Int32) from nIne (b := 28) (by omega) (by decide) (by omega)), cR_t (ly_t43 a3.1), x_fail_f a3, cA_s]
            · rw [if_neg e31, if_neg (show ¬ nI (tTk tp ln a) = (31 : Int32) from nIne (b := 31) (by omega) (by decide) e31)]
              by_cases e28 : tTk tp ln a = 28
              · rw [if_pos e28]
                unfold f_X5_one_131
                rw [gI_t hl43, c5.2.1, if_pos (show nI (tTk tp ln a) = (28 : Int32) by rw [e28]; rfl), cR_t hl43]
                by_cases o8 : o < 8
                · obtain ⟨M1, a1, a2, a3⟩ := x_adv_c hr hC ha
                  have hlt := hx.2.2 (by omega)
                  have h1 := ih2 (o + 1) (tNx tp ln a) c M1 (by unfold ndP at hd ⊢; simp at hd ⊢; omega) (by omega) a3 (by omega) hx.1
                  rw [if_pos o8, x_mayOpen_y o8, cA_s, if_neg (by decide), cR_t hl43, a1, cA_s, cR_t (ly_t43 a3.1), nI_1]
                  cases hres : pP tp ln d 2 0 (o + 1) (tNx tp ln a) with
                  | inl q =>
                    rw [hres] at h1
                    obtain ⟨M2, b1, b2, b3⟩ := h1
                    obtain ⟨M3, d1, d2, d3⟩ := x_emit_f (v := (10037 : Int32)) hr b3
                    obtain ⟨t1, -⟩ := ly_ra b3.1 hr
                    refine ⟨M3, ?_, a2.tr (b2.tr d2), d3⟩
                    rw [b1, cA_s, gR_t (ly_t43 b3.1), b3.2.2.1, cR_t t1, d1, cA_s]
                  | inr q =>
                    obtain ⟨a', c'⟩ := q
                    rw [hres] at h1
                    obtain ⟨M2, b1, b2, b3⟩ := h1
                    obtain ⟨⟨g1, g2, g3⟩, -⟩ := pP_ok d 2 0 (o + 1) _ a' c' hx.1 (by omega) (by omega) (by omega) hres
                    obtain ⟨M3, d1, d2, d3⟩ := x_emit_c (v := 10037) hr b3 (by rw [List.length_append]; show c.length + c'.length < 300; omega)
                    obtain ⟨t1, -⟩ := ly_ra b3.1 hr
                    refine ⟨M3, ?_, a2.tr (b2.tr d2), ?_⟩
                    · rw [b1, cA_s, gR_t (ly_t43 b3.1), b3.2.2.1, cR_t t1, show (10037 : Int32) = nI 10037 from rfl, d1, cA_s]
                    · rw [List.append_assoc] at d3; exact d3
                · obtain rfl : o = 8 := by omega
                  obtain ⟨M1, a1, a2, a3⟩ := x_mayOpen_n hr hC (by omega)
                  rw [if_neg o8, a1, cA_s, if_pos rfl, cR_t (ly_t43 a3.1), x_fail_f a3, cA_s]
                  exact ⟨M1, rfl, a2, a3⟩
              · rw [if_neg e28]
                obtain ⟨M1, a1, a2, a3⟩ := s131 e28
                exact ⟨M1, a1, a2, a3⟩
end XPARSE2
