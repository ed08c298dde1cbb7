/-! ===== the class reads a clause to its end ===== -/
def x_tl (o : Nat) (M : Mem) : Option (Unit × Mem) := gR M (some 43) 5 4 fun v9 => gI M v9 6 5 fun v10 => pI M (some o) 1 7 v10 fun M9 => cR M9 (some 43) (1, 5) (cA (f_X5_expect (some 43) (34 : Int32) M9) fun _ M10 => some ((), M10))
/-- what stays while a clause is read to its end -/
def KO (r n : Nat) (M M' : Mem) : Prop := (∀ i k, i < 20 → (i ≠ n ∨ k ≠ 7) → mI M' (r + 5 + i) k = mI M (r + 5 + i) k) ∧ mI M' r 4 = mI M r 4 ∧ mR M' = mR M
theorem KO.tr {r n : Nat} {M M1 M2 : Mem} (h : KO r n M M1) (h' : KO r n M1 M2) : KO r n M M2 := ⟨fun i k hi hk => (h'.1 i k hi hk).trans (h.1 i k hi hk), h'.2.1.trans h.2.1, h'.2.2.trans h.2.2⟩
section XCLAUSE5
variable {pl L r : Nat} {tp : Nat → Nat} {ln : Nat} {M M' : Mem}
theorem XFr.ko {n : Nat} (hr : isRA r) (h : XFr r M M') : KO r n M M' := ⟨fun i k hi _ => xfr_o hr hi h, h.i (by
  have h43 := ra_43 hr
  unfold XP
  omega), h.2.2.1⟩
theorem KO.w {n : Nat} {v : Int32} : KO r n M (sI M (r + 5 + n) 7 v) := ⟨fun i k hi hk => by
  rw [mI_s, if_neg]
  omega, by rw [mI_na (by omega)], rfl⟩
theorem fg7 {n : Nat} {v : Int32} (hn : n < 20) : Fg r M (sI M (r + 5 + n) 7 v) := Fg.wI (Or.inr (Or.inr (Or.inr ⟨by omega, by omega, by decide⟩)))
theorem x_tl_f {f p n : Nat} (hr : isRA r) (hn : n < 20) (hF : FlX pl L r tp ln f p M) : ∃ M', x_tl (r + 5 + n) M = some ((), M') ∧ Fg r M M' ∧ FlX pl L r tp ln f p M' := by
  obtain ⟨t1, -, -, -, -, t6⟩ := ly_ra hF.1 hr
  have h1 : ∀ v : Int32, FlX pl L r tp ln f p (sI M (r + 5 + n) 7 v) := fun v => hF.wo hr hn (by decide)
  refine ⟨_, ?_, fg7 hn, h1 (mI M r 5)⟩
  unfold x_tl
  rw [gR_t (ly_t43 hF.1), hF.2.2.1, gI_t t1, pI_t (t6 n hn), cR_t (ly_t43 (h1 _).1), x_expect_f (h1 _), cA_s]
theorem x_tl_y {a n : Nat} {c : List Nat} (hr : isRA r) (hn : n < 20) (hC : ClX pl L r tp ln a c M) (ha : a ≤ ln) (ht : tTk tp ln a = 34) : ∃ M', x_tl (r + 5 + n) M = some ((), M') ∧ Fg r M M' ∧ ClX pl L r tp ln (tNx tp ln a) c M' ∧ mI M' (r + 5 + n) 7 = nI c.length ∧ KO r n M M' := by
  obtain ⟨t1, -, -, -, -, t6⟩ := ly_ra hC.1 hr
  have h1 : ClX pl L r tp ln a c (sI M (r + 5 + n) 7 (nI c.length)) := hC.wo hr hn (by decide)
  obtain ⟨M2, b1, b2, b3⟩ := x_expect_y hr h1 ha
  rw [ht] at b1
  refine ⟨M2, ?_, (fg7 hn).tr b2.fg, b3, by rw [xfr_o hr hn b2, mI_e], KO.w.tr (b2.ko hr)⟩
  unfold x_tl
  rw [gR_t (ly_t43 hC.1), hC.2.2.1, gI_t t1, hC.2.2.2.2.2.1, pI_t (t6 n hn), cR_t (ly_t43 h1.1), show f_X5_expect (some 43) (34 : Int32) _ = _ from b1, cA_s]
theorem x_tl_n {a n : Nat} {c : List Nat} (hr : isRA r) (hn : n < 20) (hC : ClX pl L r tp ln a c M) (hc : c.length ≤ 300) (ht : tTk tp ln a ≠ 34) : ∃ M', x_tl (r + 5 + n) M = some ((), M') ∧ Fg r M M' ∧ FlX pl L r tp ln 1 (tSt tp ln a) M' := by
  obtain ⟨t1, -, -, -, -, t6⟩ := ly_ra hC.1 hr
  have h1 : ClX pl L r tp ln a c (sI M (r + 5 + n) 7 (nI c.length)) := hC.wo hr hn (by decide)
  obtain ⟨M2, b1, b2, b3⟩ := x_expect_n (t := 34) hr h1 hc (by decide) ht
  refine ⟨M2, ?_, (fg7 hn).tr b2.fg, b3⟩
  unfold x_tl
  rw [gR_t (ly_t43 hC.1), hC.2.2.1, gI_t t1, hC.2.2.2.2.2.1, pI_t (t6 n hn), cR_t (ly_t43 h1.1), show f_X5_expect (some 43) (34 : Int32) _ = _ from b1, cA_s]
/-- what a clause read to its end comes to -/
def BoX (pl L r : Nat) (tp : Nat → Nat) (ln n : Nat) (c : List Nat) (M : Mem) (x : Option (Unit × Mem)) (res : (Nat × Nat) ⊕ (Nat × Cl)) : Prop := match res with
  | .inl e => ∃ M', x = some ((), M') ∧ Fg r M M' ∧ FlX pl L r tp ln e.1 (tSt tp ln e.2) M'
  | .inr q => ∃ M', x = some ((), M') ∧ Fg r M M' ∧ ClX pl L r tp ln q.1 (c ++ cCd q.2) M' ∧ mI M' (r + 5 + n) 7 = nI (c ++ cCd q.2).length ∧ KO r n M M'
theorem x_fin {a n t mv ac kd dr : Nat} {c d : List Nat} (hr : isRA r) (hn : n < 20) (hC : ClX pl L r tp ln a (c ++ d) M) (hc : (c ++ d).length ≤ 300) (ha : a ≤ ln) : BoX pl L r tp ln n c M (x_tl (r + 5 + n) M) (pFin tp ln t mv ac kd dr a d) := by
  unfold pFin
  by_cases e : tTk tp ln a = 34
  · rw [if_pos e]
    exact x_tl_y hr hn hC ha e
  · rw [if_neg e]
    exact x_tl_n hr hn hC hc e
theorem BoX.pre {n : Nat} {c : List Nat} {M1 : Mem} {x x' : Option (Unit × Mem)} {res : (Nat × Nat) ⊕ (Nat × Cl)} (h : BoX pl L r tp ln n c M1 x res) (fr : Fg r M M1) (ko : KO r n M M1) (e : x' = x) : BoX pl L r tp ln n c M x' res := by
  subst e
  cases res with
  | inl q => obtain ⟨M', a, b, d⟩ := h; exact ⟨M', a, fr.tr b, d⟩
  | inr q => obtain ⟨M', a, b, d, e, f⟩ := h; exact ⟨M', a, fr.tr b, d, e, ko.tr f⟩
theorem x_body {l b n t mv ac kd dr : Nat} {c : List Nat} (hr : isRA r) (hn : n < 20) (hl : l ≤ 5) (hC : ClX pl L r tp ln b c M) (hc : c.length ≤ b) (hb : b ≤ ln) : BoX pl L r tp ln n c M (cA (f_X5_level (some 43) (nI l) (0 : Int32) M) fun _ M6 => x_tl (r + 5 + n) M6) (pBod tp ln l t mv ac kd dr b) := by
  have h300 := hC.2.1.1
  have hrec := x_rec_c (pl := pl) (L := L) (tp := tp) (ln := ln) hr 64 0 l 0 b c M (by
    unfold ndP
    rw [if_pos rfl]
    repeat' split
    all_goals decide) (by decide) hl (by decide) hC hc hb
  rw [if_pos rfl, if_pos rfl] at hrec
  have hrec : XR pl L r tp ln c (f_X5_level (some 43) (nI l) (0 : Int32) M) M (pP tp ln 64 0 l 0 b) := hrec
  unfold pBod
  cases hp : pP tp ln 64 0 l 0 b with
  | inl e =>
    rw [hp] at hrec
    obtain ⟨M1, b1, b2, b3⟩ := hrec
    obtain ⟨M2, d1, d2, d3⟩ := x_tl_f hr hn b3
    exact ⟨M2, by rw [b1, cA_s, d1], b2.fg.tr d2, d3⟩
  | inr q =>
    obtain ⟨a1, d⟩ := q
    rw [hp] at hrec
    obtain ⟨M1, b1, b2, b3⟩ := hrec
    obtain ⟨⟨g1, g2, g3⟩, -⟩ := pP_ok 64 0 l 0 b a1 d hb (by decide) (by decide) hl hp
    show BoX pl L r tp ln n c M _ (pFin tp ln t mv ac kd dr a1 d)
    refine (x_fin hr hn b3 ?_ g2).pre b2.fg (b2.ko hr) (by rw [b1, cA_s])
    show (c ++ d).length ≤ 300
    rw [List.length_append]
    omega
end XCLAUSE5
