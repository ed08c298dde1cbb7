/-! ===== the law's entry: the statement's premises as a flat memory ===== -/
def wb1 : List Int32 := [109, 111, 118, 101, 32, 99, 111, 117, 110, 116, 32, 102, 114, 111, 109, 32, 116, 111, 32, 109, 105, 110, 101, 32, 116, 104, 101, 105, 114, 115, 32, 115, 105, 100, 101, 32, 115, 116, 101, 112, 32, 108, 101, 97, 112, 32, 112, 117, 115, 104, 32, 99, 104, 97, 110, 103, 101, 32, 119, 104, 105, 108, 101, 32, 112, 108, 97, 99, 101, 32, 111, 102, 102, 101, 114, 32, 114, 101, 102, 117, 115, 101, 32, 99, 104, 111, 111, 115, 101, 32, 110, 101, 118, 101, 114, 32, 97, 110, 100, 32, 111, 114, 32, 110, 111, 116, 32]
def wb2 : List Int32 := [60, 62, 61, 35, 43, 45, 42, 47, 40, 41, 44, 59]
def wtk : List Int32 := [21, 23, 25, 26, 27, 28, 29, 30, 31, 32, 33, 34]
def T0 (L : Nat) : Nat → Nat × Nat := fun a => match a with
  | 0 => (8, L)
  | 1 => (8, 12)
  | 2 => (9, 0)
  | 3 => (9, 0)
  | 4 => (10, 107)
  | 5 => (10, 12)
  | 6 => (11, 0)
  | _ => (0, 0)
def I0 (xs : Nat → Int32) : Nat → Nat → Int32 := fun a => match a with
  | 0 => xs
  | 1 => fun k => wtk.getD k 0
  | 4 => fun k => wb1.getD k 0
  | 5 => fun k => wb2.getD k 0
  | _ => fun _ => 0
def R0 (fr : Option Nat) : Nat → Nat → Option Nat := fun a k => if a = 2 ∧ k = 0 then some 4 else if a = 3 ∧ k = 0 then some 5 else if a = 6 ∧ k = 0 then fr else none
def M0 (L : Nat) (xs : Nat → Int32) (fr : Option Nat) : Mem := (T0 L, 8, I0 xs, fun _ _ => 0, R0 fr)
theorem wb1_len : wb1.length = 107 := by decide
theorem st_flat1 : ∀ j, j < 107 → Jvm.Cond.eq (.elem (.field (.string RX5 138) "java/lang/String" "value" "[B") (.int (Int32.ofNat j))) (.int (wb1.getD j 0)) ∈ flatC (Jvm.Cond.and given_1 narrow_1) := by decide +kernel
theorem st_flat2 : ∀ j, j < 12 → Jvm.Cond.eq (.elem (.field (.string RX5 148) "java/lang/String" "value" "[B") (.int (Int32.ofNat j))) (.int (wb2.getD j 0)) ∈ flatC (Jvm.Cond.and given_1 narrow_1) := by decide +kernel
theorem st_flat3 : ∀ j, j < 12 → Jvm.Cond.eq (.elem (.static RX5 "SIGN_TOKENS" "[I") (.int (Int32.ofNat j))) (.int (wtk.getD j 0)) ∈ flatC (Jvm.Cond.and given_1 narrow_1) := by decide +kernel
def tmS (i : Nat) : Term := if i = 0 then .string RX5 138 else .string RX5 148
theorem st_arr {s : State} {args : Array Value} {ty : FieldType} (h : (Jvm.Cond.arrayClass ty).before args s = true) (hp : ∀ x, ty ≠ .object x) : ∃ cA : ClassId, ArrOfT s cA ty ∧ va_RA s cA ty := by
  obtain ⟨cA, k, comp, h1, h2, h3⟩ := Cond.arrayClass_spec h
  refine ⟨cA, fun n z => ⟨fun k h => (by cases h), k, h2, comp, h3⟩, ?_⟩
  cases ty <;> first | exact h1 | exact absurd rfl (hp _)
theorem st_arq {s : State} {args : Array Value} {C : String} (h : (Jvm.Cond.arrayOver (.object C)).before args s = true) : ∃ cA : ClassId, ArrOfT s cA (.object C) ∧ va_RA s cA (.object C) := by
  obtain ⟨comp, cA, k, h1, h2, h3, h4, h5⟩ := Cond.arrayOver_spec h
  exact ⟨cA, fun n z => ⟨fun k h => (by cases h), k, h3, comp, h4⟩, k, comp, h3, h4, h1, h5⟩
theorem in_tbl {w : Cond} (i : Nat) (h : tables_1[i]? = some w) : w ∈ lw_tbl := List.mem_append.mpr (Or.inr (List.mem_of_getElem? h))
set_option maxHeartbeats 4000000 in
set_option maxRecDepth 100000 in
theorem start_of (hpure : ∀ (L : Nat) (xs : Nat → Int32) (fr : Option Nat), L ≤ 386 → ∃ M', f_L_law (some 0) (M0 L xs fr) = some (1, M')) {p : Program} {e : Env} {s : State} {m : MethodId} {below : List Frame} {meth : Method} {c : Code} (l : Launch) {b L : Nat} {xs : Nat → Int32} (hL : L ≤ 386) (C0 : lw_At p s m meth c b L xs) : W p l e room_1 s m #[Value.ref b] below meth c s.heap [] 0 0 (lw_Z below #[Value.ref b] s) (entryFrame m ([Value.ref b] : List Value).toArray 4) := by
  obtain ⟨hx, hb, hr, hml, hown, hts, hX, hbl, hlocks, hgv⟩ := id C0
  have htg : ∀ w ∈ gw, w.before #[Value.ref b] s = true := fun w hw => hts w (List.mem_filter.mp hw).1
  have hs := flat_of_before _ hgv
  have hA : ∀ a : Nat, a < s.heap.size → ¬ (fun q : Nat => s.heap.size ≤ q) a := fun a h => Nat.not_le.mpr h
  -- classes
  have hcl : ∀ k : Nat, ∃ q : ClassId × (Nat → Nat), ∀ r : vw_C, vwCl[k]? = some r → u_Kn s r.1 r.2.1 r.2.2 q.1 q.2 := by
    intro k
    cases hk : vwCl[k]? with
    | none => exact ⟨(0, fun _ => 0), fun r h => by cases h⟩
    | some r =>
      have hi : (Jvm.Cond.instantiable r.1 r.2.2).before #[Value.ref b] s = true := by
        match k, hk with
        | 0, hk => cases hk; exact htg _ (gw_in 353 (by decide +kernel) (by decide +kernel))
        | 1, hk => cases hk; exact htg _ (gw_in 95 (by decide +kernel) (by decide +kernel))
        | 2, hk => cases hk; exact htg _ (gw_in 236 (by decide +kernel) (by decide +kernel))
        | 3, hk => cases hk; exact htg _ (gw_in 275 (by decide +kernel) (by decide +kernel))
        | 4, hk => cases hk; exact htg _ (gw_in 38 (by decide +kernel) (by decide +kernel))
        | 5, hk => cases hk; exact htg _ (gw_in 165 (by decide +kernel) (by decide +kernel))
        | 6, hk => cases hk; exact htg _ (gw_in 88 (by decide +kernel) (by decide +kernel))
        | 7, hk => cases hk; exact htg _ (gw_in 32 (by decide +kernel) (by decide +kernel))
        | 8, hk => cases hk; exact htg _ (gw_in 302 (by decide +kernel) (by decide +kernel))
        | 9, hk => cases hk; exact htg _ (gw_in 222 (by decide +kernel) (by decide +kernel))
        | 10, hk => cases hk; exact htg _ (gw_in 202 (by decide +kernel) (by decide +kernel))
        | 11, hk => cases hk; exact htg _ (gw_in 24 (by decide +kernel) (by decide +kernel))
        | 12, hk => cases hk; exact htg _ (gw_in 1106 (by decide +kernel) (by decide +kernel))
        | k + 13, hk => simp [vwCl] at hk
      obtain ⟨cC, iS, h⟩ := u_known (C := r.1) (T := r.2.1) (N := r.2.2) htg (cls_ok k r hk).1 hi
      exact ⟨(cC, iS), fun r' h' => by cases h'; exact h⟩
  obtain ⟨dd, hdd⟩ := Classical.axiomOfChoice hcl
  -- rows
  obtain ⟨a2, r2⟩ := st_arr (ty := .int) (htg _ (gw_in 85 (by decide +kernel) (by decide +kernel))) (fun x h => by cases h)
  obtain ⟨a3, r3⟩ := st_arr (ty := .long) (htg _ (gw_in 234 (by decide +kernel) (by decide +kernel))) (fun x h => by cases h)
  obtain ⟨a4, r4⟩ := st_arr (ty := .byte) (htg _ (gw_in 688 (by decide +kernel) (by decide +kernel))) (fun x h => by cases h)
  obtain ⟨a5, r5⟩ := st_arr (ty := .boolean) (htg _ (gw_in 1327 (by decide +kernel) (by decide +kernel))) (fun x h => by cases h)
  have ov1 := hts (.arrayOver (.object RX1)) (in_tbl 94 (by decide +kernel))
  have ov6 := hts (.arrayOver (.object RX6)) (in_tbl 87 (by decide +kernel))
  obtain ⟨a6, r6⟩ := st_arq ov1
  obtain ⟨a7, r7⟩ := st_arq ov6
  -- texts
  obtain ⟨adK, adV, hvS, hev⟩ := vk_Sof (N := 2) (tm := tmS) (len := [107, 12]) (byt := [wb1, wb2]) (A := fun q : Nat => s.heap.size ≤ q) (args := #[Value.ref b]) (s := s) (by decide)
    (fun i hi => by rcases (show i = 0 ∨ i = 1 by omega) with rfl | rfl <;> exact hs _ (by decide +kernel))
    (fun i hi => by rcases (show i = 0 ∨ i = 1 by omega) with rfl | rfl <;> exact hs _ (by decide +kernel))
    (fun i hi => by rcases (show i = 0 ∨ i = 1 by omega) with rfl | rfl <;> exact hs _ (by decide +kernel))
    (fun i hi => by rcases (show i = 0 ∨ i = 1 by omega) with rfl | rfl <;> exact hs _ (by decide +kernel))
    (fun i hi j hj => by
      rcases (show i = 0 ∨ i = 1 by omega) with rfl | rfl
      · exact hs _ (st_flat1 j hj)
      · exact hs _ (st_flat2 j hj))
    (fun i j hi hj hne => by
      rcases (show i = 0 ∨ i = 1 by omega) with rfl | rfl <;> rcases (show j = 0 ∨ j = 1 by omega) with rfl | rfl
      · exact absurd rfl hne
      · exact Or.inl (hs _ (by decide +kernel))
      · exact Or.inr (hs _ (by decide +kernel))
      · exact absurd rfl hne)
    hA
  -- statics
  obtain ⟨tk, htk, hTk⟩ := va_Tof (tm := .static RX5 "SIGN_TOKENS" "[I") (ty := .int) (N := 12) (f := fun j => .int (wtk.getD j 0)) (A := fun q : Nat => s.heap.size ≤ q) (args := #[Value.ref b]) (s := s) (by decide) (hs _ (by decide +kernel)) (va_eqt (hs _ (by decide +kernel))) (fun j hj => va_eqt (hs _ (st_flat3 j hj))) hA
  have hZ1 := va_Zof (A := fun q : Nat => s.heap.size ≤ q) (hts (.laysStatic RX5 "SIGN_TOKENS" "[I") (in_tbl 627 (by decide +kernel))) (htg (.initialized RX5) (gw_in 6 (by decide +kernel) (by decide +kernel))) htk hA
  have hZ2 := va_Zof (A := fun q : Nat => s.heap.size ≤ q) (hts (.laysStatic "java/lang/String" "COMPACT_STRINGS" "Z") (in_tbl 523 (by decide +kernel))) (htg (.initialized "java/lang/String") (gw_in 15 (by decide +kernel) (by decide +kernel))) (va_eqi (z := 1) (hs _ (by decide +kernel))) hA
  have hZ3 := va_Zqof (A := fun q : Nat => s.heap.size ≤ q) (C := "jdk/internal/util/Preconditions") (n := "SIOOBE_FORMATTER") (d := "Ljava/util/function/BiFunction;") (hts _ (in_tbl 539 (by decide +kernel))) (htg _ (gw_in 17 (by decide +kernel) (by decide +kernel))) (hs _ (by decide +kernel)) hA
  obtain ⟨fr, ft, hfr, hZ3⟩ : ∃ (fr : Option Nat) (ft : Nat), (fr = none ∨ fr = some 7) ∧ va_Z "jdk/internal/util/Preconditions" "SIOOBE_FORMATTER" "Ljava/util/function/BiFunction;" (va_rf (fr.map (fun _ => ft))) (fun q : Nat => s.heap.size ≤ q) s s.heap := by
    rcases hZ3 with h | ⟨t, h⟩
    · exact ⟨none, 0, Or.inl rfl, h⟩
    · exact ⟨some 7, t, Or.inr rfl, h⟩
  let G : wG := (s.heap.size, (fun a => match a with | 0 => b | 1 => tk | 2 => adK 0 | 3 => adK 1 | 4 => adV 0 | 5 => adV 1 | 7 => ft | _ => 0), (fun k => (dd k).1), (fun k => (dd k).2), (fun t => match t with | 2 => a2 | 3 => a3 | 4 => a4 | 5 => a5 | 6 => a6 | _ => a7))
  have hsz0 : 0 < s.heap.size := Nat.lt_of_le_of_lt (Nat.zero_le _) hbl
  have hKp : Kp G s := by
    refine ⟨⟨fun k q hq => hdd k q hq, fun k q hq => ?_⟩, va_AO.of ov1, va_AO.of ov6, va_Nw.of rfl (hts _ (in_tbl 687 (by decide +kernel))), ?_, ?_⟩
    · match k, hq with
      | 0, hq => cases hq; exact r2
      | 1, hq => cases hq; exact r3
      | 2, hq => cases hq; exact r4
      | 3, hq => cases hq; exact r5
      | 4, hq => cases hq; exact r6
      | 5, hq => cases hq; exact r7
      | k + 6, hq => simp [tysL] at hq
    · have h1 := hts (.stringRef RX5 138 tx1) (in_tbl 513 (by decide +kernel))
      exact vk_R.of (A := #[Value.ref b]) h1 (hev 0 (by decide))
    · have h1 := hts (.stringRef RX5 148 tx2) (in_tbl 570 (by decide +kernel))
      exact vk_R.of (A := #[Value.ref b]) h1 (hev 1 (by decide))
  have hSp : Sp G s s.heap := ⟨hZ1, hZ2⟩
  have v0 := hvS.1 0 (by decide)
  have v1 := hvS.1 1 (by decide)
  have hRl : Rl G (M0 L xs fr) s s.heap := by
    refine ⟨by show s.heap.size = s.heap.size + (8 - 8); omega, Nat.le_refl 8, fun a ha => ?_⟩
    match a, ha with
    | 0, _ =>
      refine ⟨by show 0 < 8; decide, fun _ => ⟨by show 8 ≤ 8; decide, hbl⟩, fun h => absurd h (by decide), ?_⟩
      obtain ⟨scr, x1, x2, x3, x4, x5⟩ := hX
      exact ⟨scr, x1, x2, x3, by rw [x4]; exact Nat.le_refl _, by rw [x4]; rfl, x5, hA b hbl⟩
    | 1, _ =>
      refine ⟨by show 1 < 8; decide, fun _ => ⟨by show 8 ≤ 8; decide, ?_⟩, fun h => absurd h (by decide), hTk⟩
      obtain ⟨cell, t1, -⟩ := hTk
      exact (Array.getElem?_eq_some_iff.mp t1).1
    | 2, _ =>
      refine ⟨by show 2 < 8; decide, fun _ => ⟨by show 8 ≤ 9; decide, ?_⟩, fun h => absurd h (by decide), v0.1, v0.2.1, v0.2.2.1⟩
      obtain ⟨cell, t1, -⟩ := v0.1
      exact (Array.getElem?_eq_some_iff.mp t1).1
    | 3, _ =>
      refine ⟨by show 3 < 8; decide, fun _ => ⟨by show 8 ≤ 9; decide, ?_⟩, fun h => absurd h (by decide), v1.1, v1.2.1, v1.2.2.1⟩
      obtain ⟨cell, t1, -⟩ := v1.1
      exact (Array.getElem?_eq_some_iff.mp t1).1
    | 4, _ =>
      refine ⟨by show 4 < 8; decide, fun _ => ⟨by show 8 ≤ 10; decide, ?_⟩, fun h => absurd h (by decide), v0.2.2.2⟩
      obtain ⟨cell, t1, -⟩ := v0.2.2.2
      exact (Array.getElem?_eq_some_iff.mp t1).1
    | 5, _ =>
      refine ⟨by show 5 < 8; decide, fun _ => ⟨by show 8 ≤ 10; decide, ?_⟩, fun h => absurd h (by decide), v1.2.2.2⟩
      obtain ⟨cell, t1, -⟩ := v1.2.2.2
      exact (Array.getElem?_eq_some_iff.mp t1).1
    | 6, _ =>
      refine ⟨by show 6 < 8; decide, fun _ => ⟨by show 8 ≤ 11; decide, hsz0⟩, fun h => absurd h (by decide), ?_⟩
      show va_Z _ _ _ (va_rf (rq G (R0 fr 6 0))) _ _ _
      have e : rq G (R0 fr 6 0) = fr.map (fun _ => ft) := by
        rcases hfr with h | h <;> subst h <;> rfl
      rw [e]
      exact hZ3
    | k + 7, ha => exact absurd rfl ha
  have C : wpK Y_L_law G p s m #[Value.ref b] meth c := by
    exact ⟨hx, hb, hml, hr, hlocks, hown, htg, hKp, hSp, fun hh => absurd hh (by decide), dk_L_law, Nat.le_refl _⟩
  obtain ⟨M', hM⟩ := hpure L xs fr hL
  have hw := s_L_law (r0 := some 0) (M := M0 L xs fr) ⟨1, M', hM, rfl⟩
  have hl := loE_lvh (G := G) (nL := 4) (vs := [va_rf (some 0)]) (by decide)
  have hk := hw G p l e s m #[Value.ref b] below meth c s.heap [] _ C hRl va_S.rf hl
  rw [lg_entry_eq]
  intro T hT X
  obtain ⟨t, a1, b1⟩ := hk T hT X
  exact ⟨t, a1, b1 ⟨⟨b, rfl⟩, rfl⟩⟩
