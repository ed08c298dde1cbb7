/-! ===== stores into rows, new cells, statics, texts, the copy ===== -/
/-- a row is written: its cell, with the new contents -/
theorem Rl.row {G : wG} {M M' : Mem} {U : State} {H H1 : Heap} {a : Nat} (h : Rl G M U H) (h8 : 8 ≤ a) (hT : mT M' = mT M) (hZ : mZ M' = mZ M) (hI : ∀ b, b ≠ a → mI M' b = mI M b) (hL : ∀ b, b ≠ a → mL M' b = mL M b) (hR : ∀ b, b ≠ a → mR M' b = mR M b) {locs : List Loc} {H0 : Heap} (hS : va_S (gA G) H0 H locs) {k : Nat}
    (hz : H1.size = H.size) (hq : ∀ q : Nat, q ≠ rho G a → H1[q]? = H[q]?) (hc : cellOk G M' a U H1) : Rl G M' U H1 ∧ va_S (gA G) H0 H1 (locs ++ [⟨rho G a, k⟩]) :=
  ⟨h.write h8 hT hZ hI hL hR hz hq hc, hS.put hz hq (by show G.1 ≤ rho G a; rw [rho_big h8]; exact Nat.le_add_right _ _)⟩
theorem sI_row {M : Mem} {a j : Nat} {x : Int32} {mk : Int32 → Value} : (fun q => mk (mI (sI M a j x) a q)) = updV (fun q => mk (mI M a q)) j (mk x) := by
  funext q
  show mk (up2 M.2.2.1 a j x a q) = _
  rw [up2_s]
  by_cases hq : q = j
  · subst hq; rw [up1_s]; simp [updV]
  · rw [up1_n hq]; simp [updV, hq]; rfl
theorem sL_row {M : Mem} {a j : Nat} {x : Int64} : (fun q => Value.long (mL (sL M a j x) a q)) = updV (fun q => .long (mL M a q)) j (.long x) := by
  funext q
  show Value.long (up2 M.2.2.2.1 a j x a q) = _
  rw [up2_s]
  by_cases hq : q = j
  · subst hq; rw [up1_s]; simp [updV]
  · rw [up1_n hq]; simp [updV, hq]; rfl
theorem sR_row {G : wG} {M : Mem} {a j : Nat} {x : Option Nat} : (fun q => va_rf (rq G (mR (sR M a j x) a q))) = updV (fun q => va_rf (rq G (mR M a q))) j (va_rf (rq G x)) := by
  funext q
  show va_rf (rq G (up2 M.2.2.2.2 a j x a q)) = _
  rw [up2_s]
  by_cases hq : q = j
  · subst hq; rw [up1_s]; simp [updV]
  · rw [up1_n hq]; simp [updV, hq]; rfl
theorem nar_int (ty : FieldType) (h : ty = .byte ∨ ty = .boolean) (x : Int32) : narrow ty (.int x) = .int (vp_nar ty x) := by
  rcases h with rfl | rfl <;> rfl
section RS
variable {Y : YM} {R : Room} {F : wF} {c n pc : Nat} {lo : List (Option Value)} {st : List Value} {M : Mem} {β : Type} {P : β → Mem → Prop}
theorem r_iast {r : Option Nat} {i x : Int32} {K : Mem → Option (β × Mem)} (hd : Y.2.2.1[pc]? = some (some (.iastore, 1))) (h : FQ (wI M r 2 i x K) P) (kk : ∀ M', FQ (K M') P → wp Y R F c n (pc + 1) lo st M') : wp Y R F c n pc lo (.int x :: .int i :: va_rf r :: st) M := by
  obtain ⟨a, rfl, hT, hin, hlt, h⟩ := wI_inv h
  intro G p l e s m args below meth cd H locs ls C hR hS hl
  obtain ⟨h8, hc⟩ := hR.cell hT (by decide)
  unfold cellOk at hc
  rw [hT] at hc
  refine W.iast C.x C.b hc ((kA C 0 rfl).1 _ _) (fun q => by cases q) (by rw [arrV_size]; exact hin) rfl rfl (C.d hd) fun H1 e1 z1 o1 => ?_
  obtain ⟨hR1, hS1⟩ := hR.row (M' := sI M a i.toNatClampNeg x) (k := i.toNatClampNeg) (h8 (by decide)) rfl rfl (fun b hb => up2_n hb) (fun _ _ => rfl) (fun _ _ => rfl) hS z1 o1 (by
    unfold cellOk
    rw [show mT (sI M a i.toNatClampNeg x) = mT M from rfl, hT]
    show H1[rho G a]? = some (arrV _ _ (fun j => .int (mI (sI M a i.toNatClampNeg x) a j)))
    rw [e1, arrV_store, sI_row (mk := fun z => .int z)])
  exact kk _ h G p l e s m args below meth cd H1 _ ls C hR1 hS1 hl
theorem r_bast {r : Option Nat} {i x : Int32} {K : Mem → Option (β × Mem)} (hd : Y.2.2.1[pc]? = some (some (.bastore, 1))) (h : FQ (wI M r 4 i (vp_nar .byte x) K) P) (kk : ∀ M', FQ (K M') P → wp Y R F c n (pc + 1) lo st M') : wp Y R F c n pc lo (.int x :: .int i :: va_rf r :: st) M := by
  obtain ⟨a, rfl, hT, hin, hlt, h⟩ := wI_inv h
  intro G p l e s m args below meth cd H locs ls C hR hS hl
  obtain ⟨h8, hc⟩ := hR.cell hT (by decide)
  unfold cellOk at hc
  rw [hT] at hc
  refine W.bast C.x C.b hc ((kA C 2 rfl).1 _ _) (fun q => by cases q) (by rw [arrV_size]; exact hin) rfl rfl (C.d hd) fun H1 e1 z1 o1 => ?_
  obtain ⟨hR1, hS1⟩ := hR.row (M' := sI M a i.toNatClampNeg (vp_nar .byte x)) (k := i.toNatClampNeg) (h8 (by decide)) rfl rfl (fun b hb => up2_n hb) (fun _ _ => rfl) (fun _ _ => rfl) hS z1 o1 (by
    unfold cellOk
    rw [show mT (sI M a i.toNatClampNeg (vp_nar .byte x)) = mT M from rfl, hT]
    show H1[rho G a]? = some (arrV _ _ (fun j => .int (mI (sI M a i.toNatClampNeg (vp_nar .byte x)) a j)))
    rw [e1, arrV_store, sI_row (mk := fun z => .int z), nar_int .byte (Or.inl rfl)])
  exact kk _ h G p l e s m args below meth cd H1 _ ls C hR1 hS1 hl
theorem r_zast {r : Option Nat} {i x : Int32} {K : Mem → Option (β × Mem)} (hd : Y.2.2.1[pc]? = some (some (.bastore, 1))) (h : FQ (wI M r 5 i (vp_nar .boolean x) K) P) (kk : ∀ M', FQ (K M') P → wp Y R F c n (pc + 1) lo st M') : wp Y R F c n pc lo (.int x :: .int i :: va_rf r :: st) M := by
  obtain ⟨a, rfl, hT, hin, hlt, h⟩ := wI_inv h
  intro G p l e s m args below meth cd H locs ls C hR hS hl
  obtain ⟨h8, hc⟩ := hR.cell hT (by decide)
  unfold cellOk at hc
  rw [hT] at hc
  refine W.zast C.x C.b hc ((kA C 3 rfl).1 _ _) (fun q => by cases q) (by rw [arrV_size]; exact hin) rfl rfl (C.d hd) fun H1 e1 z1 o1 => ?_
  obtain ⟨hR1, hS1⟩ := hR.row (M' := sI M a i.toNatClampNeg (vp_nar .boolean x)) (k := i.toNatClampNeg) (h8 (by decide)) rfl rfl (fun b hb => up2_n hb) (fun _ _ => rfl) (fun _ _ => rfl) hS z1 o1 (by
    unfold cellOk
    rw [show mT (sI M a i.toNatClampNeg (vp_nar .boolean x)) = mT M from rfl, hT]
    show H1[rho G a]? = some (arrV _ _ (fun j => .int (mI (sI M a i.toNatClampNeg (vp_nar .boolean x)) a j)))
    rw [e1, arrV_store, sI_row (mk := fun z => .int z), nar_int .boolean (Or.inr rfl)])
  exact kk _ h G p l e s m args below meth cd H1 _ ls C hR1 hS1 hl
theorem r_last {r : Option Nat} {i : Int32} {x : Int64} {K : Mem → Option (β × Mem)} (hd : Y.2.2.1[pc]? = some (some (.lastore, 1))) (h : FQ (wL M r i x K) P) (kk : ∀ M', FQ (K M') P → wp Y R F c n (pc + 1) lo st M') : wp Y R F c n pc lo (.long x :: .int i :: va_rf r :: st) M := by
  obtain ⟨a, rfl, hT, hin, hlt, h⟩ := wL_inv h
  intro G p l e s m args below meth cd H locs ls C hR hS hl
  obtain ⟨h8, hc⟩ := hR.cell hT (by decide)
  unfold cellOk at hc
  rw [hT] at hc
  refine W.last C.x C.b hc ((kA C 1 rfl).1 _ _) (fun q => by cases q) (by rw [arrV_size]; exact hin) rfl rfl (C.d hd) fun H1 e1 z1 o1 => ?_
  obtain ⟨hR1, hS1⟩ := hR.row (M' := sL M a i.toNatClampNeg x) (k := i.toNatClampNeg) (h8 (by decide)) rfl rfl (fun _ _ => rfl) (fun b hb => up2_n hb) (fun _ _ => rfl) hS z1 o1 (by
    unfold cellOk
    rw [show mT (sL M a i.toNatClampNeg x) = mT M from rfl, hT]
    show H1[rho G a]? = some (arrV _ _ (fun j => .long (mL (sL M a i.toNatClampNeg x) a j)))
    rw [e1, arrV_store, sL_row])
  exact kk _ h G p l e s m args below meth cd H1 _ ls C hR1 hS1 hl
/-- a row of references: t is 6 or 7, its class's number 1 or 6 -/
theorem r_aast0 {r v : Option Nat} {i : Int32} {K : Mem → Option (β × Mem)} (t ti ci : Nat) (CN : String) (hd : Y.2.2.1[pc]? = some (some (.aastore, 1))) (ht8 : t < 8) (ht0 : t ≠ 0) (hci : (if t = 6 then 1 else 6) = ci) (hcn : ∃ q : vw_C, vwCl[ci]? = some q ∧ q.1 = CN) (hty : ∀ G : wG, (tysL G)[ti]? = some (G.2.2.2.2 t, .object CN))
    (hcell : ∀ (G : wG) (M : Mem) (a : Nat) (U : State) (H : Heap), (mT M a).1 = t → (cellOk G M a U H ↔ H[rho G a]? = some (arrV (G.2.2.2.2 t) (mT M a).2 (fun j => va_rf (rq G (mR M a j))))))
    (h : FQ (wR M r t i v K) P) (kk : ∀ M', FQ (K M') P → wp Y R F c n (pc + 1) lo st M') : wp Y R F c n pc lo (va_rf v :: .int i :: va_rf r :: st) M := by
  obtain ⟨a, rfl, hT, hin, hlt, hv, h⟩ := wR_inv h
  rw [hci] at hv
  intro G p l e s m args below meth cd H locs ls C hR hS hl
  obtain ⟨h8, hc⟩ := hR.cell hT ht0
  rw [hcell G M a s H hT] at hc
  have fin : ∀ H' : Heap, H'[rho G a]? = some ((arrV (G.2.2.2.2 t) (mT M a).2 (fun j => va_rf (rq G (mR M a j)))).setSlot i.toNatClampNeg (va_rf (rq G v))) → H'.size = H.size → (∀ x, x ≠ rho G a → H'[x]? = H[x]?) → W p l e R s m args below meth cd H' (locs ++ [⟨rho G a, i.toNatClampNeg⟩]) c n (F G below args s) (F0 m (pc + 1) ls (st.map (sh G))) := by
    intro H1 e1 z1 o1
    obtain ⟨hR1, hS1⟩ := hR.row (M' := sR M a i.toNatClampNeg v) (k := i.toNatClampNeg) (h8 ht8) rfl rfl (fun _ _ => rfl) (fun _ _ => rfl) (fun b hb => up2_n hb) hS z1 o1 (by
      rw [hcell G (sR M a i.toNatClampNeg v) a s H1 hT, sR_row]
      rw [e1, arrV_store]
      rfl)
    exact kk _ h G p l e s m args below meth cd H1 _ ls C hR1 hS1 hl
  obtain ⟨q, hq, hqn⟩ := hcn
  have hA := kA C ti (hty G)
  rw [List.map_cons, sh_rf]
  cases v with
  | none => exact va_WaastN (C := CN) C.x C.b hc (hA.1 _ _) (fun h => by cases h) (by rw [arrV_size]; exact hin) rfl rfl (C.d hd) fin
  | some b =>
    obtain ⟨h8b, cellV, g1, g2, g3, -⟩ := hR.obj (hv b rfl) hq
    have hcls := (C.kp.1.1 ci q hq).2
    obtain ⟨kA', comp, k1, k2, k3, -⟩ := hA.2
    have hcomp : comp = G.2.2.1 ci := Option.some.inj (k3.symm.trans (by rw [← hqn]; exact hcls.1))
    subst hcomp
    obtain ⟨kC, hkC, -⟩ := hcls.2
    exact W.aast C.x C.b hc (fun q h => by cases h) (fun h => by cases h) k1 k2 rfl hkC ⟨fun z => hin (Or.inl z), by rw [arrV_size]; exact hlt⟩ g1 (fun q h => by rw [g3] at h; cases h) (by rw [g2]; exact hkC) (by rw [g2]; exact va_assign hcls) rfl rfl (C.d hd) fin
theorem r_aast6 {r v : Option Nat} {i : Int32} {K : Mem → Option (β × Mem)} (hd : Y.2.2.1[pc]? = some (some (.aastore, 1))) (h : FQ (wR M r 6 i v K) P) (kk : ∀ M', FQ (K M') P → wp Y R F c n (pc + 1) lo st M') : wp Y R F c n pc lo (va_rf v :: .int i :: va_rf r :: st) M :=
  r_aast0 6 4 1 RX1 hd (by decide) (by decide) rfl ⟨_, rfl, rfl⟩ (fun _ => rfl) (fun G M a U H hT => by unfold cellOk; rw [hT]; exact Iff.rfl) h kk
theorem r_aast7 {r v : Option Nat} {i : Int32} {K : Mem → Option (β × Mem)} (hd : Y.2.2.1[pc]? = some (some (.aastore, 1))) (h : FQ (wR M r 7 i v K) P) (kk : ∀ M', FQ (K M') P → wp Y R F c n (pc + 1) lo st M') : wp Y R F c n pc lo (va_rf v :: .int i :: va_rf r :: st) M :=
  r_aast0 7 5 6 RX6 hd (by decide) (by decide) rfl ⟨_, rfl, rfl⟩ (fun _ => rfl) (fun G M a U H hT => by unfold cellOk; rw [hT]; exact Iff.rfl) h kk
end RS
/-! new cells -/
def nW {β : Type} (M : Mem) (c : Nat) (K : Option Nat → Mem → Option β) : Option β := K (some (mZ M)) (sN M (1, c))
def nA {β : Type} (M : Mem) (t : Nat) (i : Int32) (bd : Nat) (K : Option Nat → Mem → Option β) : Option β := if 0 ≤ i ∧ i.toNatClampNeg ≤ bd then K (some (mZ M)) (sN M (t, i.toNatClampNeg)) else none
theorem Rl.top {G : wG} {M : Mem} {U : State} {H : Heap} (h : Rl G M U H) : rho G (mZ M) = H.size := by rw [rho_big h.2.1, h.1]
theorem Rl.new {G : wG} {M : Mem} {U : State} {H H1 : Heap} {t : Nat × Nat} (h : Rl G M U H) (ht : t.1 < 8) (hz : H1.size = H.size + 1) (ho : ∀ q : Nat, q < H.size → H1[q]? = H[q]?) (hc : cellOk G (sN M t) (mZ M) U H1) {locs : List Loc} {H0 : Heap} (hS : va_S (gA G) H0 H locs) : Rl G (sN M t) U H1 ∧ va_S (gA G) H0 H1 locs := by
  have hZ : mZ (sN M t) = mZ M + 1 := rfl
  have h1 := h.1
  have h2 := h.2.1
  refine ⟨⟨by rw [hz, hZ]; omega, by rw [hZ]; omega, fun b hb => ?_⟩, Nat.le_trans hS.1 (by omega), fun q q1 q2 => (ho q (Nat.lt_of_lt_of_le q1 hS.1)).trans (hS.2.1 q q1 q2), hS.2.2⟩
  by_cases hbz : b = mZ M
  · subst hbz
    refine ⟨by rw [hZ]; omega, fun q => by omega, fun _ => ?_, hc⟩
    show (up1 M.1 M.2.1 t (mZ M)).1 < 8
    rw [show mZ M = M.2.1 from rfl, up1_s]; exact ht
  · have e1 : mT (sN M t) b = mT M b := up1_n hbz
    have e2 : mI (sN M t) b = mI M b := up1_n hbz
    have e3 : mL (sN M t) b = mL M b := up1_n hbz
    have e4 : mR (sN M t) b = mR M b := up1_n hbz
    rw [e1] at hb ⊢
    obtain ⟨g1, g2, g3, g4⟩ := h.2.2 b hb
    refine ⟨by rw [hZ]; omega, g2, g3, ?_⟩
    have hlt : rho G b < H.size := by
      by_cases h8 : b < 8
      · have := (g2 h8).2
        simp only [rho, h8, if_true]; omega
      · rw [rho_big (by omega)]; omega
    have k := g4.kept (ho _ hlt) (fun q hl _ => ho q hl)
    unfold cellOk at k ⊢
    unfold fval at k ⊢
    rw [e1, e2, e3, e4]
    exact k
theorem fk_le : ∀ (c : Nat) (q : vw_C), vwCl[c]? = some q → ∀ k, k < q.2.2 → fk (fty c k) ≤ 2 := by
  intro c q h
  match c, h with
  | 0, h => cases h; decide +kernel
  | 1, h => cases h; decide +kernel
  | 2, h => cases h; decide +kernel
  | 3, h => cases h; decide +kernel
  | 4, h => cases h; decide +kernel
  | 5, h => cases h; decide +kernel
  | 6, h => cases h; decide +kernel
  | 7, h => cases h; decide +kernel
  | 8, h => cases h; decide +kernel
  | 9, h => cases h; decide +kernel
  | 10, h => cases h; decide +kernel
  | 11, h => cases h; decide +kernel
  | 12, h => cases h; decide +kernel
  | k + 13, h => simp [vwCl] at h
/-- a class as an instruction names it -/
def CNk (own : String) (ix c N : Nat) : Prop := ∃ q : vw_C, vwCl[c]? = some q ∧ q.2.2 = N ∧ Jvm.Cond.classLink own ix q.1 ∈ gw ∧ Jvm.Cond.instantiable q.1 q.2.2 ∈ gw ∧ Jvm.Cond.initialized q.1 ∈ gw
section RN
variable {Y : YM} {R : Room} {F : wF} {c n pc : Nat} {lo : List (Option Value)} {st : List Value} {M : Mem} {β : Type} {P : β → Mem → Prop}
theorem r_new {ix cl N : Nat} {K : Option Nat → Mem → Option (β × Mem)} (hd : Y.2.2.1[pc]? = some (some (.new ix, 3))) (hf : CNk Y.1.cls ix cl N) (hr : c + 1 ≤ R.cells ∧ n + N ≤ R.slots) (h : FQ (nW M cl K) P) (kk : ∀ r M', FQ (K r M') P → wp Y R F (c + 1) (n + N) (pc + 3) lo (va_rf r :: st) M') : wp Y R F c n pc lo st M := by
  intro G p l e s m args below meth cd H locs ls C hR hS hl
  obtain ⟨q, hq, rfl, hw1, hw2, hw3⟩ := hf
  have hKn := C.kp.1.1 cl q hq
  obtain ⟨hin, hty, -⟩ := cls_ok cl q hq
  refine W.newcK C.x C.b C.own (C.ts _ hw1) (C.ts _ hw2) (C.ts _ hw3) rfl (C.d hd) hr.1 hr.2 hKn.2.1 rfl fun H1 kC hkC e1 z1 o1 => ?_
  obtain ⟨hR1, hS1⟩ := hR.new (t := (1, cl)) (by show 1 < 8; decide) z1 o1 (by
    unfold cellOk
    rw [show mT (sN M (1, cl)) (mZ M) = (1, cl) from up1_s]
    refine ⟨q, hq, (u_born (fty cl) C.ts hin hKn hkC (by rw [hR.top]; exact e1) hty).to (fun j hj => ?_)⟩
    have h2 := fk_le cl q hq j hj
    have e2 : mI (sN M (1, cl)) (mZ M) j = 0 := by show up1 M.2.2.1 M.2.1 _ M.2.1 j = 0; rw [up1_s]
    have e3 : mL (sN M (1, cl)) (mZ M) j = 0 := by show up1 M.2.2.2.1 M.2.1 _ M.2.1 j = 0; rw [up1_s]
    have e4 : mR (sN M (1, cl)) (mZ M) j = none := by show up1 M.2.2.2.2 M.2.1 _ M.2.1 j = none; rw [up1_s]
    unfold fval
    rw [e2, e3, e4]
    cases hft : fty cl j <;> rw [hft] at h2 <;> first | rfl | exact absurd h2 (by decide)) hS
  have k1 := kk _ _ h G p l e s m args below meth cd H1 locs ls C hR1 hS1 hl
  rw [List.map_cons, sh_rf, show rq G (some (mZ M)) = some (rho G (mZ M)) from rfl, hR.top] at k1
  exact k1
theorem nA_inv {t : Nat} {i : Int32} {bd : Nat} {K : Option Nat → Mem → Option (β × Mem)} (h : FQ (nA M t i bd K) P) : 0 ≤ i ∧ i.toNatClampNeg ≤ bd ∧ FQ (K (some (mZ M)) (sN M (t, i.toNatClampNeg))) P := by
  unfold nA at h
  by_cases hi : 0 ≤ i ∧ i.toNatClampNeg ≤ bd
  · rw [if_pos hi] at h; exact ⟨hi.1, hi.2, h⟩
  · rw [if_neg hi] at h; obtain ⟨b, M', h1, -⟩ := h; cases h1
theorem r_newa0 {K : Option Nat → Mem → Option (β × Mem)} {i : Int32} (t ti bd : Nat) (aty : ArrayType) (ty : FieldType) (mk : Nat → Nat → Value) (hd : Y.2.2.1[pc]? = some (some (.newarray aty, 2))) (hty : newarray.typeOf aty = ty) (ht8 : t < 8) (hprim : ∀ x, ty ≠ .object x) (htys : ∀ G : wG, (tysL G)[ti]? = some (G.2.2.2.2 t, ty)) (hw : Jvm.Cond.arrayClass ty ∈ gw) (hbd : bd * componentBytes ty ≤ 536870912) (hr : c + 1 ≤ R.cells ∧ n + bd ≤ R.slots)
    (hcell : ∀ (G : wG) (M : Mem) (N : Nat) (U : State) (H : Heap), H[rho G (mZ M)]? = some (arrV (G.2.2.2.2 t) N (fun _ => defaultValue ty)) → cellOk G (sN M (t, N)) (mZ M) U H)
    (h : FQ (nA M t i bd K) P) (kk : ∀ r M', FQ (K r M') P → wp Y R F (c + 1) (n + bd) (pc + 2) lo (va_rf r :: st) M') : wp Y R F c n pc lo (.int i :: st) M := by
  subst hty
  obtain ⟨hi0, hib, h⟩ := nA_inv h
  intro G p l e s m args below meth cd H locs ls C hR hS hl
  refine va_newaK C.x C.b (C.ts _ hw) rfl (C.d hd) rfl (fun q => absurd hi0 (Int32.not_le.mpr q)) rfl (Nat.le_trans (Nat.mul_le_mul_right _ hib) hbd) hr.1 (Nat.le_trans (Nat.add_le_add_left hib n) hr.2) rfl fun H1 cA e1 z1 o1 hAr hNm => ?_
  have hRA := (kA C ti (htys G)).2
  have hcA : cA = G.2.2.2.2 t := by
    have h2 : s.vm.findClass ("[" ++ (newarray.typeOf aty).toString) = some (G.2.2.2.2 t) := by
      cases hh : newarray.typeOf aty <;> first | (rw [hh] at hRA; exact hRA) | (exact absurd hh (hprim _)) 
    exact Option.some.inj (hNm.symm.trans h2)
  subst hcA
  obtain ⟨hR1, hS1⟩ := hR.new (t := (t, i.toNatClampNeg)) ht8 z1 o1 (hcell G M _ s H1 (by rw [hR.top]; exact e1)) hS
  refine W.widen (k := c + 1) (n := n + bd) (Nat.le_refl _) (Nat.add_le_add_left hib n) ?_
  have k1 := kk _ _ h G p l e s m args below meth cd H1 locs ls C hR1 hS1 hl
  rw [List.map_cons, sh_rf, show rq G (some (mZ M)) = some (rho G (mZ M)) from rfl, hR.top] at k1
  exact k1
theorem new_I {M : Mem} {t : Nat × Nat} {j : Nat} : mI (sN M t) (mZ M) j = 0 := by show up1 M.2.2.1 M.2.1 _ M.2.1 j = 0; rw [up1_s]
theorem new_L {M : Mem} {t : Nat × Nat} {j : Nat} : mL (sN M t) (mZ M) j = 0 := by show up1 M.2.2.2.1 M.2.1 _ M.2.1 j = 0; rw [up1_s]
theorem new_R {M : Mem} {t : Nat × Nat} {j : Nat} : mR (sN M t) (mZ M) j = none := by show up1 M.2.2.2.2 M.2.1 _ M.2.1 j = none; rw [up1_s]
theorem new_T {M : Mem} {t : Nat × Nat} : mT (sN M t) (mZ M) = t := up1_s
theorem r_newI {K : Option Nat → Mem → Option (β × Mem)} {i : Int32} (bd : Nat) (hd : Y.2.2.1[pc]? = some (some (.newarray .int, 2))) (hbd : bd * 4 ≤ 536870912) (hr : c + 1 ≤ R.cells ∧ n + bd ≤ R.slots) (h : FQ (nA M 2 i bd K) P) (kk : ∀ r M', FQ (K r M') P → wp Y R F (c + 1) (n + bd) (pc + 2) lo (va_rf r :: st) M') : wp Y R F c n pc lo (.int i :: st) M :=
  r_newa0 2 0 bd .int .int (fun _ _ => .int 0) hd rfl (by decide) (fun x h => by cases h) (fun _ => rfl) (gw_in 85 (by decide +kernel) (by decide +kernel)) hbd hr (fun G M N U H h => by unfold cellOk; rw [new_T]; show H[_]? = some (arrV _ _ (fun j => .int (mI (sN M (2, N)) (mZ M) j))); simp only [new_I]; exact h) h kk
theorem r_newL {K : Option Nat → Mem → Option (β × Mem)} {i : Int32} (bd : Nat) (hd : Y.2.2.1[pc]? = some (some (.newarray .long, 2))) (hbd : bd * 8 ≤ 536870912) (hr : c + 1 ≤ R.cells ∧ n + bd ≤ R.slots) (h : FQ (nA M 3 i bd K) P) (kk : ∀ r M', FQ (K r M') P → wp Y R F (c + 1) (n + bd) (pc + 2) lo (va_rf r :: st) M') : wp Y R F c n pc lo (.int i :: st) M :=
  r_newa0 3 1 bd .long .long (fun _ _ => .int 0) hd rfl (by decide) (fun x h => by cases h) (fun _ => rfl) (gw_in 234 (by decide +kernel) (by decide +kernel)) hbd hr (fun G M N U H h => by unfold cellOk; rw [new_T]; show H[_]? = some (arrV _ _ (fun j => .long (mL (sN M (3, N)) (mZ M) j))); simp only [new_L]; exact h) h kk
theorem r_newB {K : Option Nat → Mem → Option (β × Mem)} {i : Int32} (bd : Nat) (hd : Y.2.2.1[pc]? = some (some (.newarray .byte, 2))) (hbd : bd * 1 ≤ 536870912) (hr : c + 1 ≤ R.cells ∧ n + bd ≤ R.slots) (h : FQ (nA M 4 i bd K) P) (kk : ∀ r M', FQ (K r M') P → wp Y R F (c + 1) (n + bd) (pc + 2) lo (va_rf r :: st) M') : wp Y R F c n pc lo (.int i :: st) M :=
  r_newa0 4 2 bd .byte .byte (fun _ _ => .int 0) hd rfl (by decide) (fun x h => by cases h) (fun _ => rfl) (gw_in 688 (by decide +kernel) (by decide +kernel)) hbd hr (fun G M N U H h => by unfold cellOk; rw [new_T]; show H[_]? = some (arrV _ _ (fun j => .int (mI (sN M (4, N)) (mZ M) j))); simp only [new_I]; exact h) h kk
theorem r_newZ {K : Option Nat → Mem → Option (β × Mem)} {i : Int32} (bd : Nat) (hd : Y.2.2.1[pc]? = some (some (.newarray .boolean, 2))) (hbd : bd * 1 ≤ 536870912) (hr : c + 1 ≤ R.cells ∧ n + bd ≤ R.slots) (h : FQ (nA M 5 i bd K) P) (kk : ∀ r M', FQ (K r M') P → wp Y R F (c + 1) (n + bd) (pc + 2) lo (va_rf r :: st) M') : wp Y R F c n pc lo (.int i :: st) M :=
  r_newa0 5 3 bd .boolean .boolean (fun _ _ => .int 0) hd rfl (by decide) (fun x h => by cases h) (fun _ => rfl) (gw_in 1327 (by decide +kernel) (by decide +kernel)) hbd hr (fun G M N U H h => by unfold cellOk; rw [new_T]; show H[_]? = some (arrV _ _ (fun j => .int (mI (sN M (5, N)) (mZ M) j))); simp only [new_I]; exact h) h kk
theorem r_newq0 {K : Option Nat → Mem → Option (β × Mem)} {i : Int32} (t ti bd ix : Nat) (CN : String) (hd : Y.2.2.1[pc]? = some (some (.anewarray ix, 3))) (ht8 : t < 8) (hlink : Jvm.Cond.classLink Y.1.cls ix CN ∈ gw) (hover : ∀ (G : wG) (s : State), Kp G s → va_AO CN s) (htys : ∀ G : wG, (tysL G)[ti]? = some (G.2.2.2.2 t, .object CN)) (hbd : bd * 4 ≤ 536870912) (hr : c + 1 ≤ R.cells ∧ n + bd ≤ R.slots)
    (hcell : ∀ (G : wG) (M : Mem) (N : Nat) (U : State) (H : Heap), H[rho G (mZ M)]? = some (arrV (G.2.2.2.2 t) N (fun _ => .null)) → cellOk G (sN M (t, N)) (mZ M) U H)
    (h : FQ (nA M t i bd K) P) (kk : ∀ r M', FQ (K r M') P → wp Y R F (c + 1) (n + bd) (pc + 3) lo (va_rf r :: st) M') : wp Y R F c n pc lo (.int i :: st) M := by
  obtain ⟨hi0, hib, h⟩ := nA_inv h
  intro G p l e s m args below meth cd H locs ls C hR hS hl
  refine W.anew C.x C.b C.own (C.ts _ hlink) (va_AO.use (hover G s C.kp)) rfl (C.d hd) rfl (fun q => absurd hi0 (Int32.not_le.mpr q)) (Nat.le_trans (Nat.mul_le_mul_right _ hib) hbd) hr.1 (Nat.le_trans (Nat.add_le_add_left hib n) hr.2) fun cA kA' comp f1 f2 f3 f4 => ?_
  obtain ⟨kB, comp2, g1, g2, g3, g4⟩ := (kA C ti (htys G)).2
  have hcA : cA = G.2.2.2.2 t := Option.some.inj (f1.symm.trans g4)
  subst hcA
  generalize hH1 : H.push ({ cls := G.2.2.2.2 t, slots := Array.replicate i.toNatClampNeg .null, vm := .none } : Cell) = H1
  have z1 : H1.size = H.size + 1 := by rw [← hH1, Array.size_push]
  have e1 : H1[H.size]? = some (arrV (G.2.2.2.2 t) i.toNatClampNeg (fun _ => .null)) := by rw [← hH1, Array.getElem?_push_size, ← arrV_new]
  have o1 : ∀ q : Nat, q < H.size → H1[q]? = H[q]? := fun q hq => by rw [← hH1, Array.getElem?_push, if_neg (Nat.ne_of_lt hq)]
  obtain ⟨hR1, hS1⟩ := hR.new (t := (t, i.toNatClampNeg)) ht8 z1 o1 (hcell G M _ s H1 (by rw [hR.top]; exact e1)) hS
  refine W.widen (k := c + 1) (n := n + bd) (Nat.le_refl _) (Nat.add_le_add_left hib n) ?_
  have k1 := kk _ _ h G p l e s m args below meth cd H1 locs ls C hR1 hS1 hl
  rw [List.map_cons, sh_rf, show rq G (some (mZ M)) = some (rho G (mZ M)) from rfl, hR.top] at k1
  exact k1
theorem r_newq6 {K : Option Nat → Mem → Option (β × Mem)} {i : Int32} {ix : Nat} (bd : Nat) (hd : Y.2.2.1[pc]? = some (some (.anewarray ix, 3))) (hlink : Jvm.Cond.classLink Y.1.cls ix RX1 ∈ gw) (hbd : bd * 4 ≤ 536870912) (hr : c + 1 ≤ R.cells ∧ n + bd ≤ R.slots) (h : FQ (nA M 6 i bd K) P) (kk : ∀ r M', FQ (K r M') P → wp Y R F (c + 1) (n + bd) (pc + 3) lo (va_rf r :: st) M') : wp Y R F c n pc lo (.int i :: st) M :=
  r_newq0 6 4 bd ix RX1 hd (by decide) hlink (fun _ _ k => k.2.1) (fun _ => rfl) hbd hr (fun G M N U H h => by unfold cellOk; rw [new_T]; show H[_]? = some (arrV _ _ (fun j => va_rf (rq G (mR (sN M (6, N)) (mZ M) j)))); simp only [new_R]; exact h) h kk
theorem r_newq7 {K : Option Nat → Mem → Option (β × Mem)} {i : Int32} {ix : Nat} (bd : Nat) (hd : Y.2.2.1[pc]? = some (some (.anewarray ix, 3))) (hlink : Jvm.Cond.classLink Y.1.cls ix RX6 ∈ gw) (hbd : bd * 4 ≤ 536870912) (hr : c + 1 ≤ R.cells ∧ n + bd ≤ R.slots) (h : FQ (nA M 7 i bd K) P) (kk : ∀ r M', FQ (K r M') P → wp Y R F (c + 1) (n + bd) (pc + 3) lo (va_rf r :: st) M') : wp Y R F c n pc lo (.int i :: st) M :=
  r_newq0 7 5 bd ix RX6 hd (by decide) hlink (fun _ _ k => k.2.2.1) (fun _ => rfl) hbd hr (fun G M N U H h => by unfold cellOk; rw [new_T]; show H[_]? = some (arrV _ _ (fun j => va_rf (rq G (mR (sN M (7, N)) (mZ M) j)))); simp only [new_R]; exact h) h kk
end RN
