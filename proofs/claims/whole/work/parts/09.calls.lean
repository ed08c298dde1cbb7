/-! ===== statics, texts, the copy; the end of a body; calls ===== -/
def gS {β : Type} (M : Mem) (r : Option Nat) (K : Option Nat → Option β) : Option β := match r with
  | some a => if (mT M a).1 = 9 then K (mR M a 0) else none
  | none => none
def gSc {β : Type} (M : Mem) (r : Option Nat) (K : Int32 → Option β) : Option β := match r with
  | some a => if (mT M a).1 = 9 then K (mI M a 1) else none
  | none => none
def cP {β : Type} (M : Mem) (r0 : Option Nat) (sp : Int32) (r1 : Option Nat) (dp m : Int32) (K : Mem → Option β) : Option β := match r0, r1 with
  | some a, some b => if (mT M a).1 = 2 ∧ (mT M b).1 = 2 ∧ 0 ≤ sp ∧ 0 ≤ dp ∧ 0 ≤ m ∧ sp.toNatClampNeg + m.toNatClampNeg ≤ (mT M a).2 ∧ dp.toNatClampNeg + m.toNatClampNeg ≤ (mT M b).2 then K (sC M b (va_cpy (mI M a) (mI M b) sp.toNatClampNeg dp.toNatClampNeg m.toNatClampNeg)) else none
  | _, _ => none
def rmD (d mc ms : Nat) : Room := { frames := d, cells := mc, slots := ms, locals := 64 * d }
def wsY (Y : YM) : List Cond := .code Y.1 Y.2.1 Y.2.2.2.1 Y.2.2.2.2 :: gw
def QQ (G : wG) (Q : Option Value → Mem → Prop) : Array Value → State → Outcome → State → Prop := fun _ st o t => (∃ (v : Option Value) (M' : Mem), o = .returned (v.map (sh G)) ∧ Q v M' ∧ Rl G M' t t.heap) ∧ va_F (gA G) st t
def PP (G : wG) (M : Mem) (U : State) : Prop := Rl G M U U.heap ∧ Kp G U ∧ Sp G U U.heap ∧ G.1 ≤ U.heap.size
def Con (Y : YM) (d mc ms : Nat) (vs : List Value) (M : Mem) (Q : Option Value → Mem → Prop) : Prop :=
  ∀ (l : Launch) (G : wG), Met l Y.1 (wsY Y) (rmD d mc ms) (va_Pc (vs.map (sh G)) (PP G M)) (QQ G Q) mc ms (gA G)
def FM (Q : Option Value → Mem → Prop) (mc ms : Nat) : wF := fun G below args s => MQ below (QQ G Q) args s mc ms (gA G)
def QI (Q : Int32 → Mem → Prop) : Option Value → Mem → Prop := fun v M => ∃ b, v = some (.int b) ∧ Q b M
def QL (Q : Int64 → Mem → Prop) : Option Value → Mem → Prop := fun v M => ∃ b, v = some (.long b) ∧ Q b M
def QR (Q : Option Nat → Mem → Prop) : Option Value → Mem → Prop := fun v M => ∃ b, v = some (va_rf b) ∧ Q b M
def QV (Q : Unit → Mem → Prop) : Option Value → Mem → Prop := fun v M => v = none ∧ Q () M
/-- the locals at a body's entry -/
def loE (nL : Nat) (vs : List Value) : List (Option Value) := (vs.flatMap fun v => if v.category = 2 then [some v, none] else [some v]) ++ List.replicate (nL - (vs.flatMap fun v => if v.category = 2 then [some v, none] else [some v]).length) none
theorem loE_at {G : wG} : ∀ (vs : List Value) (b i : Nat) (v : Value), (vs.flatMap fun v => if v.category = 2 then [some v, none] else [some v])[i]? = some (some v) → (b + i, sh G v) ∈ lv_args b (vs.map (sh G)) := by
  intro vs
  induction vs with
  | nil => intro b i v h; simp at h
  | cons w vs ih =>
    intro b i v h
    rw [List.flatMap_cons] at h
    rw [List.map_cons]
    unfold lv_args
    rw [sh_cat]
    by_cases hc : w.category = 2
    · simp only [hc, if_true] at h ⊢
      match i, h with
      | 0, h => simp at h; subst h; exact List.mem_cons_self
      | 1, h => simp at h
      | j + 2, h =>
        have h' : (vs.flatMap fun v => if v.category = 2 then [some v, none] else [some v])[j]? = some (some v) := by simpa using h
        have := ih (b + 2) j v h'
        rw [show b + 2 + j = b + (j + 2) by omega] at this
        exact List.mem_cons_of_mem _ this
    · simp only [hc, if_false] at h ⊢
      match i, h with
      | 0, h => simp at h; subst h; exact List.mem_cons_self
      | j + 1, h =>
        have h' : (vs.flatMap fun v => if v.category = 2 then [some v, none] else [some v])[j]? = some (some v) := by simpa using h
        have := ih (b + 1) j v h'
        rw [show b + 1 + j = b + (j + 1) by omega] at this
        exact List.mem_cons_of_mem _ this
theorem loE_len (G : wG) : ∀ vs : List Value, (lg_sl (vs.map (sh G))).length = (vs.flatMap fun v => if v.category = 2 then [some v, none] else [some v]).length := by
  intro vs
  induction vs with
  | nil => rfl
  | cons w vs ih =>
    unfold lg_sl at ih ⊢
    rw [List.map_cons, List.flatMap_cons, List.flatMap_cons, List.length_append, List.length_append, ih, sh_cat]
    by_cases hc : w.category = 2 <;> simp [hc]
theorem loE_lvh {G : wG} {nL : Nat} {vs : List Value} (hn : (vs.flatMap fun v => if v.category = 2 then [some v, none] else [some v]).length ≤ nL) : lvh G nL (loE nL vs) ((lg_sl (vs.map (sh G)) ++ List.replicate (nL - (lg_sl (vs.map (sh G))).length) Slot.unset).toArray) := by
  have h := lv_entry (vs.map (sh G)) (n := nL) (by rw [loE_len]; exact hn)
  refine ⟨h.1, h.2.1, fun i v hi => ?_⟩
  have hm : (i, sh G v) ∈ lv_args 0 (vs.map (sh G)) := by
    unfold loE at hi
    by_cases hl : i < (vs.flatMap fun v => if v.category = 2 then [some v, none] else [some v]).length
    · rw [List.getElem?_append_left hl] at hi
      have := loE_at (G := G) vs 0 i v hi
      rwa [Nat.zero_add] at this
    · rw [List.getElem?_append_right (by omega)] at hi
      have := List.mem_of_getElem? hi
      have := List.eq_of_mem_replicate this
      cases this
  exact h.2.2 _ hm
theorem PP.blind {G : wG} {M : Mem} {vs : List Value} : FrameBlind (va_Pc vs (PP G M)) := by
  intro a U g mk h
  exact ⟨h.1, h.2.1.moved (Vm.Alike.refl _), h.2.2.1.same rfl, h.2.2.2.1.moved (Vm.Alike.refl _), h.2.2.2.2⟩
/-- a contract out of the run of the body -/
theorem Con.of {Y : YM} {d mc ms : Nat} {vs : List Value} {M : Mem} {Q : Option Value → Mem → Prop} (lo : List (Option Value)) (hy : plainName Y.1.cls = true) (hdec : ∀ pc i, Y.2.2.1[pc]? = some (some i) → decode Y.2.1 pc = .ok i) (hn : Nat.ble (vs.flatMap fun v => if v.category = 2 then [some v, none] else [some v]).length Y.2.2.2.1 = true) (hlo : loE Y.2.2.2.1 vs = lo)
    (h : wp Y (rmD d mc ms) (FM Q mc ms) 0 0 0 lo [] M) : Con Y d mc ms vs M Q := by
  intro l G
  refine Met.ofW (cc := Y.2.1) (maxL := Y.2.2.2.1) (ret := Y.2.2.2.2) hy rfl ?_
  intro p e s m args below meth cd s₁ B hml hP
  obtain ⟨rfl, hR, hK, hSp, hge⟩ := hP
  have hts := atoms_spec (ws := wsY Y) B.pre
  have hown : s.vm.findClass Y.1.cls = some m.cls := findClass_of_methodNamed B.named
  have C : wpK Y G p s m (vs.map (sh G)).toArray meth cd := ⟨B.exec, B.bytes, hml, B.returns, B.notSynchronized, hown, fun w hw => hts w (List.mem_cons_of_mem _ hw), hK, hSp, fun hh => (name_of_methodNamed B.named B.method).1.trans hh, hdec, hge⟩
  rw [lg_entry_eq]
  have hl := loE_lvh (G := G) (nL := Y.2.2.2.1) (vs := vs) (Nat.le_of_ble_eq_true hn)
  rw [hlo] at hl
  exact h G p l e s m _ below meth cd s.heap [] _ C hR va_S.rf hl
section RE
variable {Y : YM} {R : Room} {F : wF} {c n pc : Nat} {lo : List (Option Value)} {st : List Value} {M : Mem} {β : Type} {P : β → Mem → Prop} {mc ms : Nat}
theorem QQ.mk {G : wG} {Q : Option Value → Mem → Prop} {v : Option Value} {H : Heap} {s t : State} {locs : List Loc} {a : Array Value} (ht : t.heap = H) (hW : s.WarmedH t.vm) (hq : Q v M) (hR : Rl G M s H) (hS : va_S (gA G) s.heap H locs) : QQ G Q a s (.returned (v.map (sh G))) t :=
  ⟨⟨v, M, rfl, hq, by rw [ht]; exact hR.moved hW.alike⟩, hS.F ht⟩
theorem r_iret {x : Int32} {Q : Int32 → Mem → Prop} (hd : Y.2.2.1[pc]? = some (some (.ireturn, 1))) (hr : Y.2.2.2.2 = some .int) (hc : c ≤ mc ∧ n ≤ ms) (h : FQ (some (x, M)) Q) : wp Y R (FM (QI Q) mc ms) c n pc lo [.int x] M := by
  obtain ⟨b, M', e1, hq⟩ := h
  cases e1
  intro G p l e s m args below meth cd H locs ls C hR hS hl
  exact W.widen hc.1 hc.2 (W.iret C.x C.b (C.2.2.2.1.trans hr) (fun t ht hW => QQ.mk (v := some (.int x)) ht hW ⟨x, rfl, hq⟩ hR hS) hS.2.2 (C.d hd) C.2.2.2.2.1)
theorem r_zret {x : Int32} {Q : Int32 → Mem → Prop} (hd : Y.2.2.1[pc]? = some (some (.ireturn, 1))) (hr : Y.2.2.2.2 = some .boolean) (hc : c ≤ mc ∧ n ≤ ms) (h : FQ (tv x (some (x, M))) Q) : wp Y R (FM (QI Q) mc ms) c n pc lo [.int x] M := by
  unfold tv at h
  by_cases hx : x = 0 ∨ x = 1
  · rw [if_pos hx] at h
    obtain ⟨b, M', e1, hq⟩ := h
    cases e1
    intro G p l e s m args below meth cd H locs ls C hR hS hl
    exact W.widen hc.1 hc.2 (W.zret C.x C.b (C.2.2.2.1.trans hr) (by rcases hx with rfl | rfl <;> rfl) (fun t ht hW => QQ.mk (v := some (.int x)) ht hW ⟨x, rfl, hq⟩ hR hS) hS.2.2 (C.d hd) C.2.2.2.2.1)
  · rw [if_neg hx] at h; obtain ⟨b, M', h1, -⟩ := h; cases h1
/-- a char's return: what fits into sixteen bits -/
def cv {β : Type} (y : Int32) (K : Option β) : Option β := if (y.toUInt32 % 65536).toInt32 = y then K else none
theorem r_cret {x : Int32} {Q : Int32 → Mem → Prop} (hd : Y.2.2.1[pc]? = some (some (.ireturn, 1))) (hr : Y.2.2.2.2 = some .char) (hc : c ≤ mc ∧ n ≤ ms) (h : FQ (cv x (some (x, M))) Q) : wp Y R (FM (QI Q) mc ms) c n pc lo [.int x] M := by
  unfold cv at h
  by_cases hx : (x.toUInt32 % 65536).toInt32 = x
  · rw [if_pos hx] at h
    obtain ⟨b, M', e1, hq⟩ := h
    cases e1
    intro G p l e s m args below meth cd H locs ls C hR hS hl
    exact W.widen hc.1 hc.2 (W.zret C.x C.b (C.2.2.2.1.trans hr) (by have := pk_nc x; rw [hx] at this; exact this) (fun t ht hW => QQ.mk (v := some (.int x)) ht hW ⟨x, rfl, hq⟩ hR hS) hS.2.2 (C.d hd) C.2.2.2.2.1)
  · rw [if_neg hx] at h; obtain ⟨b, M', h1, -⟩ := h; cases h1
theorem r_lret {x : Int64} {Q : Int64 → Mem → Prop} (hd : Y.2.2.1[pc]? = some (some (.lreturn, 1))) (hr : Y.2.2.2.2 = some .long) (hc : c ≤ mc ∧ n ≤ ms) (h : FQ (some (x, M)) Q) : wp Y R (FM (QL Q) mc ms) c n pc lo [.long x] M := by
  obtain ⟨b, M', e1, hq⟩ := h
  cases e1
  intro G p l e s m args below meth cd H locs ls C hR hS hl
  exact W.widen hc.1 hc.2 (W.lret C.x C.b (C.2.2.2.1.trans hr) (fun t ht hW => QQ.mk (v := some (.long x)) ht hW ⟨x, rfl, hq⟩ hR hS) hS.2.2 (C.d hd) C.2.2.2.2.1)
theorem r_vret {Q : Unit → Mem → Prop} (hd : Y.2.2.1[pc]? = some (some (.return_, 1))) (hr : Y.2.2.2.2 = none) (hc : c ≤ mc ∧ n ≤ ms) (h : FQ (some ((), M)) Q) : wp Y R (FM (QV Q) mc ms) c n pc lo [] M := by
  obtain ⟨b, M', e1, hq⟩ := h
  cases e1
  intro G p l e s m args below meth cd H locs ls C hR hS hl
  exact W.widen hc.1 hc.2 (W.vret C.x C.b (C.2.2.2.1.trans hr) (fun t ht hW => QQ.mk (v := none) ht hW ⟨rfl, hq⟩ hR hS) hS.2.2 (C.d hd) C.2.2.2.2.1)
theorem r_aret {x : Option Nat} {Q : Option Nat → Mem → Prop} {CN : String} (hd : Y.2.2.1[pc]? = some (some (.areturn, 1))) (hr : Y.2.2.2.2 = some (.object CN)) (hc : c ≤ mc ∧ n ≤ ms) (h : FQ (some (x, M)) Q) : wp Y R (FM (QR Q) mc ms) c n pc lo [va_rf x] M := by
  obtain ⟨b, M', e1, hq⟩ := h
  cases e1
  intro G p l e s m args below meth cd H locs ls C hR hS hl
  exact W.widen hc.1 hc.2 (W.aret C.x C.b (C.2.2.2.1.trans hr) (Or.inl ⟨_, rfl⟩) (by rw [sh_rf]; cases x; exact Or.inl rfl; exact Or.inr ⟨_, rfl⟩) (fun t ht hW => QQ.mk (v := some (va_rf x)) ht hW ⟨x, rfl, hq⟩ hR hS) hS.2.2 (C.d hd) C.2.2.2.2.1)
/-- statics and texts -/
theorem r_getsT {ix : Nat} (hd : Y.2.2.1[pc]? = some (some (.getstatic ix, 3))) (hf : Jvm.Cond.fieldLink Y.1.cls ix RX5 "SIGN_TOKENS" "[I" ∈ gw) (k : wp Y R F c n (pc + 3) lo (va_rf (some 1) :: st) M) : wp Y R F c n pc lo st M := by
  intro G p l e s m args below meth cd H locs ls C hR hS hl
  exact va_gets C.x C.b C.sp.1 hS C.own (C.ts _ hf) (fun _ h => h) (C.d hd) (k G p l e s m args below meth cd H locs ls C hR hS hl)
theorem r_getsC {ix : Nat} (hd : Y.2.2.1[pc]? = some (some (.getstatic ix, 3))) (hf : Jvm.Cond.fieldLink Y.1.cls ix "java/lang/String" "COMPACT_STRINGS" "Z" ∈ gw) (k : wp Y R F c n (pc + 3) lo (.int 1 :: st) M) : wp Y R F c n pc lo st M := by
  intro G p l e s m args below meth cd H locs ls C hR hS hl
  exact va_gets C.x C.b C.sp.2 hS C.own (C.ts _ hf) (fun _ h => h) (C.d hd) (k G p l e s m args below meth cd H locs ls C hR hS hl)
theorem r_ldcS1 (hY : Y.1.cls = RX5) (hd : Y.2.2.1[pc]? = some (some (.ldc 138, 2))) (k : wp Y R F c n (pc + 2) lo (va_rf (some 2) :: st) M) : wp Y R F c n pc lo st M := by
  intro G p l e s m args below meth cd H locs ls C hR hS hl
  exact va_ldcS C.x C.b (hY ▸ C.own) C.kp.2.2.2.2.1 (C.d hd) (k G p l e s m args below meth cd H locs ls C hR hS hl)
theorem r_ldcS2 (hY : Y.1.cls = RX5) (hd : Y.2.2.1[pc]? = some (some (.ldc 148, 2))) (k : wp Y R F c n (pc + 2) lo (va_rf (some 3) :: st) M) : wp Y R F c n pc lo st M := by
  intro G p l e s m args below meth cd H locs ls C hR hS hl
  exact va_ldcS C.x C.b (hY ▸ C.own) C.kp.2.2.2.2.2 (C.d hd) (k G p l e s m args below meth cd H locs ls C hR hS hl)
theorem r_gS {r : Option Nat} {ix : Nat} {K : Option Nat → Option (β × Mem)} (hd : Y.2.2.1[pc]? = some (some (.getfield ix, 3))) (hf : Jvm.Cond.fieldLink Y.1.cls ix "java/lang/String" "value" "[B" ∈ gw) (h : FQ (gS M r K) P) (kk : ∀ v, FQ (K v) P → wp Y R F c n (pc + 3) lo (va_rf v :: st) M) : wp Y R F c n pc lo (va_rf r :: st) M := by
  cases r with
  | none => obtain ⟨b, M', h1, -⟩ := h; cases h1
  | some a =>
    unfold gS at h
    by_cases hT : (mT M a).1 = 9
    · dsimp only at h; rw [if_pos hT] at h
      intro G p l e s m args below meth cd H locs ls C hR hS hl
      have hc := (hR.cell hT (by decide)).2
      unfold cellOk at hc
      rw [hT] at hc
      obtain ⟨cf, k, fi, f, cell, h1, h2, h3, h4, h5, h6⟩ := hc.2.2
      have k1 := kk _ h G p l e s m args below meth cd H locs ls C hR hS hl
      rw [List.map_cons, sh_rf] at k1
      exact W.getf C.x C.b C.own (C.ts _ hf) h1 h2 h3 h4 h5 rfl rfl (C.d hd) k1
    · dsimp only at h; rw [if_neg hT] at h; obtain ⟨b, M', h1, -⟩ := h; cases h1
theorem r_gSc {r : Option Nat} {ix : Nat} {K : Int32 → Option (β × Mem)} (hd : Y.2.2.1[pc]? = some (some (.getfield ix, 3))) (hf : Jvm.Cond.fieldLink Y.1.cls ix "java/lang/String" "coder" "B" ∈ gw) (h : FQ (gSc M r K) P) (kk : ∀ v, FQ (K v) P → wp Y R F c n (pc + 3) lo (.int v :: st) M) : wp Y R F c n pc lo (va_rf r :: st) M := by
  cases r with
  | none => obtain ⟨b, M', h1, -⟩ := h; cases h1
  | some a =>
    unfold gSc at h
    by_cases hT : (mT M a).1 = 9
    · dsimp only at h; rw [if_pos hT] at h
      intro G p l e s m args below meth cd H locs ls C hR hS hl
      have hc := (hR.cell hT (by decide)).2
      unfold cellOk at hc
      rw [hT] at hc
      obtain ⟨cf, k, fi, f, cell, h1, h2, h3, h4, h5, h6⟩ := hc.2.1
      exact W.getf C.x C.b C.own (C.ts _ hf) h1 h2 h3 h4 h5 rfl rfl (C.d hd) (kk _ h G p l e s m args below meth cd H locs ls C hR hS hl)
    · dsimp only at h; rw [if_neg hT] at h; obtain ⟨b, M', h1, -⟩ := h; cases h1
end RE
