/-! ===== calls ===== -/
def okY (Z : YM) : Prop := Jvm.Cond.code Z.1 Z.2.1 Z.2.2.2.1 Z.2.2.2.2 ∈ gw ∧ Jvm.Cond.initialized Z.1.cls ∈ gw ∧ Z.1.cls ≠ "java/lang/invoke/MethodHandle" ∧ Z.1.cls ≠ "java/lang/invoke/VarHandle"
def MLv (own : String) (ix : Nat) (Z : YM) (k : Nat) : Prop := Jvm.Cond.methodLink own ix Z.1 ∈ gw ∧ Jvm.Cond.instanceMethod Z.1 ∈ gw ∧ Jvm.Cond.selects Z.1.cls Z.1 Z.1 ∈ gw ∧ okY Z ∧ (parseMethodDescriptor Z.1.desc).map (fun d => d.parameters.length) = some k
def MLs (own : String) (ix : Nat) (Z : YM) (k : Nat) : Prop := Jvm.Cond.methodLink own ix Z.1 ∈ gw ∧ Jvm.Cond.static Z.1 ∈ gw ∧ okY Z ∧ (parseMethodDescriptor Z.1.desc).map (fun d => d.parameters.length) = some k
def MLi (own : String) (ix : Nat) (Z : YM) (k : Nat) : Prop := Jvm.Cond.methodLink own ix Z.1 ∈ gw ∧ Jvm.Cond.instanceMethod Z.1 ∈ gw ∧ Z.1.name = "<init>" ∧ Z.2.2.2.2 = none ∧ okY Z ∧ (parseMethodDescriptor Z.1.desc).map (fun d => d.parameters.length) = some k
theorem gw_gi {Z : YM} (h : okY Z) : GoodIn gw (wsY Z) := by
  intro w hw
  unfold wsY at hw
  rcases List.mem_cons.mp hw with rfl | hw
  · exact ⟨h.1, good_of_word (gw_good _ h.1)⟩
  · exact ⟨hw, good_of_word (gw_good _ hw)⟩
def rOk (R : Room) (Z : YM) (d : Nat) : Prop := d + 1 ≤ R.frames ∧ 8 + (Z.2.2.2.1 + 11) + 64 * d ≤ R.locals
theorem rOk.of {Z : YM} {d mc ms : Nat} (h : Nat.ble Z.2.2.2.1 45 = true) : rOk (rmD (d + 1) mc ms) Z d := by
  have h := Nat.le_of_ble_eq_true h
  exact ⟨Nat.le_refl _, by show 8 + (Z.2.2.2.1 + 11) + 64 * d ≤ 64 * (d + 1); omega⟩
theorem cat_le (v : Value) : v.category ≤ 2 := by rcases lv_cat v with h | h <;> omega
theorem cats_le (G : wG) : ∀ st : List Value, ((st.map (sh G)).map fun v => v.category).sum ≤ 2 * st.length := by
  intro st
  induction st with
  | nil => exact Nat.le_refl _
  | cons v st ih =>
    rw [List.map_cons, List.map_cons, List.sum_cons, List.length_cons]
    have := cat_le (sh G v)
    omega
section RC
variable {p : Program} {l : Launch} {e : Env} {R : Room} {s : State} {m : MethodId} {args : Array Value} {below : List Frame} {meth : Method} {cd : Code} {H : Heap} {locs : List Loc} {c n : Nat} {Q : State → Prop} {G : wG} {M : Mem}
theorem call_go {Q' : Option Value → Mem → Prop} {a : Array Value} {mc ms pc : Nat} {ls : Array Slot} {st0 rest : List Value} (hr : va_Run p l e R s m args below meth cd H locs c n mc ms (F0 m pc ls st0) rest (QQ G Q' a) (gA G)) (hS : va_S (gA G) s.heap H locs)
    (kk : ∀ (v : Option Value) (M' : Mem) (H1 : Heap) (locs1 : List Loc), Q' v M' → Rl G M' s H1 → va_S (gA G) s.heap H1 locs1 → W p l e R s m args below meth cd H1 locs1 (c + mc) (n + ms) Q (F0 m (pc + 3) ls ((v.map (sh G)).toList ++ rest))) : W p l e R s m args below meth cd H locs c n Q (F0 m pc ls st0) := by
  intro T hT X
  obtain ⟨v, st₀, t, T', L, h0, X', hL, e1, e2, ⟨⟨w, M', hv, hq, hR1⟩, hz, hk⟩, st⟩ := hr T hT X
  cases hv
  rw [h0] at hz hk
  have hal : s.vm.Alike t.vm := by rw [← e2]; exact X'.warmed.alike
  obtain ⟨t2, a1, b1⟩ := kk w M' T'.heap (locs ++ L) hq (by rw [e1]; exact hR1.moved hal.symm)
    ⟨Nat.le_trans hS.1 (by rw [e1]; exact hz), fun q h1 h2 => by rw [e1, hk q (Nat.lt_of_lt_of_le h1 hS.1) h2]; exact hS.2.1 q h1 h2, fun q hq => by
      rcases List.mem_append.mp hq with h | h
      · exact hS.2.2 q h
      · exact hL q h⟩ T' rfl X'
  exact ⟨t2, st t2 a1, b1⟩
theorem PP.of {Y : YM} (C : wpK Y G p s m args meth cd) (hR : Rl G M s H) (hS : va_S (gA G) s.heap H locs) : ∀ U : State, U.heap = H → s.WarmedH U.vm → PP G M U := by
  intro U hU hW
  refine ⟨by rw [hU]; exact hR.moved hW.alike, C.kp.warm hW, ?_, by rw [hU]; exact Nat.le_trans C.ge hS.1⟩
  rw [hU]
  exact (C.sp.kept (fun a h1 h2 => hS.2.1 a h1 h2)).moved hW.alike
end RC
theorem stk_map {G : wG} {vs st : List Value} {a : Nat} : (vs.reverse ++ .ref a :: st).map (sh G) = (vs.map (sh G)).reverse ++ .ref (rho G a) :: st.map (sh G) := by
  rw [List.map_append, List.map_reverse]; rfl
theorem stk_mapS {G : wG} {vs st : List Value} : (vs.reverse ++ st).map (sh G) = (vs.map (sh G)).reverse ++ st.map (sh G) := by
  rw [List.map_append, List.map_reverse]
section RC2
variable {Y Z : YM} {R : Room} {F : wF} {c n pc d mc ms k ix : Nat} {lo : List (Option Value)} {st st0 vs : List Value} {M : Mem} {γ : Type} {P : γ → Mem → Prop}
theorem r_cv0 {a : Nat} {Q' : Option Value → Mem → Prop} (recv : ∀ (G : wG) (s : State) (H : Heap), Rl G M s H → Kp G s → ∃ cellB : Cell, H[rho G a]? = some cellB ∧ cellB.vm.isStatics = false ∧ s.vm.findClass Z.1.cls = some cellB.cls) (hd : Y.2.2.1[pc]? = some (some (.invokevirtual ix, 3))) (hm : MLv Y.1.cls ix Z k) (hR : rOk R Z d) (hcap : c + mc ≤ R.cells ∧ n + ms ≤ R.slots) (hst : Nat.ble st.length 4 = true) (hn : vs.length = k) (hC : Con Z d mc ms (.ref a :: vs) M Q') (kk : ∀ v M', Q' v M' → wp Y R F (c + mc) (n + ms) (pc + 3) lo (v.toList ++ st) M') : wp Y R F c n pc lo (vs.reverse ++ .ref a :: st) M := by
  intro G p l e s m args below meth cd H locs ls C hR1 hS hl
  obtain ⟨w1, w2, w3, hok, hpar⟩ := hm
  rw [stk_map]
  have hGi : GoodIn gw (wsV Y.1.cls ix Z.1.cls Z.1 (wsY Z)) := by
    intro w hw
    unfold wsV at hw
    rcases List.mem_append.mp hw with h | h
    · simp only [List.mem_cons, List.not_mem_nil, or_false] at h
      rcases h with rfl | rfl | rfl | rfl
      · exact ⟨w1, good_of_word (gw_good _ w1)⟩
      · exact ⟨w2, good_of_word (gw_good _ w2)⟩
      · exact ⟨w3, good_of_word (gw_good _ w3)⟩
      · exact ⟨hok.2.1, good_of_word (gw_good _ hok.2.1)⟩
    · exact gw_gi hok w h
  refine call_go (va_runV (As := vs.map (sh G)) (rest := st.map (sh G)) ⟨C.x, C.b, C.2.2.1, C.own, C.ts⟩ (hC l G) (cwV (ret := Z.2.2.2.2) k C.ts hGi rfl rfl rfl ⟨rfl, hok.2.2.1, hok.2.2.2, hpar⟩ ⟨hR.1, hR.2⟩) ⟨PP.blind, recv G s H hR1 C.kp, fun U hU hW => ⟨rfl, PP.of C hR1 hS U hU hW⟩⟩ rfl (by rw [List.length_map]; exact hn) hl.1 rfl (lv_room (Nat.le_trans (cats_le G st) (by have := Nat.le_of_ble_eq_true hst; omega))) (C.d hd) hcap) hS (fun v M' H1 locs1 hq hR2 hS2 => ?_)
  have k1 := kk v M' hq G p l e s m args below meth cd H1 locs1 ls C hR2 hS2 hl
  rw [List.map_append] at k1
  cases v <;> exact k1
theorem r_cs0 {Q' : Option Value → Mem → Prop} (hd : Y.2.2.1[pc]? = some (some (.invokestatic ix, 3))) (hm : MLs Y.1.cls ix Z k) (hR : rOk R Z d) (hcap : c + mc ≤ R.cells ∧ n + ms ≤ R.slots) (hst : Nat.ble st.length 4 = true) (hn : vs.length = k) (hC : Con Z d mc ms vs M Q') (kk : ∀ v M', Q' v M' → wp Y R F (c + mc) (n + ms) (pc + 3) lo (v.toList ++ st) M') : wp Y R F c n pc lo (vs.reverse ++ st) M := by
  intro G p l e s m args below meth cd H locs ls C hR1 hS hl
  obtain ⟨w1, w2, hok, hpar⟩ := hm
  rw [stk_mapS]
  have hGi : GoodIn gw (va_wsS Y.1.cls ix Z.1 (wsY Z)) := by
    intro w hw
    unfold va_wsS at hw
    rcases List.mem_append.mp hw with h | h
    · simp only [List.mem_cons, List.not_mem_nil, or_false] at h
      rcases h with rfl | rfl | rfl
      · exact ⟨w1, good_of_word (gw_good _ w1)⟩
      · exact ⟨w2, good_of_word (gw_good _ w2)⟩
      · exact ⟨hok.2.1, good_of_word (gw_good _ hok.2.1)⟩
    · exact gw_gi hok w h
  refine call_go (va_runS (As := vs.map (sh G)) (rest := st.map (sh G)) ⟨C.x, C.b, C.2.2.1, C.own, C.ts⟩ (hC l G) (va_cwS (ret := Z.2.2.2.2) k C.ts hGi rfl rfl rfl ⟨hok.2.2.1, hok.2.2.2, hpar⟩ ⟨hR.1, hR.2⟩) ⟨PP.blind, fun U hU hW => ⟨rfl, PP.of C hR1 hS U hU hW⟩⟩ rfl (by rw [List.length_map]; exact hn) hl.1 rfl (lv_room (Nat.le_trans (cats_le G st) (by have := Nat.le_of_ble_eq_true hst; omega))) (C.d hd) hcap) hS (fun v M' H1 locs1 hq hR2 hS2 => ?_)
  have k1 := kk v M' hq G p l e s m args below meth cd H1 locs1 ls C hR2 hS2 hl
  rw [List.map_append] at k1
  cases v <;> exact k1
/-- the one call of a nest mate's private method -/
theorem r_cn0 {Q' : Option Value → Mem → Prop} (hY : Y.1.cls = RX6) (hZ : Z.1 = y_nest) (hd : Y.2.2.1[pc]? = some (some (.invokestatic 50, 3))) (hm : Jvm.Cond.static Z.1 ∈ gw ∧ okY Z ∧ (parseMethodDescriptor Z.1.desc).map (fun d => d.parameters.length) = some k) (hR : rOk R Z d) (hcap : c + mc ≤ R.cells ∧ n + ms ≤ R.slots) (hst : Nat.ble st.length 4 = true) (hn : vs.length = k) (hC : Con Z d mc ms vs M Q') (kk : ∀ v M', Q' v M' → wp Y R F (c + mc) (n + ms) (pc + 3) lo (v.toList ++ st) M') : wp Y R F c n pc lo (vs.reverse ++ st) M := by
  intro G p l e s m args below meth cd H locs ls C hR1 hS hl
  obtain ⟨w2, hok, hpar⟩ := hm
  rw [stk_mapS]
  have hown : s.vm.findClass RX6 = some m.cls := hY ▸ C.own
  refine call_go (va_runSN (own := RX6) (host := RX11) (As := vs.map (sh G)) (rest := st.map (sh G)) ⟨C.x, C.b, C.2.2.1, hown, C.ts⟩ (hC l G) ⟨va_cnB (ret := Z.2.2.2.2) k C.ts (gw_gi hok) rfl rfl rfl (by rw [hZ]; exact C.kp.2.2.2.1) (C.ts _ hok.2.1) ⟨hok.2.2.1, hok.2.2.2, hpar⟩ ⟨hR.1, hR.2⟩, C.ts _ w2, trivial⟩ ⟨PP.blind, fun U hU hW => ⟨rfl, PP.of C hR1 hS U hU hW⟩⟩ rfl (by rw [List.length_map]; exact hn) hl.1 rfl (lv_room (Nat.le_trans (cats_le G st) (by have := Nat.le_of_ble_eq_true hst; omega))) (C.d hd) hcap) hS (fun v M' H1 locs1 hq hR2 hS2 => ?_)
  have k1 := kk v M' hq G p l e s m args below meth cd H1 locs1 ls C hR2 hS2 hl
  rw [List.map_append] at k1
  cases v <;> exact k1
theorem r_ci0 {a : Nat} {Q' : Option Value → Mem → Prop} (hd : Y.2.2.1[pc]? = some (some (.invokespecial ix, 3))) (hm : MLi Y.1.cls ix Z k) (hR : rOk R Z d) (hcap : c + mc ≤ R.cells ∧ n + ms ≤ R.slots) (hst : Nat.ble st.length 4 = true) (hn : vs.length = k) (hC : Con Z d mc ms (.ref a :: vs) M Q') (kk : ∀ v M', Q' v M' → wp Y R F (c + mc) (n + ms) (pc + 3) lo (v.toList ++ st) M') : wp Y R F c n pc lo (vs.reverse ++ .ref a :: st) M := by
  intro G p l e s m args below meth cd H locs ls C hR1 hS hl
  obtain ⟨w1, w2, hni, hrn, hok, hpar⟩ := hm
  rw [stk_map]
  have hw : wsY Z = Cond.code Z.1 Z.2.1 Z.2.2.2.1 none :: gw := by unfold wsY; rw [hrn]
  refine call_go (va_runI (b := rho G a) (As := vs.map (sh G)) (rest := st.map (sh G)) ⟨C.x, C.b, C.2.2.1, C.own, C.ts⟩ (hC l G) (cwI k C.ts (gw_gi hok) hw rfl rfl (C.ts _ hok.2.1) (C.ts _ w1) (C.ts _ w2) hni ⟨hok.2.2.1, hok.2.2.2, hpar⟩ ⟨hR.1, hR.2⟩) ⟨PP.blind, fun U hU hW => ⟨rfl, PP.of C hR1 hS U hU hW⟩⟩ rfl (by rw [List.length_map]; exact hn) hl.1 rfl (lv_room (Nat.le_trans (cats_le G st) (by have := Nat.le_of_ble_eq_true hst; omega))) (C.d hd) hcap) hS (fun v M' H1 locs1 hq hR2 hS2 => ?_)
  have k1 := kk v M' hq G p l e s m args below meth cd H1 locs1 ls C hR2 hS2 hl
  rw [List.map_append] at k1
  cases v <;> exact k1
theorem r_obj0 {a : Nat} (hd : Y.2.2.1[pc]? = some (some (.invokespecial ix, 3))) (hm : Jvm.Cond.methodLink Y.1.cls ix Lib.objectInit ∈ gw) (hr : 1 ≤ R.frames ∧ 20 ≤ R.locals) (hst : Nat.ble st.length 4 = true) (kk : wp Y R F c n (pc + 3) lo st M) : wp Y R F c n pc lo (va_rf (some a) :: st) M := by
  intro G p l e s m args below meth cd H locs ls C hR1 hS hl
  exact W.objInit C.x C.b C.own (C.ts _ hm) (C.ts _ (gw_in 29 (by decide +kernel) (by decide +kernel))) (C.ts _ (gw_in 30 (by decide +kernel) (by decide +kernel))) rfl (by rw [C.2.2.1]; exact hl.1) rfl (C.d hd) hr.1 (by
    have h1 := cats_le G st
    have h2 := Nat.le_of_ble_eq_true hst
    have h3 := hr.2
    show 2 * 0 + _ + 12 ≤ _
    omega) (kk G p l e s m args below meth cd H locs ls C hR1 hS hl)
theorem cA_inv {β : Type} {o : Option (β × Mem)} {K : β → Mem → Option (γ × Mem)} (h : FQ (cA o K) P) : FQ o (fun b M' => FQ (K b M') P) := by
  cases o with
  | none => obtain ⟨b, M', h1, -⟩ := h; cases h1
  | some q => exact ⟨q.1, q.2, rfl, h⟩
theorem cR_inv {r : Option Nat} {t : Nat × Nat} {K : Option (γ × Mem)} (h : FQ (cR M r t K) P) : ∃ a, r = some a ∧ mT M a = t ∧ FQ K P := by
  cases r with
  | none => obtain ⟨b, M', h1, -⟩ := h; cases h1
  | some a =>
    unfold cR at h
    by_cases hT : mT M a = t
    · dsimp only at h; rw [if_pos hT] at h; exact ⟨a, rfl, hT, h⟩
    · dsimp only at h; rw [if_neg hT] at h; obtain ⟨b, M', h1, -⟩ := h; cases h1
/-- a text's method -/
def cS {β : Type} (M : Mem) (r : Option Nat) (K : Option β) : Option β := match r with
  | some a => if (mT M a).1 = 9 then K else none
  | none => none
theorem cS_inv {r : Option Nat} {K : Option (γ × Mem)} (h : FQ (cS M r K) P) : ∃ a, r = some a ∧ (mT M a).1 = 9 ∧ FQ K P := by
  cases r with
  | none => obtain ⟨b, M', h1, -⟩ := h; cases h1
  | some a =>
    unfold cS at h
    by_cases hT : (mT M a).1 = 9
    · dsimp only at h; rw [if_pos hT] at h; exact ⟨a, rfl, hT, h⟩
    · dsimp only at h; rw [if_neg hT] at h; obtain ⟨b, M', h1, -⟩ := h; cases h1
theorem recvO {cl a : Nat} {CN : String} (hT : mT M a = (1, cl)) (hcl : (vwCl[cl]?).map (fun q => q.1) = some CN) : ∀ (G : wG) (s : State) (H : Heap), Rl G M s H → Kp G s → ∃ cellB : Cell, H[rho G a]? = some cellB ∧ cellB.vm.isStatics = false ∧ s.vm.findClass CN = some cellB.cls := by
  intro G s H hR hK
  cases hq : vwCl[cl]? with
  | none => rw [hq] at hcl; cases hcl
  | some q =>
    rw [hq] at hcl
    cases hcl
    obtain ⟨-, cell, g1, g2, g3, -⟩ := hR.obj hT hq
    exact ⟨cell, g1, by rw [g3]; rfl, by rw [g2]; exact (hK.1.1 cl q hq).2.1⟩
theorem recvS {a : Nat} (hT : (mT M a).1 = 9) : ∀ (G : wG) (s : State) (H : Heap), Rl G M s H → Kp G s → ∃ cellB : Cell, H[rho G a]? = some cellB ∧ cellB.vm.isStatics = false ∧ s.vm.findClass "java/lang/String" = some cellB.cls := by
  intro G s H hR hK
  have hc := (hR.cell hT (by decide)).2
  unfold cellOk at hc
  rw [hT] at hc
  obtain ⟨cell, h1, h2, h3, -⟩ := hc.1
  exact ⟨cell, h1, h2, h3⟩

theorem r_cv_i {r : Option Nat} {cl : Nat} {o : Option (Int32 × Mem)} {K : Int32 → Mem → Option (γ × Mem)} (hd : Y.2.2.1[pc]? = some (some (.invokevirtual ix, 3))) (hm : MLv Y.1.cls ix Z k) (hcl : (vwCl[cl]?).map (fun q => q.1) = some Z.1.cls) (hR : rOk R Z d) (hcap : c ≤ R.cells ∧ n ≤ R.slots) (hst : Nat.ble st.length 4 = true) (hn : vs.length = k) (hs : vs.reverse ++ va_rf r :: st = st0) (h : FQ (cR M r (1, cl) (cA o K)) P) (hC : FQ o (fun b M' => FQ (K b M') P) → Con Z d 0 0 (va_rf r :: vs) M (QI (fun b M' => FQ (K b M') P))) (kk : ∀ b M', FQ (K b M') P → wp Y R F c n (pc + 3) lo (.int b :: st) M') : wp Y R F c n pc lo st0 M := by
  subst hs
  obtain ⟨a, rfl, hT, h⟩ := cR_inv h
  exact r_cv0 (mc := 0) (ms := 0) (recvO hT hcl) hd hm hR hcap hst hn (hC (cA_inv h)) (fun v M' hq => by obtain ⟨b, rfl, hb⟩ := hq; exact kk b M' hb)
theorem r_cS_i {r : Option Nat} {o : Option (Int32 × Mem)} {K : Int32 → Mem → Option (γ × Mem)} (hd : Y.2.2.1[pc]? = some (some (.invokevirtual ix, 3))) (hm : MLv Y.1.cls ix Z k) (hcl : Z.1.cls = "java/lang/String") (hR : rOk R Z d) (hcap : c ≤ R.cells ∧ n ≤ R.slots) (hst : Nat.ble st.length 4 = true) (hn : vs.length = k) (hs : vs.reverse ++ va_rf r :: st = st0) (h : FQ (cS M r (cA o K)) P) (hC : FQ o (fun b M' => FQ (K b M') P) → Con Z d 0 0 (va_rf r :: vs) M (QI (fun b M' => FQ (K b M') P))) (kk : ∀ b M', FQ (K b M') P → wp Y R F c n (pc + 3) lo (.int b :: st) M') : wp Y R F c n pc lo st0 M := by
  subst hs
  obtain ⟨a, rfl, hT, h⟩ := cS_inv h
  exact r_cv0 (mc := 0) (ms := 0) (by rw [hcl]; exact recvS hT) hd hm hR hcap hst hn (hC (cA_inv h)) (fun v M' hq => by obtain ⟨b, rfl, hb⟩ := hq; exact kk b M' hb)
theorem r_cs_i {o : Option (Int32 × Mem)} {K : Int32 → Mem → Option (γ × Mem)} (hd : Y.2.2.1[pc]? = some (some (.invokestatic ix, 3))) (hm : MLs Y.1.cls ix Z k) (hR : rOk R Z d) (hcap : c ≤ R.cells ∧ n ≤ R.slots) (hst : Nat.ble st.length 4 = true) (hn : vs.length = k) (hs : vs.reverse ++ st = st0) (h : FQ (cA o K) P) (hC : FQ o (fun b M' => FQ (K b M') P) → Con Z d 0 0 vs M (QI (fun b M' => FQ (K b M') P))) (kk : ∀ b M', FQ (K b M') P → wp Y R F c n (pc + 3) lo (.int b :: st) M') : wp Y R F c n pc lo st0 M := by
  subst hs
  exact r_cs0 (mc := 0) (ms := 0) hd hm hR hcap hst hn (hC (cA_inv h)) (fun v M' hq => by obtain ⟨b, rfl, hb⟩ := hq; exact kk b M' hb)
theorem r_cv_l {r : Option Nat} {cl : Nat} {o : Option (Int64 × Mem)} {K : Int64 → Mem → Option (γ × Mem)} (hd : Y.2.2.1[pc]? = some (some (.invokevirtual ix, 3))) (hm : MLv Y.1.cls ix Z k) (hcl : (vwCl[cl]?).map (fun q => q.1) = some Z.1.cls) (hR : rOk R Z d) (hcap : c ≤ R.cells ∧ n ≤ R.slots) (hst : Nat.ble st.length 4 = true) (hn : vs.length = k) (hs : vs.reverse ++ va_rf r :: st = st0) (h : FQ (cR M r (1, cl) (cA o K)) P) (hC : FQ o (fun b M' => FQ (K b M') P) → Con Z d 0 0 (va_rf r :: vs) M (QL (fun b M' => FQ (K b M') P))) (kk : ∀ b M', FQ (K b M') P → wp Y R F c n (pc + 3) lo (.long b :: st) M') : wp Y R F c n pc lo st0 M := by
  subst hs
  obtain ⟨a, rfl, hT, h⟩ := cR_inv h
  exact r_cv0 (mc := 0) (ms := 0) (recvO hT hcl) hd hm hR hcap hst hn (hC (cA_inv h)) (fun v M' hq => by obtain ⟨b, rfl, hb⟩ := hq; exact kk b M' hb)
theorem r_cS_l {r : Option Nat} {o : Option (Int64 × Mem)} {K : Int64 → Mem → Option (γ × Mem)} (hd : Y.2.2.1[pc]? = some (some (.invokevirtual ix, 3))) (hm : MLv Y.1.cls ix Z k) (hcl : Z.1.cls = "java/lang/String") (hR : rOk R Z d) (hcap : c ≤ R.cells ∧ n ≤ R.slots) (hst : Nat.ble st.length 4 = true) (hn : vs.length = k) (hs : vs.reverse ++ va_rf r :: st = st0) (h : FQ (cS M r (cA o K)) P) (hC : FQ o (fun b M' => FQ (K b M') P) → Con Z d 0 0 (va_rf r :: vs) M (QL (fun b M' => FQ (K b M') P))) (kk : ∀ b M', FQ (K b M') P → wp Y R F c n (pc + 3) lo (.long b :: st) M') : wp Y R F c n pc lo st0 M := by
  subst hs
  obtain ⟨a, rfl, hT, h⟩ := cS_inv h
  exact r_cv0 (mc := 0) (ms := 0) (by rw [hcl]; exact recvS hT) hd hm hR hcap hst hn (hC (cA_inv h)) (fun v M' hq => by obtain ⟨b, rfl, hb⟩ := hq; exact kk b M' hb)
theorem r_cs_l {o : Option (Int64 × Mem)} {K : Int64 → Mem → Option (γ × Mem)} (hd : Y.2.2.1[pc]? = some (some (.invokestatic ix, 3))) (hm : MLs Y.1.cls ix Z k) (hR : rOk R Z d) (hcap : c ≤ R.cells ∧ n ≤ R.slots) (hst : Nat.ble st.length 4 = true) (hn : vs.length = k) (hs : vs.reverse ++ st = st0) (h : FQ (cA o K) P) (hC : FQ o (fun b M' => FQ (K b M') P) → Con Z d 0 0 vs M (QL (fun b M' => FQ (K b M') P))) (kk : ∀ b M', FQ (K b M') P → wp Y R F c n (pc + 3) lo (.long b :: st) M') : wp Y R F c n pc lo st0 M := by
  subst hs
  exact r_cs0 (mc := 0) (ms := 0) hd hm hR hcap hst hn (hC (cA_inv h)) (fun v M' hq => by obtain ⟨b, rfl, hb⟩ := hq; exact kk b M' hb)
theorem r_cv_r {r : Option Nat} {cl : Nat} {o : Option (Option Nat × Mem)} {K : Option Nat → Mem → Option (γ × Mem)} (hd : Y.2.2.1[pc]? = some (some (.invokevirtual ix, 3))) (hm : MLv Y.1.cls ix Z k) (hcl : (vwCl[cl]?).map (fun q => q.1) = some Z.1.cls) (hR : rOk R Z d) (hcap : c ≤ R.cells ∧ n ≤ R.slots) (hst : Nat.ble st.length 4 = true) (hn : vs.length = k) (hs : vs.reverse ++ va_rf r :: st = st0) (h : FQ (cR M r (1, cl) (cA o K)) P) (hC : FQ o (fun b M' => FQ (K b M') P) → Con Z d 0 0 (va_rf r :: vs) M (QR (fun b M' => FQ (K b M') P))) (kk : ∀ b M', FQ (K b M') P → wp Y R F c n (pc + 3) lo (va_rf b :: st) M') : wp Y R F c n pc lo st0 M := by
  subst hs
  obtain ⟨a, rfl, hT, h⟩ := cR_inv h
  exact r_cv0 (mc := 0) (ms := 0) (recvO hT hcl) hd hm hR hcap hst hn (hC (cA_inv h)) (fun v M' hq => by obtain ⟨b, rfl, hb⟩ := hq; exact kk b M' hb)
theorem r_cS_r {r : Option Nat} {o : Option (Option Nat × Mem)} {K : Option Nat → Mem → Option (γ × Mem)} (hd : Y.2.2.1[pc]? = some (some (.invokevirtual ix, 3))) (hm : MLv Y.1.cls ix Z k) (hcl : Z.1.cls = "java/lang/String") (hR : rOk R Z d) (hcap : c ≤ R.cells ∧ n ≤ R.slots) (hst : Nat.ble st.length 4 = true) (hn : vs.length = k) (hs : vs.reverse ++ va_rf r :: st = st0) (h : FQ (cS M r (cA o K)) P) (hC : FQ o (fun b M' => FQ (K b M') P) → Con Z d 0 0 (va_rf r :: vs) M (QR (fun b M' => FQ (K b M') P))) (kk : ∀ b M', FQ (K b M') P → wp Y R F c n (pc + 3) lo (va_rf b :: st) M') : wp Y R F c n pc lo st0 M := by
  subst hs
  obtain ⟨a, rfl, hT, h⟩ := cS_inv h
  exact r_cv0 (mc := 0) (ms := 0) (by rw [hcl]; exact recvS hT) hd hm hR hcap hst hn (hC (cA_inv h)) (fun v M' hq => by obtain ⟨b, rfl, hb⟩ := hq; exact kk b M' hb)
theorem r_cs_r {o : Option (Option Nat × Mem)} {K : Option Nat → Mem → Option (γ × Mem)} (hd : Y.2.2.1[pc]? = some (some (.invokestatic ix, 3))) (hm : MLs Y.1.cls ix Z k) (hR : rOk R Z d) (hcap : c ≤ R.cells ∧ n ≤ R.slots) (hst : Nat.ble st.length 4 = true) (hn : vs.length = k) (hs : vs.reverse ++ st = st0) (h : FQ (cA o K) P) (hC : FQ o (fun b M' => FQ (K b M') P) → Con Z d 0 0 vs M (QR (fun b M' => FQ (K b M') P))) (kk : ∀ b M', FQ (K b M') P → wp Y R F c n (pc + 3) lo (va_rf b :: st) M') : wp Y R F c n pc lo st0 M := by
  subst hs
  exact r_cs0 (mc := 0) (ms := 0) hd hm hR hcap hst hn (hC (cA_inv h)) (fun v M' hq => by obtain ⟨b, rfl, hb⟩ := hq; exact kk b M' hb)
theorem r_cv_v {r : Option Nat} {cl : Nat} {o : Option (Unit × Mem)} {K : Unit → Mem → Option (γ × Mem)} (hd : Y.2.2.1[pc]? = some (some (.invokevirtual ix, 3))) (hm : MLv Y.1.cls ix Z k) (hcl : (vwCl[cl]?).map (fun q => q.1) = some Z.1.cls) (hR : rOk R Z d) (hcap : c ≤ R.cells ∧ n ≤ R.slots) (hst : Nat.ble st.length 4 = true) (hn : vs.length = k) (hs : vs.reverse ++ va_rf r :: st = st0) (h : FQ (cR M r (1, cl) (cA o K)) P) (hC : FQ o (fun b M' => FQ (K b M') P) → Con Z d 0 0 (va_rf r :: vs) M (QV (fun b M' => FQ (K b M') P))) (kk : ∀ b M', FQ (K b M') P → wp Y R F c n (pc + 3) lo (st) M') : wp Y R F c n pc lo st0 M := by
  subst hs
  obtain ⟨a, rfl, hT, h⟩ := cR_inv h
  exact r_cv0 (mc := 0) (ms := 0) (recvO hT hcl) hd hm hR hcap hst hn (hC (cA_inv h)) (fun v M' hq => by obtain ⟨rfl, hb⟩ := hq; exact kk () M' hb)
theorem r_cS_v {r : Option Nat} {o : Option (Unit × Mem)} {K : Unit → Mem → Option (γ × Mem)} (hd : Y.2.2.1[pc]? = some (some (.invokevirtual ix, 3))) (hm : MLv Y.1.cls ix Z k) (hcl : Z.1.cls = "java/lang/String") (hR : rOk R Z d) (hcap : c ≤ R.cells ∧ n ≤ R.slots) (hst : Nat.ble st.length 4 = true) (hn : vs.length = k) (hs : vs.reverse ++ va_rf r :: st = st0) (h : FQ (cS M r (cA o K)) P) (hC : FQ o (fun b M' => FQ (K b M') P) → Con Z d 0 0 (va_rf r :: vs) M (QV (fun b M' => FQ (K b M') P))) (kk : ∀ b M', FQ (K b M') P → wp Y R F c n (pc + 3) lo (st) M') : wp Y R F c n pc lo st0 M := by
  subst hs
  obtain ⟨a, rfl, hT, h⟩ := cS_inv h
  exact r_cv0 (mc := 0) (ms := 0) (by rw [hcl]; exact recvS hT) hd hm hR hcap hst hn (hC (cA_inv h)) (fun v M' hq => by obtain ⟨rfl, hb⟩ := hq; exact kk () M' hb)
theorem r_cs_v {o : Option (Unit × Mem)} {K : Unit → Mem → Option (γ × Mem)} (hd : Y.2.2.1[pc]? = some (some (.invokestatic ix, 3))) (hm : MLs Y.1.cls ix Z k) (hR : rOk R Z d) (hcap : c ≤ R.cells ∧ n ≤ R.slots) (hst : Nat.ble st.length 4 = true) (hn : vs.length = k) (hs : vs.reverse ++ st = st0) (h : FQ (cA o K) P) (hC : FQ o (fun b M' => FQ (K b M') P) → Con Z d 0 0 vs M (QV (fun b M' => FQ (K b M') P))) (kk : ∀ b M', FQ (K b M') P → wp Y R F c n (pc + 3) lo (st) M') : wp Y R F c n pc lo st0 M := by
  subst hs
  exact r_cs0 (mc := 0) (ms := 0) hd hm hR hcap hst hn (hC (cA_inv h)) (fun v M' hq => by obtain ⟨rfl, hb⟩ := hq; exact kk () M' hb)
theorem r_cn_i {o : Option (Int32 × Mem)} {K : Int32 → Mem → Option (γ × Mem)} (hY : Y.1.cls = RX6) (hZ : Z.1 = y_nest) (hd : Y.2.2.1[pc]? = some (some (.invokestatic 50, 3))) (hm : Jvm.Cond.static Z.1 ∈ gw ∧ okY Z ∧ (parseMethodDescriptor Z.1.desc).map (fun d => d.parameters.length) = some k) (hR : rOk R Z d) (hcap : c ≤ R.cells ∧ n ≤ R.slots) (hst : Nat.ble st.length 4 = true) (hn : vs.length = k) (hs : vs.reverse ++ st = st0) (h : FQ (cA o K) P) (hC : FQ o (fun b M' => FQ (K b M') P) → Con Z d 0 0 vs M (QI (fun b M' => FQ (K b M') P))) (kk : ∀ b M', FQ (K b M') P → wp Y R F c n (pc + 3) lo (.int b :: st) M') : wp Y R F c n pc lo st0 M := by
  subst hs
  exact r_cn0 (mc := 0) (ms := 0) hY hZ hd hm hR hcap hst hn (hC (cA_inv h)) (fun v M' hq => by obtain ⟨b, rfl, hb⟩ := hq; exact kk b M' hb)
/-- a constructor: it may make cells; the receiver is there -/
def cN {β : Type} (r : Option Nat) (K : Nat → Option β) : Option β := match r with
  | some a => K a
  | none => none
theorem r_ci_v {r : Option Nat} {o : Option (Unit × Mem)} {K : Unit → Mem → Option (γ × Mem)} (hd : Y.2.2.1[pc]? = some (some (.invokespecial ix, 3))) (hm : MLi Y.1.cls ix Z k) (hR : rOk R Z d) (hcap : c + mc ≤ R.cells ∧ n + ms ≤ R.slots) (hst : Nat.ble st.length 4 = true) (hn : vs.length = k) (hs : vs.reverse ++ va_rf r :: st = st0) (h : FQ (cN r (fun _ => cA o K)) P) (hC : FQ o (fun b M' => FQ (K b M') P) → Con Z d mc ms (va_rf r :: vs) M (QV (fun b M' => FQ (K b M') P))) (kk : ∀ b M', FQ (K b M') P → wp Y R F (c + mc) (n + ms) (pc + 3) lo st M') : wp Y R F c n pc lo st0 M := by
  subst hs
  cases r with
  | none => obtain ⟨b, M', h1, -⟩ := h; cases h1
  | some a => exact r_ci0 hd hm hR hcap hst hn (hC (cA_inv h)) (fun v M' hq => by obtain ⟨rfl, hb⟩ := hq; exact kk () M' hb)
theorem r_obj {r : Option Nat} {K : Option (γ × Mem)} (hd : Y.2.2.1[pc]? = some (some (.invokespecial ix, 3))) (hm : Jvm.Cond.methodLink Y.1.cls ix Lib.objectInit ∈ gw) (hr : 1 ≤ R.frames ∧ 20 ≤ R.locals) (hst : Nat.ble st.length 4 = true) (h : FQ (cN r (fun _ => K)) P) (kk : FQ K P → wp Y R F c n (pc + 3) lo st M) : wp Y R F c n pc lo (va_rf r :: st) M := by
  cases r with
  | none => obtain ⟨b, M', h1, -⟩ := h; cases h1
  | some a => exact r_obj0 hd hm hr hst (kk h)
end RC2
/-! the copy of a row -/
theorem sC_row {M : Mem} {b : Nat} {f : Nat → Int32} : (fun j => Value.int (mI (sC M b f) b j)) = fun j => .int (f j) := by
  funext j
  show Value.int (up1 M.2.2.1 b f b j) = _
  rw [up1_s]
section RCP
variable {Y : YM} {R : Room} {F : wF} {c n pc ix : Nat} {lo : List (Option Value)} {st : List Value} {M : Mem} {γ : Type} {P : γ → Mem → Prop}
theorem r_copy {r0 r1 : Option Nat} {sp dp k : Int32} {K : Mem → Option (γ × Mem)} (hd : Y.2.2.1[pc]? = some (some (.invokestatic ix, 3))) (hm : Jvm.Cond.methodLink Y.1.cls ix arraycopyName ∈ gw) (hr : 1 ≤ R.frames ∧ 60 ≤ R.locals) (hst : Nat.ble st.length 4 = true) (h : FQ (cP M r0 sp r1 dp k K) P) (kk : ∀ M', FQ (K M') P → wp Y R F c n (pc + 3) lo st M') : wp Y R F c n pc lo (.int k :: .int dp :: va_rf r1 :: .int sp :: va_rf r0 :: st) M := by
  cases r0 with
  | none => obtain ⟨b, M', h1, -⟩ := h; cases h1
  | some a0 =>
  cases r1 with
  | none => obtain ⟨b, M', h1, -⟩ := h; cases h1
  | some a =>
  unfold cP at h
  dsimp only at h
  by_cases hc : (mT M a0).1 = 2 ∧ (mT M a).1 = 2 ∧ 0 ≤ sp ∧ 0 ≤ dp ∧ 0 ≤ k ∧ sp.toNatClampNeg + k.toNatClampNeg ≤ (mT M a0).2 ∧ dp.toNatClampNeg + k.toNatClampNeg ≤ (mT M a).2
  · rw [if_pos hc] at h
    obtain ⟨t0, t1, p1, p2, p3, h4, h5⟩ := hc
    have nn : ∀ z : Int32, ¬ z < 0 → z.toInt = (z.toNatClampNeg : Int) := by
      intro z hz
      have hz0 : (0 : Int) ≤ z.toInt := by
        have := Int32.not_lt.mp hz
        simpa using Int32.le_iff_toInt_le.mp this
      show z.toInt = ((z.toInt.toNat : Nat) : Int)
      omega
    have h1 : ¬ sp < 0 := Int32.not_lt.mpr p1
    have h2 : ¬ dp < 0 := Int32.not_lt.mpr p2
    have h3 : ¬ k < 0 := Int32.not_lt.mpr p3
    intro G p l e s m args below meth cd H locs ls C hR hS hl T hT X
    have hc0 := (hR.cell t0 (by decide)).2
    obtain ⟨h8, hc1⟩ := hR.cell t1 (by decide)
    unfold cellOk at hc0 hc1
    rw [t0] at hc0
    rw [t1] at hc1
    obtain ⟨-, k0, hk0, cm0, hkk0⟩ := (kA C 0 rfl).1 (mT M a0).2 (fun j => .int (mI M a0 j))
    obtain ⟨-, k1, hk1, cm1, hkk1⟩ := (kA C 0 rfl).1 (mT M a).2 (fun j => .int (mI M a j))
    obtain ⟨vm', X', step⟩ := X.arraycopy C.x C.own (C.ts _ hm) (C.ts _ (gw_in 1082 (by decide +kernel) (by decide +kernel))) (C.ts _ (gw_in 1081 (by decide +kernel) (by decide +kernel))) (C.ts _ (gw_in 22 (by decide +kernel) (by decide +kernel))) (src := rho G a0) (dst := rho G a) (cs := arrV (G.2.2.2.2 2) (mT M a0).2 (fun j => .int (mI M a0 j))) (cd := arrV (G.2.2.2.2 2) (mT M a).2 (fun j => .int (mI M a j))) (srcPos := sp) (destPos := dp) (n := k) (by rw [hT]; exact hc0) (by rw [hT]; exact hc1)
      (fun _ h => by cases h) (fun _ h => by cases h) (fun h => by cases h) (fun h => by cases h) hk0 hk1 hkk0 hkk1 (by simp [refKind]) h1 h2 h3
      (by rw [nn sp h1, nn k h3, arrV_size]; omega)
      (by rw [nn dp h2, nn k h3, arrV_size]; omega)
      (fun vm₁ _ i hi => by
        have e : (arrV (G.2.2.2.2 2) (mT M a0).2 (fun j => .int (mI M a0 j))).slots.getD (sp.toNatClampNeg + i) .null = .int (mI M a0 (sp.toNatClampNeg + i)) := by
          rw [Array.getD_eq_getD_getElem?, arrV_read _ _ (by omega)]
          rfl
        refine ⟨?_, ?_⟩
        · rw [e]; rfl
        · rw [e]; exact trivial)
      (g := F0 m pc ls (.int k :: .int dp :: .ref (rho G a) :: .int sp :: .ref (rho G a0) :: st.map (sh G))) rfl (by rw [C.2.2.1]; exact hl.1) (rest := st.map (sh G)) rfl (by rw [C.b]; exact C.d hd) hr.1 (by
        have q1 := cats_le G st
        have q2 := Nat.le_of_ble_eq_true hst
        have q3 := hr.2
        have q4 : nativeFrameWords "java/lang/System" "arraycopy" 5 + 11 ≤ 52 := by decide +kernel
        show 2 * 0 + _ + _ ≤ _
        omega)
    have e1 : copied (arrV (G.2.2.2.2 2) (mT M a0).2 (fun j => .int (mI M a0 j))) (arrV (G.2.2.2.2 2) (mT M a).2 (fun j => .int (mI M a j))) sp dp k = arrV (G.2.2.2.2 2) (mT M a).2 (fun j => .int (va_cpy (mI M a0) (mI M a) sp.toNatClampNeg dp.toNatClampNeg k.toNatClampNeg j)) := va_copied (fun z => .int z) _ _ _ _ h4
    rw [e1] at X' step
    have hlt : rho G a < H.size := (Array.getElem?_eq_some_iff.mp hc1).1
    generalize hcell : arrV (G.2.2.2.2 2) (mT M a).2 (fun j => .int (va_cpy (mI M a0) (mI M a) sp.toNatClampNeg dp.toNatClampNeg k.toNatClampNeg j)) = cellN at X' step
    have hheap : ((T.setVm vm').setCell (rho G a) cellN).heap = H.setIfInBounds (rho G a) cellN := by rw [← hT]; rfl
    have oq : ∀ q : Nat, q ≠ rho G a → (H.setIfInBounds (rho G a) cellN)[q]? = H[q]? := fun q hq => by simp [Array.getElem?_setIfInBounds, Ne.symm hq]
    have hg : gA G (rho G a) := by show G.1 ≤ rho G a; rw [rho_big (h8 (by decide))]; exact Nat.le_add_right _ _
    have hR1 : Rl G (sC M a (va_cpy (mI M a0) (mI M a) sp.toNatClampNeg dp.toNatClampNeg k.toNatClampNeg)) s (H.setIfInBounds (rho G a) cellN) := by
      refine hR.write (h8 (by decide)) rfl rfl (fun b hb => up1_n hb) (fun _ _ => rfl) (fun _ _ => rfl) (by simp) oq ?_
      unfold cellOk
      rw [show mT (sC M a (va_cpy (mI M a0) (mI M a) sp.toNatClampNeg dp.toNatClampNeg k.toNatClampNeg)) = mT M from rfl, t1]
      show (H.setIfInBounds (rho G a) cellN)[rho G a]? = some (arrV _ _ (fun j => .int (mI (sC M a _) a j)))
      rw [sC_row, hcell]
      simp [Array.getElem?_setIfInBounds, hlt]
    obtain ⟨t, a1, b1⟩ := kk _ h G p l e s m args below meth cd _ _ ls C hR1 ⟨by simp; exact hS.1, fun q g1 g2 => by
        rw [oq q (fun e => g2 (by rw [e]; exact hg))]
        exact hS.2.1 q g1 g2, fun q hq => by
        rcases List.mem_append.mp hq with h | h
        · exact hS.2.2 q h
        · obtain ⟨z, -, hz⟩ := List.mem_map.mp h
          rw [← hz]
          exact hg⟩ hl _ hheap X'
    exact ⟨t, step t a1, b1⟩
  · rw [if_neg hc] at h; obtain ⟨b, M', h1, -⟩ := h; cases h1
end RCP
