/-! ===== the run of a method's body over the flat memory ===== -/
abbrev YM : Type := MethodName × ByteArray × List (Option (Instr × Nat)) × Nat × Option FieldType
def tx1 : String := "move count from to mine theirs side step leap push change while place offer refuse choose never and or not "
def tx2 : String := "<>=#+-*/(),;"
def y_nest : MethodName := ⟨RX11, "isMove", "(I)Z"⟩
def tysL (G : wG) : List (ClassId × FieldType) := [(G.2.2.2.2 2, .int), (G.2.2.2.2 3, .long), (G.2.2.2.2 4, .byte), (G.2.2.2.2 5, .boolean), (G.2.2.2.2 6, .object RX1), (G.2.2.2.2 7, .object RX6)]
def Kp (G : wG) (U : State) : Prop := va_K (G.2.2.1, G.2.2.2.1) vwCl (tysL G) U ∧ va_AO RX1 U ∧ va_AO RX6 U ∧ va_Nw (.methodLinkNest RX6 50 y_nest RX11) U ∧ vk_R RX5 138 tx1 (G.2.1 2) U ∧ vk_R RX5 148 tx2 (G.2.1 3) U
def Sp (G : wG) (U : State) (H : Heap) : Prop := va_Z RX5 "SIGN_TOKENS" "[I" (.ref (G.2.1 1)) (gA G) U H ∧ va_Z "java/lang/String" "COMPACT_STRINGS" "Z" (.int 1) (gA G) U H
theorem Kp.same {G : wG} {u U : State} (hv : u.vm = U.vm) (h : Kp G u) : Kp G U := by
  have ha : u.vm.Alike U.vm := by rw [hv]; exact Vm.Alike.refl _
  exact ⟨va_K.moved ha h.1, h.2.1.moved ha, h.2.2.1.moved ha, va_Nw.same rfl hv h.2.2.2.1, h.2.2.2.2.1.same hv.symm, h.2.2.2.2.2.same hv.symm⟩
theorem Kp.warm {G : wG} {s U : State} (hW : s.WarmedH U.vm) (h : Kp G s) : Kp G U :=
  ⟨va_K.moved hW.alike h.1, h.2.1.moved hW.alike, h.2.2.1.moved hW.alike, va_Nw.warmM hW h.2.2.2.1, h.2.2.2.2.1.warm hW, h.2.2.2.2.2.warm hW⟩
theorem Sp.moved {G : wG} {u U : State} {H : Heap} (ha : u.vm.Alike U.vm) (h : Sp G u H) : Sp G U H := ⟨h.1.moved ha, h.2.moved ha⟩
theorem Sp.kept {G : wG} {U : State} {H H1 : Heap} (h : Sp G U H) (hq : ∀ a : Nat, a < H.size → ¬ gA G a → H1[a]? = H[a]?) : Sp G U H1 := ⟨h.1.kept hq, h.2.kept hq⟩
/-- the locals, by their places -/
def lvh (G : wG) (nL : Nat) (lo : List (Option Value)) (ls : Array Slot) : Prop := ls.size = nL ∧ lv_wf ls ∧ ∀ (i : Nat) (v : Value), lo[i]? = some (some v) → ls[i]? = some (.val (sh G v))
/-- what stays the same through a body -/
def wpK (Y : YM) (G : wG) (p : Program) (s : State) (m : MethodId) (args : Array Value) (meth : Method) (cd : Code) : Prop :=
  p.tables.exec = Jvm.exec ∧ cd.code = Y.2.1 ∧ cd.maxLocals = Y.2.2.2.1 ∧ meth.sig.returnType = Y.2.2.2.2 ∧ meth.locks = false ∧ s.vm.findClass Y.1.cls = some m.cls ∧ (∀ w ∈ gw, w.before args s = true) ∧ Kp G s ∧ Sp G s s.heap ∧ (Y.1.name = "<init>" → meth.name = "<init>") ∧ (∀ pc i, Y.2.2.1[pc]? = some (some i) → decode Y.2.1 pc = .ok i) ∧ G.1 ≤ s.heap.size
abbrev wF : Type := wG → List Frame → Array Value → State → State → Prop
def wp (Y : YM) (R : Room) (F : wF) (c n pc : Nat) (lo : List (Option Value)) (st : List Value) (M : Mem) : Prop :=
  ∀ (G : wG) (p : Program) (l : Launch) (e : Env) (s : State) (m : MethodId) (args : Array Value) (below : List Frame) (meth : Method) (cd : Code) (H : Heap) (locs : List Loc) (ls : Array Slot),
    wpK Y G p s m args meth cd → Rl G M s H → va_S (gA G) s.heap H locs → lvh G Y.2.2.2.1 lo ls →
    W p l e R s m args below meth cd H locs c n (F G below args s) (F0 m pc ls (st.map (sh G)))
theorem wpK.x {Y : YM} {G : wG} {p : Program} {s : State} {m : MethodId} {args : Array Value} {meth : Method} {cd : Code} (C : wpK Y G p s m args meth cd) : p.tables.exec = Jvm.exec := C.1
theorem wpK.b {Y : YM} {G : wG} {p : Program} {s : State} {m : MethodId} {args : Array Value} {meth : Method} {cd : Code} (C : wpK Y G p s m args meth cd) : cd.code = Y.2.1 := C.2.1
theorem wpK.own {Y : YM} {G : wG} {p : Program} {s : State} {m : MethodId} {args : Array Value} {meth : Method} {cd : Code} (C : wpK Y G p s m args meth cd) : s.vm.findClass Y.1.cls = some m.cls := C.2.2.2.2.2.1
theorem wpK.ts {Y : YM} {G : wG} {p : Program} {s : State} {m : MethodId} {args : Array Value} {meth : Method} {cd : Code} (C : wpK Y G p s m args meth cd) : ∀ w ∈ gw, w.before args s = true := C.2.2.2.2.2.2.1
theorem wpK.kp {Y : YM} {G : wG} {p : Program} {s : State} {m : MethodId} {args : Array Value} {meth : Method} {cd : Code} (C : wpK Y G p s m args meth cd) : Kp G s := C.2.2.2.2.2.2.2.1
theorem wpK.sp {Y : YM} {G : wG} {p : Program} {s : State} {m : MethodId} {args : Array Value} {meth : Method} {cd : Code} (C : wpK Y G p s m args meth cd) : Sp G s s.heap := C.2.2.2.2.2.2.2.2.1
theorem wpK.d {Y : YM} {G : wG} {p : Program} {s : State} {m : MethodId} {args : Array Value} {meth : Method} {cd : Code} (C : wpK Y G p s m args meth cd) {pc : Nat} {i : Instr × Nat} (h : Y.2.2.1[pc]? = some (some i)) : decode Y.2.1 pc = .ok i := C.2.2.2.2.2.2.2.2.2.2.1 pc i h
theorem wpK.ge {Y : YM} {G : wG} {p : Program} {s : State} {m : MethodId} {args : Array Value} {meth : Method} {cd : Code} (C : wpK Y G p s m args meth cd) : G.1 ≤ s.heap.size := C.2.2.2.2.2.2.2.2.2.2.2
/-- a store into a place: the place before it holds no long -/
def stOk (lo : List (Option Value)) (i : Nat) : Bool := match i with
  | 0 => true
  | j + 1 => match lo[j]? with
    | some (some v) => v.category == 1
    | _ => true
theorem lvh.at {G : wG} {nL : Nat} {lo : List (Option Value)} {ls : Array Slot} (h : lvh G nL lo ls) {i : Nat} {v : Value} (hi : lo[i]? = some (some v)) : ls[i]? = some (.val (sh G v)) := h.2.2 i v hi
def lv_as (G : wG) (lo : List (Option Value)) : List (Nat × Value) := (List.range lo.length).filterMap (fun i => (lo[i]?).bind (fun o => o.map (fun v => (i, sh G v))))
theorem lv_as_mem {G : wG} {lo : List (Option Value)} {i : Nat} {v : Value} : (i, v) ∈ lv_as G lo ↔ ∃ w, lo[i]? = some (some w) ∧ v = sh G w := by
  unfold lv_as
  rw [List.mem_filterMap]
  constructor
  · rintro ⟨j, -, hj⟩
    cases h : lo[j]? with
    | none => rw [h] at hj; simp at hj
    | some o =>
      cases o with
      | none => rw [h] at hj; simp at hj
      | some w =>
        rw [h] at hj
        simp at hj
        obtain ⟨rfl, rfl⟩ := hj
        exact ⟨w, h, rfl⟩
  · rintro ⟨w, h, rfl⟩
    refine ⟨i, List.mem_range.mpr (List.getElem?_eq_some_iff.mp h).1, ?_⟩
    rw [h]; rfl
theorem lvh.has {G : wG} {nL : Nat} {lo : List (Option Value)} {ls : Array Slot} (h : lvh G nL lo ls) : lv_has ls nL (lv_as G lo) :=
  ⟨h.1, h.2.1, fun q hq => by
    obtain ⟨i, v⟩ := q
    obtain ⟨w, h1, h2⟩ := lv_as_mem.mp hq
    rw [h2]
    exact h.2.2 i w h1⟩
theorem lvh.set1 {G : wG} {nL : Nat} {lo : List (Option Value)} {ls' : Array Slot} {i : Nat} {v : Value} (hc : v.category = 1) (ho : stOk lo i = true) (h : lv_has ls' nL ((i, sh G v) :: (lv_as G lo).filter (fun q => !(q.1 == i) && !(q.1 + 1 == i && q.2.category == 2)))) : lvh G nL (lo.set i (some v)) ls' := by
  refine ⟨h.1, h.2.1, fun j w hj => ?_⟩
  by_cases hij : i = j
  · subst hij
    have hl : i < lo.length := by
      have := (List.getElem?_eq_some_iff.mp hj).1
      rwa [List.length_set] at this
    rw [List.getElem?_set_self hl] at hj
    cases hj
    exact h.2.2 (i, sh G v) List.mem_cons_self
  · rw [List.getElem?_set_ne hij] at hj
    refine h.2.2 (j, sh G w) (List.mem_cons_of_mem _ (List.mem_filter.mpr ⟨lv_as_mem.mpr ⟨w, hj, rfl⟩, ?_⟩))
    have h1 : (j == i) = false := by simp [Ne.symm hij]
    simp only [h1, Bool.not_false, Bool.true_and]
    by_cases h2 : j + 1 = i
    · subst h2
      simp only [stOk, hj] at ho
      rw [sh_cat]
      have : w.category = 1 := by simpa using ho
      simp [this]
    · simp [h2]
theorem lvh.set2 {G : wG} {nL : Nat} {lo : List (Option Value)} {ls' : Array Slot} {i : Nat} {v : Value} (ho : stOk lo i = true) (h : lv_has ls' nL ((i, sh G v) :: (lv_as G lo).filter (fun q => !(q.1 == i) && (!(q.1 == i + 1) && !(q.1 + 1 == i && q.2.category == 2))))) : lvh G nL ((lo.set i (some v)).set (i + 1) none) ls' := by
  refine ⟨h.1, h.2.1, fun j w hj => ?_⟩
  by_cases hij1 : i + 1 = j
  · subst hij1
    have hl : i + 1 < lo.length := by
      have := (List.getElem?_eq_some_iff.mp hj).1
      simpa using this
    rw [List.getElem?_set_self (by simpa using hl)] at hj
    cases hj
  · rw [List.getElem?_set_ne hij1] at hj
    by_cases hij : i = j
    · subst hij
      have hl : i < lo.length := by
        have := (List.getElem?_eq_some_iff.mp hj).1
        rwa [List.length_set] at this
      rw [List.getElem?_set_self hl] at hj
      cases hj
      exact h.2.2 (i, sh G v) List.mem_cons_self
    · rw [List.getElem?_set_ne hij] at hj
      refine h.2.2 (j, sh G w) (List.mem_cons_of_mem _ (List.mem_filter.mpr ⟨lv_as_mem.mpr ⟨w, hj, rfl⟩, ?_⟩))
      have h1 : (j == i) = false := by simp [Ne.symm hij]
      have h0 : (j == i + 1) = false := by simp [Ne.symm hij1]
      simp only [h1, h0, Bool.not_false, Bool.true_and]
      by_cases h2 : j + 1 = i
      · subst h2
        simp only [stOk, hj] at ho
        rw [sh_cat]
        have : w.category = 1 := by simpa using ho
        simp [this]
      · simp [h2]
theorem FQ.ite {β : Type} {q : Prop} [Decidable q] {A B : Option (β × Mem)} {P : β → Mem → Prop} (h : FQ (if q then A else B) P) : (q → FQ A P) ∧ (¬ q → FQ B P) := by
  constructor
  · intro hq; rwa [if_pos hq] at h
  · intro hq; rwa [if_neg hq] at h
section RU
variable {Y : YM} {R : Room} {F : wF} {c n pc : Nat} {lo : List (Option Value)} {st : List Value} {M : Mem} {β : Type} {P : β → Mem → Prop}

theorem r_iadd {x y : Int32} (hd : Y.2.2.1[pc]? = some (some (.iadd, 1))) (k : wp Y R F c n (pc + 1) lo (.int (x + y) :: st) M) : wp Y R F c n pc lo (.int y :: .int x :: st) M := by
  intro G p l e s m args below meth cd H locs ls C hR hS hl
  exact lv_iadd C.x C.b (C.d hd) (k G p l e s m args below meth cd H locs ls C hR hS hl)
theorem r_isub {x y : Int32} (hd : Y.2.2.1[pc]? = some (some (.isub, 1))) (k : wp Y R F c n (pc + 1) lo (.int (x - y) :: st) M) : wp Y R F c n pc lo (.int y :: .int x :: st) M := by
  intro G p l e s m args below meth cd H locs ls C hR hS hl
  exact lv_isub C.x C.b (C.d hd) (k G p l e s m args below meth cd H locs ls C hR hS hl)
theorem r_imul {x y : Int32} (hd : Y.2.2.1[pc]? = some (some (.imul, 1))) (k : wp Y R F c n (pc + 1) lo (.int (x * y) :: st) M) : wp Y R F c n pc lo (.int y :: .int x :: st) M := by
  intro G p l e s m args below meth cd H locs ls C hR hS hl
  exact lv_imul C.x C.b (C.d hd) (k G p l e s m args below meth cd H locs ls C hR hS hl)
theorem r_iand {x y : Int32} (hd : Y.2.2.1[pc]? = some (some (.iand, 1))) (k : wp Y R F c n (pc + 1) lo (.int (x &&& y) :: st) M) : wp Y R F c n pc lo (.int y :: .int x :: st) M := by
  intro G p l e s m args below meth cd H locs ls C hR hS hl
  exact lv_iand C.x C.b (C.d hd) (k G p l e s m args below meth cd H locs ls C hR hS hl)
theorem r_ior {x y : Int32} (hd : Y.2.2.1[pc]? = some (some (.ior, 1))) (k : wp Y R F c n (pc + 1) lo (.int (x ||| y) :: st) M) : wp Y R F c n pc lo (.int y :: .int x :: st) M := by
  intro G p l e s m args below meth cd H locs ls C hR hS hl
  exact lv_ior C.x C.b (C.d hd) (k G p l e s m args below meth cd H locs ls C hR hS hl)
theorem r_ixor {x y : Int32} (hd : Y.2.2.1[pc]? = some (some (.ixor, 1))) (k : wp Y R F c n (pc + 1) lo (.int (x ^^^ y) :: st) M) : wp Y R F c n pc lo (.int y :: .int x :: st) M := by
  intro G p l e s m args below meth cd H locs ls C hR hS hl
  exact lv_ixor C.x C.b (C.d hd) (k G p l e s m args below meth cd H locs ls C hR hS hl)
theorem r_ishl {x y : Int32} (hd : Y.2.2.1[pc]? = some (some (.ishl, 1))) (k : wp Y R F c n (pc + 1) lo (.int (x <<< (y &&& 31)) :: st) M) : wp Y R F c n pc lo (.int y :: .int x :: st) M := by
  intro G p l e s m args below meth cd H locs ls C hR hS hl
  exact lv_ishl C.x C.b (C.d hd) (k G p l e s m args below meth cd H locs ls C hR hS hl)
theorem r_ishr {x y : Int32} (hd : Y.2.2.1[pc]? = some (some (.ishr, 1))) (k : wp Y R F c n (pc + 1) lo (.int (x >>> (y &&& 31)) :: st) M) : wp Y R F c n pc lo (.int y :: .int x :: st) M := by
  intro G p l e s m args below meth cd H locs ls C hR hS hl
  exact lv_ishr C.x C.b (C.d hd) (k G p l e s m args below meth cd H locs ls C hR hS hl)
theorem r_ladd {x y : Int64} (hd : Y.2.2.1[pc]? = some (some (.ladd, 1))) (k : wp Y R F c n (pc + 1) lo (.long (x + y) :: st) M) : wp Y R F c n pc lo (.long y :: .long x :: st) M := by
  intro G p l e s m args below meth cd H locs ls C hR hS hl
  exact lv_ladd C.x C.b (C.d hd) (k G p l e s m args below meth cd H locs ls C hR hS hl)
theorem r_lsub {x y : Int64} (hd : Y.2.2.1[pc]? = some (some (.lsub, 1))) (k : wp Y R F c n (pc + 1) lo (.long (x - y) :: st) M) : wp Y R F c n pc lo (.long y :: .long x :: st) M := by
  intro G p l e s m args below meth cd H locs ls C hR hS hl
  exact lv_lsub C.x C.b (C.d hd) (k G p l e s m args below meth cd H locs ls C hR hS hl)
theorem r_lmul {x y : Int64} (hd : Y.2.2.1[pc]? = some (some (.lmul, 1))) (k : wp Y R F c n (pc + 1) lo (.long (x * y) :: st) M) : wp Y R F c n pc lo (.long y :: .long x :: st) M := by
  intro G p l e s m args below meth cd H locs ls C hR hS hl
  exact lv_lmul C.x C.b (C.d hd) (k G p l e s m args below meth cd H locs ls C hR hS hl)
theorem r_land {x y : Int64} (hd : Y.2.2.1[pc]? = some (some (.land, 1))) (k : wp Y R F c n (pc + 1) lo (.long (x &&& y) :: st) M) : wp Y R F c n pc lo (.long y :: .long x :: st) M := by
  intro G p l e s m args below meth cd H locs ls C hR hS hl
  exact lv_land C.x C.b (C.d hd) (k G p l e s m args below meth cd H locs ls C hR hS hl)
theorem r_lor {x y : Int64} (hd : Y.2.2.1[pc]? = some (some (.lor, 1))) (k : wp Y R F c n (pc + 1) lo (.long (x ||| y) :: st) M) : wp Y R F c n pc lo (.long y :: .long x :: st) M := by
  intro G p l e s m args below meth cd H locs ls C hR hS hl
  exact lv_lor C.x C.b (C.d hd) (k G p l e s m args below meth cd H locs ls C hR hS hl)
theorem r_lxor {x y : Int64} (hd : Y.2.2.1[pc]? = some (some (.lxor, 1))) (k : wp Y R F c n (pc + 1) lo (.long (x ^^^ y) :: st) M) : wp Y R F c n pc lo (.long y :: .long x :: st) M := by
  intro G p l e s m args below meth cd H locs ls C hR hS hl
  exact lv_lxor C.x C.b (C.d hd) (k G p l e s m args below meth cd H locs ls C hR hS hl)
theorem r_ineg {x : Int32} (hd : Y.2.2.1[pc]? = some (some (.ineg, 1))) (k : wp Y R F c n (pc + 1) lo (.int (-x) :: st) M) : wp Y R F c n pc lo (.int x :: st) M := by
  intro G p l e s m args below meth cd H locs ls C hR hS hl
  exact lv_ineg C.x C.b (C.d hd) (k G p l e s m args below meth cd H locs ls C hR hS hl)
theorem r_lneg {x : Int64} (hd : Y.2.2.1[pc]? = some (some (.lneg, 1))) (k : wp Y R F c n (pc + 1) lo (.long (-x) :: st) M) : wp Y R F c n pc lo (.long x :: st) M := by
  intro G p l e s m args below meth cd H locs ls C hR hS hl
  exact lv_lneg C.x C.b (C.d hd) (k G p l e s m args below meth cd H locs ls C hR hS hl)
theorem r_iushr {x y : Int32} (hd : Y.2.2.1[pc]? = some (some (.iushr, 1))) (k : wp Y R F c n (pc + 1) lo (.int (x.toUInt32 >>> (y.toUInt32 &&& Int32.toUInt32 31)).toInt32 :: st) M) : wp Y R F c n pc lo (.int y :: .int x :: st) M := by
  intro G p l e s m args below meth cd H locs ls C hR hS hl
  exact lv_iushr C.x C.b (C.d hd) rfl (k G p l e s m args below meth cd H locs ls C hR hS hl)
theorem r_lushr {x : Int64} {y : Int32} (hd : Y.2.2.1[pc]? = some (some (.lushr, 1))) (k : wp Y R F c n (pc + 1) lo (.long (x.toUInt64 >>> (y.toInt64.toUInt64 &&& Int64.toUInt64 63)).toInt64 :: st) M) : wp Y R F c n pc lo (.int y :: .long x :: st) M := by
  intro G p l e s m args below meth cd H locs ls C hR hS hl
  exact lv_lushr C.x C.b (C.d hd) rfl (k G p l e s m args below meth cd H locs ls C hR hS hl)
theorem r_lshl {x : Int64} {y : Int32} (hd : Y.2.2.1[pc]? = some (some (.lshl, 1))) (k : wp Y R F c n (pc + 1) lo (.long (x <<< (y.toInt64 &&& 63)) :: st) M) : wp Y R F c n pc lo (.int y :: .long x :: st) M := by
  intro G p l e s m args below meth cd H locs ls C hR hS hl
  exact lv_lshl C.x C.b (C.d hd) rfl (k G p l e s m args below meth cd H locs ls C hR hS hl)
theorem r_lshr {x : Int64} {y : Int32} (hd : Y.2.2.1[pc]? = some (some (.lshr, 1))) (k : wp Y R F c n (pc + 1) lo (.long (x >>> (y.toInt64 &&& 63)) :: st) M) : wp Y R F c n pc lo (.int y :: .long x :: st) M := by
  intro G p l e s m args below meth cd H locs ls C hR hS hl
  exact lv_lshr C.x C.b (C.d hd) rfl (k G p l e s m args below meth cd H locs ls C hR hS hl)
theorem r_i2l {x : Int32} (hd : Y.2.2.1[pc]? = some (some (.i2l, 1))) (k : wp Y R F c n (pc + 1) lo (.long x.toInt64 :: st) M) : wp Y R F c n pc lo (.int x :: st) M := by
  intro G p l e s m args below meth cd H locs ls C hR hS hl
  exact lv_i2l C.x C.b (C.d hd) rfl (k G p l e s m args below meth cd H locs ls C hR hS hl)
theorem r_l2i {x : Int64} (hd : Y.2.2.1[pc]? = some (some (.l2i, 1))) (k : wp Y R F c n (pc + 1) lo (.int x.toInt32 :: st) M) : wp Y R F c n pc lo (.long x :: st) M := by
  intro G p l e s m args below meth cd H locs ls C hR hS hl
  exact lv_l2i C.x C.b (C.d hd) rfl (k G p l e s m args below meth cd H locs ls C hR hS hl)
theorem r_i2b {x : Int32} (hd : Y.2.2.1[pc]? = some (some (.i2b, 1))) (k : wp Y R F c n (pc + 1) lo (.int x.toInt8.toInt32 :: st) M) : wp Y R F c n pc lo (.int x :: st) M := by
  intro G p l e s m args below meth cd H locs ls C hR hS hl
  exact lv_i2b C.x C.b (C.d hd) rfl (k G p l e s m args below meth cd H locs ls C hR hS hl)
theorem r_i2c {x : Int32} (hd : Y.2.2.1[pc]? = some (some (.i2c, 1))) (k : wp Y R F c n (pc + 1) lo (.int (x.toUInt32 % 65536).toInt32 :: st) M) : wp Y R F c n pc lo (.int x :: st) M := by
  intro G p l e s m args below meth cd H locs ls C hR hS hl
  exact lv_i2c C.x C.b (C.d hd) rfl (k G p l e s m args below meth cd H locs ls C hR hS hl)
theorem r_lcmp {x y : Int64} (hd : Y.2.2.1[pc]? = some (some (.lcmp, 1))) (k : wp Y R F c n (pc + 1) lo (.int (lg_cmp x y) :: st) M) : wp Y R F c n pc lo (.long y :: .long x :: st) M := by
  intro G p l e s m args below meth cd H locs ls C hR hS hl
  exact W.lcmp C.x C.b (C.d hd) (k G p l e s m args below meth cd H locs ls C hR hS hl)
theorem r_iconst {z : Int} {v : Int32} (hd : Y.2.2.1[pc]? = some (some (.iconst z, 1))) (hv : Int32.ofInt z = v) (k : wp Y R F c n (pc + 1) lo (.int v :: st) M) : wp Y R F c n pc lo (st) M := by
  intro G p l e s m args below meth cd H locs ls C hR hS hl
  exact lv_iconst C.x C.b (C.d hd) hv (k G p l e s m args below meth cd H locs ls C hR hS hl)
theorem r_bipush {z : Int} {v : Int32} (hd : Y.2.2.1[pc]? = some (some (.bipush z, 2))) (hv : (Int8.ofInt z).toInt32 = v) (k : wp Y R F c n (pc + 2) lo (.int v :: st) M) : wp Y R F c n pc lo (st) M := by
  intro G p l e s m args below meth cd H locs ls C hR hS hl
  exact lv_bipush C.x C.b (C.d hd) hv (k G p l e s m args below meth cd H locs ls C hR hS hl)
theorem r_sipush {z : Int} {v : Int32} (hd : Y.2.2.1[pc]? = some (some (.sipush z, 3))) (hv : (Int16.ofInt z).toInt32 = v) (k : wp Y R F c n (pc + 3) lo (.int v :: st) M) : wp Y R F c n pc lo (st) M := by
  intro G p l e s m args below meth cd H locs ls C hR hS hl
  exact lv_sipush C.x C.b (C.d hd) hv (k G p l e s m args below meth cd H locs ls C hR hS hl)
theorem r_lconst {z : Fin 2} {v : Int64} (hd : Y.2.2.1[pc]? = some (some (.lconst z, 1))) (hv : Int64.ofNat (z : Nat) = v) (k : wp Y R F c n (pc + 1) lo (.long v :: st) M) : wp Y R F c n pc lo (st) M := by
  intro G p l e s m args below meth cd H locs ls C hR hS hl
  exact lv_lconst C.x C.b (C.d hd) hv (k G p l e s m args below meth cd H locs ls C hR hS hl)
theorem r_ldc {ix : Nat} {v : Int32} (hd : Y.2.2.1[pc]? = some (some (.ldc ix, 2))) (hw : Jvm.Cond.constant Y.1.cls ix v ∈ gw) (k : wp Y R F c n (pc + 2) lo (.int v :: st) M) : wp Y R F c n pc lo (st) M := by
  intro G p l e s m args below meth cd H locs ls C hR hS hl
  exact lv_ldc C.x C.b C.own (C.ts _ hw) (C.d hd) (k G p l e s m args below meth cd H locs ls C hR hS hl)
theorem r_ldcw {ix : Nat} {v : Int32} (hd : Y.2.2.1[pc]? = some (some (.ldc_w ix, 3))) (hw : Jvm.Cond.constant Y.1.cls ix v ∈ gw) (k : wp Y R F c n (pc + 3) lo (.int v :: st) M) : wp Y R F c n pc lo (st) M := by
  intro G p l e s m args below meth cd H locs ls C hR hS hl
  exact lv_ldcw C.x C.b C.own (C.ts _ hw) (C.d hd) (k G p l e s m args below meth cd H locs ls C hR hS hl)
theorem r_ldc2 {ix : Nat} {v : Int64} (hd : Y.2.2.1[pc]? = some (some (.ldc2_w ix, 3))) (hw : Jvm.Cond.constantLong Y.1.cls ix v ∈ gw) (k : wp Y R F c n (pc + 3) lo (.long v :: st) M) : wp Y R F c n pc lo (st) M := by
  intro G p l e s m args below meth cd H locs ls C hR hS hl
  exact lv_ldc2 C.x C.b C.own (C.ts _ hw) (C.d hd) (k G p l e s m args below meth cd H locs ls C hR hS hl)
theorem r_null (hd : Y.2.2.1[pc]? = some (some (.aconst_null, 1))) (k : wp Y R F c n (pc + 1) lo (va_rf none :: st) M) : wp Y R F c n pc lo (st) M := by
  intro G p l e s m args below meth cd H locs ls C hR hS hl
  exact lv_null C.x C.b (C.d hd) (k G p l e s m args below meth cd H locs ls C hR hS hl)
theorem r_dup {v : Value} (hd : Y.2.2.1[pc]? = some (some (.dup, 1))) (hv : v.category = 1) (k : wp Y R F c n (pc + 1) lo (v :: v :: st) M) : wp Y R F c n pc lo (v :: st) M := by
  intro G p l e s m args below meth cd H locs ls C hR hS hl
  exact lv_dup C.x C.b (C.d hd) (by rw [sh_cat]; exact hv) (k G p l e s m args below meth cd H locs ls C hR hS hl)
theorem r_pop {v : Value} (hd : Y.2.2.1[pc]? = some (some (.pop, 1))) (hv : v.category = 1) (k : wp Y R F c n (pc + 1) lo (st) M) : wp Y R F c n pc lo (v :: st) M := by
  intro G p l e s m args below meth cd H locs ls C hR hS hl
  exact lv_pop C.x C.b (C.d hd) (by rw [sh_cat]; exact hv) (k G p l e s m args below meth cd H locs ls C hR hS hl)
theorem r_dup2 {v w : Value} (hd : Y.2.2.1[pc]? = some (some (.dup2, 1))) (hv : v.category = 1) (hw : w.category = 1) (k : wp Y R F c n (pc + 1) lo (v :: w :: v :: w :: st) M) : wp Y R F c n pc lo (v :: w :: st) M := by
  intro G p l e s m args below meth cd H locs ls C hR hS hl
  exact lv_dup2_11 C.x C.b (C.d hd) (by rw [sh_cat]; exact hv) (by rw [sh_cat]; exact hw) (k G p l e s m args below meth cd H locs ls C hR hS hl)
theorem r_idiv {x y : Int32} {K : Option (β × Mem)} (hd : Y.2.2.1[pc]? = some (some (.idiv, 1))) (h : FQ (nzI y K) P) (k : FQ K P → wp Y R F c n (pc + 1) lo (.int (x / y) :: st) M) : wp Y R F c n pc lo (.int y :: .int x :: st) M := by
  unfold nzI at h
  by_cases hy : y = 0
  · rw [if_pos hy] at h; obtain ⟨b, M', h1, -⟩ := h; cases h1
  rw [if_neg hy] at h
  intro G p l e s m args below meth cd H locs ls C hR hS hl
  exact lv_idiv C.x C.b (C.d hd) hy (k h G p l e s m args below meth cd H locs ls C hR hS hl)
theorem r_irem {x y : Int32} {K : Option (β × Mem)} (hd : Y.2.2.1[pc]? = some (some (.irem, 1))) (h : FQ (nzI y K) P) (k : FQ K P → wp Y R F c n (pc + 1) lo (.int (x - x / y * y) :: st) M) : wp Y R F c n pc lo (.int y :: .int x :: st) M := by
  unfold nzI at h
  by_cases hy : y = 0
  · rw [if_pos hy] at h; obtain ⟨b, M', h1, -⟩ := h; cases h1
  rw [if_neg hy] at h
  intro G p l e s m args below meth cd H locs ls C hR hS hl
  exact lv_irem C.x C.b (C.d hd) hy (k h G p l e s m args below meth cd H locs ls C hR hS hl)
theorem r_ldiv {x y : Int64} {K : Option (β × Mem)} (hd : Y.2.2.1[pc]? = some (some (.ldiv, 1))) (h : FQ (nzL y K) P) (k : FQ K P → wp Y R F c n (pc + 1) lo (.long (x / y) :: st) M) : wp Y R F c n pc lo (.long y :: .long x :: st) M := by
  unfold nzL at h
  by_cases hy : y = 0
  · rw [if_pos hy] at h; obtain ⟨b, M', h1, -⟩ := h; cases h1
  rw [if_neg hy] at h
  intro G p l e s m args below meth cd H locs ls C hR hS hl
  exact lv_ldiv C.x C.b (C.d hd) hy (k h G p l e s m args below meth cd H locs ls C hR hS hl)
theorem r_lrem {x y : Int64} {K : Option (β × Mem)} (hd : Y.2.2.1[pc]? = some (some (.lrem, 1))) (h : FQ (nzL y K) P) (k : FQ K P → wp Y R F c n (pc + 1) lo (.long (x - x / y * y) :: st) M) : wp Y R F c n pc lo (.long y :: .long x :: st) M := by
  unfold nzL at h
  by_cases hy : y = 0
  · rw [if_pos hy] at h; obtain ⟨b, M', h1, -⟩ := h; cases h1
  rw [if_neg hy] at h
  intro G p l e s m args below meth cd H locs ls C hR hS hl
  exact lv_lrem C.x C.b (C.d hd) hy (k h G p l e s m args below meth cd H locs ls C hR hS hl)
theorem r_iload_n {j : Fin 4} {x : Int32} (hd : Y.2.2.1[pc]? = some (some (.iload_n j, 1))) (h : lo[(j : Nat)]? = some (some (.int x))) (k : wp Y R F c n (pc + 1) lo (.int x :: st) M) : wp Y R F c n pc lo st M := by
  intro G p l e s m args below meth cd H locs ls C hR hS hl
  exact lv_iload_n C.x C.b (C.d hd) rfl (hl.at h) (k G p l e s m args below meth cd H locs ls C hR hS hl)
theorem r_iload {i : Nat} {x : Int32} (hd : Y.2.2.1[pc]? = some (some (.iload i, 2))) (h : lo[i]? = some (some (.int x))) (k : wp Y R F c n (pc + 2) lo (.int x :: st) M) : wp Y R F c n pc lo st M := by
  intro G p l e s m args below meth cd H locs ls C hR hS hl
  exact lv_iload C.x C.b (C.d hd) (hl.at h) (k G p l e s m args below meth cd H locs ls C hR hS hl)
theorem r_lload_n {j : Fin 4} {x : Int64} (hd : Y.2.2.1[pc]? = some (some (.lload_n j, 1))) (h : lo[(j : Nat)]? = some (some (.long x))) (k : wp Y R F c n (pc + 1) lo (.long x :: st) M) : wp Y R F c n pc lo st M := by
  intro G p l e s m args below meth cd H locs ls C hR hS hl
  exact lv_lload_n C.x C.b (C.d hd) rfl (hl.at h) (k G p l e s m args below meth cd H locs ls C hR hS hl)
theorem r_lload {i : Nat} {x : Int64} (hd : Y.2.2.1[pc]? = some (some (.lload i, 2))) (h : lo[i]? = some (some (.long x))) (k : wp Y R F c n (pc + 2) lo (.long x :: st) M) : wp Y R F c n pc lo st M := by
  intro G p l e s m args below meth cd H locs ls C hR hS hl
  exact lv_lload C.x C.b (C.d hd) (hl.at h) (k G p l e s m args below meth cd H locs ls C hR hS hl)
theorem r_aload_n {j : Fin 4} {r : Option Nat} (hd : Y.2.2.1[pc]? = some (some (.aload_n j, 1))) (h : lo[(j : Nat)]? = some (some (va_rf r))) (k : wp Y R F c n (pc + 1) lo (va_rf r :: st) M) : wp Y R F c n pc lo st M := by
  intro G p l e s m args below meth cd H locs ls C hR hS hl
  have k1 := k G p l e s m args below meth cd H locs ls C hR hS hl
  have h1 := hl.at h
  cases r with
  | none => exact lv_aload_nN C.x C.b (C.d hd) rfl h1 k1
  | some a => exact lv_aload_n C.x C.b (C.d hd) rfl h1 k1
theorem r_aload {i : Nat} {r : Option Nat} (hd : Y.2.2.1[pc]? = some (some (.aload i, 2))) (h : lo[i]? = some (some (va_rf r))) (k : wp Y R F c n (pc + 2) lo (va_rf r :: st) M) : wp Y R F c n pc lo st M := by
  intro G p l e s m args below meth cd H locs ls C hR hS hl
  have k1 := k G p l e s m args below meth cd H locs ls C hR hS hl
  have h1 := hl.at h
  cases r with
  | none => exact lv_aloadN C.x C.b (C.d hd) h1 k1
  | some a => exact lv_aload C.x C.b (C.d hd) h1 k1
theorem r_istore_n {j : Fin 4} {x : Int32} {lo' : List (Option Value)} (hd : Y.2.2.1[pc]? = some (some (.istore_n j, 1))) (hn : Nat.blt j Y.2.2.2.1 = true) (ho : stOk lo j = true) (e : lo.set j (some (.int x)) = lo') (k : wp Y R F c n (pc + 1) lo' st M) : wp Y R F c n pc lo (.int x :: st) M := by
  subst e
  intro G p l e s m args below meth cd H locs ls C hR hS hl
  exact lv_istore_n C.x C.b (C.d hd) rfl hl.has (Nat.le_of_ble_eq_true hn) rfl (fun ls' h' => k G p l e s m args below meth cd H locs ls' C hR hS (lvh.set1 (v := .int x) rfl ho h'))
theorem r_istore {i : Nat} {x : Int32} {lo' : List (Option Value)} (hd : Y.2.2.1[pc]? = some (some (.istore i, 2))) (hn : Nat.blt i Y.2.2.2.1 = true) (ho : stOk lo i = true) (e : lo.set i (some (.int x)) = lo') (k : wp Y R F c n (pc + 2) lo' st M) : wp Y R F c n pc lo (.int x :: st) M := by
  subst e
  intro G p l e s m args below meth cd H locs ls C hR hS hl
  exact lv_istore C.x C.b (C.d hd) hl.has (Nat.le_of_ble_eq_true hn) rfl (fun ls' h' => k G p l e s m args below meth cd H locs ls' C hR hS (lvh.set1 (v := .int x) rfl ho h'))
theorem r_iinc {i : Nat} {z : Int} {x v : Int32} {lo' : List (Option Value)} (hd : Y.2.2.1[pc]? = some (some (.iinc i z, 3))) (hn : Nat.blt i Y.2.2.2.1 = true) (h : lo[i]? = some (some (.int x))) (hv : Int32.ofInt z = v) (ho : stOk lo i = true) (e : lo.set i (some (.int (x + v))) = lo') (k : wp Y R F c n (pc + 3) lo' st M) : wp Y R F c n pc lo st M := by
  subst e
  subst hv
  intro G p l e s m args below meth cd H locs ls C hR hS hl
  have hm : (i, Value.int x) ∈ lv_as G lo := lv_as_mem.mpr ⟨.int x, h, rfl⟩
  obtain ⟨q, hq⟩ := List.getElem?_of_mem hm
  exact lv_iinc C.x C.b (C.d hd) hl.has hq rfl (Nat.le_of_ble_eq_true hn) rfl (fun ls' h' => k G p l e s m args below meth cd H locs ls' C hR hS (lvh.set1 (v := .int (x + Int32.ofInt z)) rfl ho h'))
theorem r_lstore_n {j : Fin 4} {x : Int64} {lo' : List (Option Value)} (hd : Y.2.2.1[pc]? = some (some (.lstore_n j, 1))) (hn : Nat.blt (j + 1) Y.2.2.2.1 = true) (ho : stOk lo j = true) (e : (lo.set j (some (.long x))).set (j + 1) none = lo') (k : wp Y R F c n (pc + 1) lo' st M) : wp Y R F c n pc lo (.long x :: st) M := by
  subst e
  intro G p l e s m args below meth cd H locs ls C hR hS hl
  exact lv_lstore_n C.x C.b (C.d hd) rfl hl.has (Nat.le_of_ble_eq_true hn) rfl (fun ls' h' => k G p l e s m args below meth cd H locs ls' C hR hS (lvh.set2 (v := .long x) ho h'))
theorem r_lstore {i : Nat} {x : Int64} {lo' : List (Option Value)} (hd : Y.2.2.1[pc]? = some (some (.lstore i, 2))) (hn : Nat.blt (i + 1) Y.2.2.2.1 = true) (ho : stOk lo i = true) (e : (lo.set i (some (.long x))).set (i + 1) none = lo') (k : wp Y R F c n (pc + 2) lo' st M) : wp Y R F c n pc lo (.long x :: st) M := by
  subst e
  intro G p l e s m args below meth cd H locs ls C hR hS hl
  exact lv_lstore C.x C.b (C.d hd) hl.has (Nat.le_of_ble_eq_true hn) rfl (fun ls' h' => k G p l e s m args below meth cd H locs ls' C hR hS (lvh.set2 (v := .long x) ho h'))
theorem r_astore_n {j : Fin 4} {r : Option Nat} {lo' : List (Option Value)} (hd : Y.2.2.1[pc]? = some (some (.astore_n j, 1))) (hn : Nat.blt j Y.2.2.2.1 = true) (ho : stOk lo j = true) (e : lo.set j (some (va_rf r)) = lo') (k : wp Y R F c n (pc + 1) lo' st M) : wp Y R F c n pc lo (va_rf r :: st) M := by
  subst e
  intro G p l e s m args below meth cd H locs ls C hR hS hl
  cases r with
  | none => exact lv_astore_nN C.x C.b (C.d hd) rfl hl.has (Nat.le_of_ble_eq_true hn) rfl (fun ls' h' => k G p l e s m args below meth cd H locs ls' C hR hS (lvh.set1 (v := .null) rfl ho h'))
  | some a => exact lv_astore_n C.x C.b (C.d hd) rfl hl.has (Nat.le_of_ble_eq_true hn) rfl (fun ls' h' => k G p l e s m args below meth cd H locs ls' C hR hS (lvh.set1 (v := .ref a) rfl ho h'))
theorem r_astore {i : Nat} {r : Option Nat} {lo' : List (Option Value)} (hd : Y.2.2.1[pc]? = some (some (.astore i, 2))) (hn : Nat.blt i Y.2.2.2.1 = true) (ho : stOk lo i = true) (e : lo.set i (some (va_rf r)) = lo') (k : wp Y R F c n (pc + 2) lo' st M) : wp Y R F c n pc lo (va_rf r :: st) M := by
  subst e
  intro G p l e s m args below meth cd H locs ls C hR hS hl
  cases r with
  | none => exact lv_astoreN C.x C.b (C.d hd) hl.has (Nat.le_of_ble_eq_true hn) rfl (fun ls' h' => k G p l e s m args below meth cd H locs ls' C hR hS (lvh.set1 (v := .null) rfl ho h'))
  | some a => exact lv_astore C.x C.b (C.d hd) hl.has (Nat.le_of_ble_eq_true hn) rfl (fun ls' h' => k G p l e s m args below meth cd H locs ls' C hR hS (lvh.set1 (v := .ref a) rfl ho h'))
theorem r_if_eq {x : Int32} {off : Int} {A B : Option (β × Mem)} (tg : Nat) (hd : Y.2.2.1[pc]? = some (some (.ifCond .eq off, 3))) (ht : (pc : Int) + off = (tg : Int)) (h : FQ (if x = 0 then A else B) P) (kt : FQ A P → wp Y R F c n tg lo st M) (kf : FQ B P → wp Y R F c n (pc + 3) lo st M) : wp Y R F c n pc lo (.int x :: st) M := by
  replace h := h.ite
  intro G p l e s m args below meth cd H locs ls C hR hS hl
  exact lv_if_eq C.x C.b (C.d hd) ht (fun q => kt (h.1 q) G p l e s m args below meth cd H locs ls C hR hS hl) (fun q => kf (h.2 q) G p l e s m args below meth cd H locs ls C hR hS hl)
theorem r_if_lt {x : Int32} {off : Int} {A B : Option (β × Mem)} (tg : Nat) (hd : Y.2.2.1[pc]? = some (some (.ifCond .lt off, 3))) (ht : (pc : Int) + off = (tg : Int)) (h : FQ (if x < 0 then A else B) P) (kt : FQ A P → wp Y R F c n tg lo st M) (kf : FQ B P → wp Y R F c n (pc + 3) lo st M) : wp Y R F c n pc lo (.int x :: st) M := by
  replace h := h.ite
  intro G p l e s m args below meth cd H locs ls C hR hS hl
  exact lv_if_lt C.x C.b (C.d hd) ht (fun q => kt (h.1 q) G p l e s m args below meth cd H locs ls C hR hS hl) (fun q => kf (h.2 q) G p l e s m args below meth cd H locs ls C hR hS hl)
theorem r_if_ge {x : Int32} {off : Int} {A B : Option (β × Mem)} (tg : Nat) (hd : Y.2.2.1[pc]? = some (some (.ifCond .ge off, 3))) (ht : (pc : Int) + off = (tg : Int)) (h : FQ (if 0 ≤ x then A else B) P) (kt : FQ A P → wp Y R F c n tg lo st M) (kf : FQ B P → wp Y R F c n (pc + 3) lo st M) : wp Y R F c n pc lo (.int x :: st) M := by
  replace h := h.ite
  intro G p l e s m args below meth cd H locs ls C hR hS hl
  exact lv_if_ge C.x C.b (C.d hd) ht (fun q => kt (h.1 q) G p l e s m args below meth cd H locs ls C hR hS hl) (fun q => kf (h.2 q) G p l e s m args below meth cd H locs ls C hR hS hl)
theorem r_if_gt {x : Int32} {off : Int} {A B : Option (β × Mem)} (tg : Nat) (hd : Y.2.2.1[pc]? = some (some (.ifCond .gt off, 3))) (ht : (pc : Int) + off = (tg : Int)) (h : FQ (if 0 < x then A else B) P) (kt : FQ A P → wp Y R F c n tg lo st M) (kf : FQ B P → wp Y R F c n (pc + 3) lo st M) : wp Y R F c n pc lo (.int x :: st) M := by
  replace h := h.ite
  intro G p l e s m args below meth cd H locs ls C hR hS hl
  exact lv_if_gt C.x C.b (C.d hd) ht (fun q => kt (h.1 q) G p l e s m args below meth cd H locs ls C hR hS hl) (fun q => kf (h.2 q) G p l e s m args below meth cd H locs ls C hR hS hl)
theorem r_if_le {x : Int32} {off : Int} {A B : Option (β × Mem)} (tg : Nat) (hd : Y.2.2.1[pc]? = some (some (.ifCond .le off, 3))) (ht : (pc : Int) + off = (tg : Int)) (h : FQ (if x ≤ 0 then A else B) P) (kt : FQ A P → wp Y R F c n tg lo st M) (kf : FQ B P → wp Y R F c n (pc + 3) lo st M) : wp Y R F c n pc lo (.int x :: st) M := by
  replace h := h.ite
  intro G p l e s m args below meth cd H locs ls C hR hS hl
  exact lv_if_le C.x C.b (C.d hd) ht (fun q => kt (h.1 q) G p l e s m args below meth cd H locs ls C hR hS hl) (fun q => kf (h.2 q) G p l e s m args below meth cd H locs ls C hR hS hl)
theorem r_if_ne {x : Int32} {off : Int} {A B : Option (β × Mem)} (tg : Nat) (hd : Y.2.2.1[pc]? = some (some (.ifCond .ne off, 3))) (ht : (pc : Int) + off = (tg : Int)) (h : FQ (if x = 0 then A else B) P) (kf : FQ A P → wp Y R F c n (pc + 3) lo st M) (kt : FQ B P → wp Y R F c n tg lo st M) : wp Y R F c n pc lo (.int x :: st) M := by
  replace h := h.ite
  intro G p l e s m args below meth cd H locs ls C hR hS hl
  exact lv_if_ne C.x C.b (C.d hd) ht (fun q => kt (h.2 q) G p l e s m args below meth cd H locs ls C hR hS hl) (fun q => kf (h.1 q) G p l e s m args below meth cd H locs ls C hR hS hl)
theorem r_ic_eq {x y : Int32} {off : Int} {A B : Option (β × Mem)} (tg : Nat) (hd : Y.2.2.1[pc]? = some (some (.if_icmp .eq off, 3))) (ht : (pc : Int) + off = (tg : Int)) (h : FQ (if x = y then A else B) P) (kt : FQ A P → wp Y R F c n tg lo st M) (kf : FQ B P → wp Y R F c n (pc + 3) lo st M) : wp Y R F c n pc lo (.int y :: .int x :: st) M := by
  replace h := h.ite
  intro G p l e s m args below meth cd H locs ls C hR hS hl
  exact lv_icmp_eq C.x C.b (C.d hd) ht (fun q => kt (h.1 q) G p l e s m args below meth cd H locs ls C hR hS hl) (fun q => kf (h.2 q) G p l e s m args below meth cd H locs ls C hR hS hl)
theorem r_ic_lt {x y : Int32} {off : Int} {A B : Option (β × Mem)} (tg : Nat) (hd : Y.2.2.1[pc]? = some (some (.if_icmp .lt off, 3))) (ht : (pc : Int) + off = (tg : Int)) (h : FQ (if x < y then A else B) P) (kt : FQ A P → wp Y R F c n tg lo st M) (kf : FQ B P → wp Y R F c n (pc + 3) lo st M) : wp Y R F c n pc lo (.int y :: .int x :: st) M := by
  replace h := h.ite
  intro G p l e s m args below meth cd H locs ls C hR hS hl
  exact lv_icmp_lt C.x C.b (C.d hd) ht (fun q => kt (h.1 q) G p l e s m args below meth cd H locs ls C hR hS hl) (fun q => kf (h.2 q) G p l e s m args below meth cd H locs ls C hR hS hl)
theorem r_ic_ge {x y : Int32} {off : Int} {A B : Option (β × Mem)} (tg : Nat) (hd : Y.2.2.1[pc]? = some (some (.if_icmp .ge off, 3))) (ht : (pc : Int) + off = (tg : Int)) (h : FQ (if y ≤ x then A else B) P) (kt : FQ A P → wp Y R F c n tg lo st M) (kf : FQ B P → wp Y R F c n (pc + 3) lo st M) : wp Y R F c n pc lo (.int y :: .int x :: st) M := by
  replace h := h.ite
  intro G p l e s m args below meth cd H locs ls C hR hS hl
  exact lv_icmp_ge C.x C.b (C.d hd) ht (fun q => kt (h.1 q) G p l e s m args below meth cd H locs ls C hR hS hl) (fun q => kf (h.2 q) G p l e s m args below meth cd H locs ls C hR hS hl)
theorem r_ic_gt {x y : Int32} {off : Int} {A B : Option (β × Mem)} (tg : Nat) (hd : Y.2.2.1[pc]? = some (some (.if_icmp .gt off, 3))) (ht : (pc : Int) + off = (tg : Int)) (h : FQ (if y < x then A else B) P) (kt : FQ A P → wp Y R F c n tg lo st M) (kf : FQ B P → wp Y R F c n (pc + 3) lo st M) : wp Y R F c n pc lo (.int y :: .int x :: st) M := by
  replace h := h.ite
  intro G p l e s m args below meth cd H locs ls C hR hS hl
  exact lv_icmp_gt C.x C.b (C.d hd) ht (fun q => kt (h.1 q) G p l e s m args below meth cd H locs ls C hR hS hl) (fun q => kf (h.2 q) G p l e s m args below meth cd H locs ls C hR hS hl)
theorem r_ic_le {x y : Int32} {off : Int} {A B : Option (β × Mem)} (tg : Nat) (hd : Y.2.2.1[pc]? = some (some (.if_icmp .le off, 3))) (ht : (pc : Int) + off = (tg : Int)) (h : FQ (if x ≤ y then A else B) P) (kt : FQ A P → wp Y R F c n tg lo st M) (kf : FQ B P → wp Y R F c n (pc + 3) lo st M) : wp Y R F c n pc lo (.int y :: .int x :: st) M := by
  replace h := h.ite
  intro G p l e s m args below meth cd H locs ls C hR hS hl
  exact lv_icmp_le C.x C.b (C.d hd) ht (fun q => kt (h.1 q) G p l e s m args below meth cd H locs ls C hR hS hl) (fun q => kf (h.2 q) G p l e s m args below meth cd H locs ls C hR hS hl)
theorem r_ic_ne {x y : Int32} {off : Int} {A B : Option (β × Mem)} (tg : Nat) (hd : Y.2.2.1[pc]? = some (some (.if_icmp .ne off, 3))) (ht : (pc : Int) + off = (tg : Int)) (h : FQ (if x = y then A else B) P) (kf : FQ A P → wp Y R F c n (pc + 3) lo st M) (kt : FQ B P → wp Y R F c n tg lo st M) : wp Y R F c n pc lo (.int y :: .int x :: st) M := by
  replace h := h.ite
  intro G p l e s m args below meth cd H locs ls C hR hS hl
  exact lv_icmp_ne C.x C.b (C.d hd) ht (fun q => kt (h.2 q) G p l e s m args below meth cd H locs ls C hR hS hl) (fun q => kf (h.1 q) G p l e s m args below meth cd H locs ls C hR hS hl)
theorem r_goto {off : Int} (tg : Nat) (hd : Y.2.2.1[pc]? = some (some (.goto off, 3))) (ht : (pc : Int) + off = (tg : Int)) (k : wp Y R F c n tg lo st M) : wp Y R F c n pc lo st M := by
  intro G p l e s m args below meth cd H locs ls C hR hS hl
  exact lv_goto C.x C.b (C.d hd) ht (k G p l e s m args below meth cd H locs ls C hR hS hl)
theorem r_null_t {r : Option Nat} {off : Int} {A B : Option (β × Mem)} (tg : Nat) (hd : Y.2.2.1[pc]? = some (some (.ifnull off, 3))) (ht : (pc : Int) + off = (tg : Int)) (h : FQ (if r = none then A else B) P) (kt : FQ A P → wp Y R F c n tg lo st M) (kf : FQ B P → wp Y R F c n (pc + 3) lo st M) : wp Y R F c n pc lo (va_rf r :: st) M := by
  replace h := h.ite
  intro G p l e s m args below meth cd H locs ls C hR hS hl
  cases r with
  | none => exact lv_ifnullN C.x C.b (C.d hd) ht (kt (h.1 rfl) G p l e s m args below meth cd H locs ls C hR hS hl)
  | some a => exact lv_ifnull C.x C.b (C.d hd) (kf (h.2 (by simp)) G p l e s m args below meth cd H locs ls C hR hS hl)
theorem r_null_f {r : Option Nat} {off : Int} {A B : Option (β × Mem)} (tg : Nat) (hd : Y.2.2.1[pc]? = some (some (.ifnonnull off, 3))) (ht : (pc : Int) + off = (tg : Int)) (h : FQ (if r = none then A else B) P) (kf : FQ A P → wp Y R F c n (pc + 3) lo st M) (kt : FQ B P → wp Y R F c n tg lo st M) : wp Y R F c n pc lo (va_rf r :: st) M := by
  replace h := h.ite
  intro G p l e s m args below meth cd H locs ls C hR hS hl
  cases r with
  | none => exact lv_ifnonnullN C.x C.b (C.d hd) (kf (h.1 rfl) G p l e s m args below meth cd H locs ls C hR hS hl)
  | some a => exact lv_ifnonnull C.x C.b (C.d hd) ht (kt (h.2 (by simp)) G p l e s m args below meth cd H locs ls C hR hS hl)
/-- the switches, as a row of questions -/
def swt (ks : List (Int32 × Nat)) (dt : Nat) (x : Int32) : Nat := match ks with
  | [] => dt
  | (k, t) :: r => if x = k then t else swt r dt x
theorem r_swc {k : Int32} {t dt : Nat} {r : List (Int32 × Nat)} {x : Int32} {A B : Option (β × Mem)} (h : FQ (if x = k then A else B) P) (kt : FQ A P → wp Y R F c n t lo st M) (kf : FQ B P → wp Y R F c n (swt r dt x) lo st M) : wp Y R F c n (swt ((k, t) :: r) dt x) lo st M := by
  replace h := h.ite
  unfold swt
  by_cases hx : x = k
  · rw [if_pos hx]; exact kt (h.1 hx)
  · rw [if_neg hx]; exact kf (h.2 hx)
theorem r_swd {dt : Nat} {x : Int32} (k : wp Y R F c n dt lo st M) : wp Y R F c n (swt [] dt x) lo st M := k
def tabL (pc : Nat) (lw : Int) : List Int → List (Int32 × Nat)
  | [] => []
  | o :: r => (Int32.ofInt lw, ((pc : Int) + o).toNat) :: tabL pc (lw + 1) r
theorem tab_swt (pc dt : Nat) (x : Int32) : ∀ (offs : List Int) (lw : Int), -2147483648 ≤ lw → lw + offs.length ≤ 2147483648 → ((x.toInt < lw ∨ lw + offs.length ≤ x.toInt) → swt (tabL pc lw offs) dt x = dt) ∧ (∀ (i : Nat) (o : Int), offs[i]? = some o → x.toInt = lw + i → swt (tabL pc lw offs) dt x = ((pc : Int) + o).toNat) := by
  intro offs
  induction offs with
  | nil => intro lw _ _; exact ⟨fun _ => rfl, fun i o h => by simp at h⟩
  | cons o r ih =>
    intro lw h1 h2
    have h2' : lw + (r.length + 1 : Nat) ≤ 2147483648 := h2
    have hx : x = Int32.ofInt lw ↔ x.toInt = lw := by
      constructor
      · intro e; rw [e]; exact Int32.toInt_ofInt_of_le (by simpa using h1) (by simp; omega)
      · intro e; rw [← e]; simp
    obtain ⟨i1, i2⟩ := ih (lw + 1) (by omega) (by omega)
    constructor
    · intro h
      have hne : ¬ x = Int32.ofInt lw := fun e => by have := hx.mp e; simp only [List.length_cons] at h; omega
      unfold tabL swt
      rw [if_neg hne]
      refine i1 ?_
      simp only [List.length_cons] at h
      rcases h with h | h
      · left; omega
      · right; omega
    · intro i o' hi hxi
      cases i with
      | zero =>
        simp at hi
        subst hi
        unfold tabL swt
        rw [if_pos (hx.mpr (by simpa using hxi))]
      | succ i =>
        have hne : ¬ x = Int32.ofInt lw := fun e => by have := hx.mp e; omega
        unfold tabL swt
        rw [if_neg hne]
        exact i2 i o' (by simpa using hi) (by omega)
theorem r_table {dflt lw hi : Int} {offs : Array Int} {len dt : Nat} {x : Int32} {ks : List (Int32 × Nat)} (hd : Y.2.2.1[pc]? = some (some (.tableswitch dflt lw hi offs, len))) (h1 : -2147483648 ≤ lw ∧ lw + offs.toList.length ≤ 2147483648 ∧ hi + 1 = lw + offs.toList.length ∧ (pc : Int) + dflt = (dt : Int) ∧ offs.toList.all (fun o => decide (0 ≤ (pc : Int) + o)) = true) (hk : tabL pc lw offs.toList = ks) (k : wp Y R F c n (swt ks dt x) lo st M) : wp Y R F c n pc lo (.int x :: st) M := by
  subst hk
  obtain ⟨a1, a2, a3, a4, a5⟩ := h1
  obtain ⟨t1, t2⟩ := tab_swt pc dt x offs.toList lw a1 a2
  intro G p l e s m args below meth cd H locs ls C hR hS hl
  have k1 := k G p l e s m args below meth cd H locs ls C hR hS hl
  by_cases ho : x.toInt < lw ∨ hi < x.toInt
  · rw [t1 (by rcases ho with h | h; exact Or.inl h; exact Or.inr (by omega))] at k1
    exact lv_tableOut C.x C.b (C.d hd) ho a4 k1
  · have b1 : ¬ x.toInt < lw := fun h => ho (Or.inl h)
    have b2 : ¬ hi < x.toInt := fun h => ho (Or.inr h)
    have hlt : (x.toInt - lw).toNat < offs.toList.length := by omega
    have hg : offs.toList[(x.toInt - lw).toNat]? = some (offs.toList[(x.toInt - lw).toNat]) := List.getElem?_eq_getElem hlt
    have hz := List.all_eq_true.mp a5 _ (List.getElem_mem hlt)
    rw [t2 _ _ hg (by omega)] at k1
    exact lv_tableIn C.x C.b (C.d hd) b1 b2 (by rw [← Array.getElem?_toList]; exact hg) (by have hz := of_decide_eq_true hz; omega) k1
def lkL (pc : Nat) : List (Int × Int) → List (Int32 × Nat)
  | [] => []
  | (a, o) :: r => (Int32.ofInt a, ((pc : Int) + o).toNat) :: lkL pc r
theorem lk_swt (pc dt : Nat) (dflt : Int) (x : Int32) (hdt : (pc : Int) + dflt = (dt : Int)) : ∀ ps : List (Int × Int), ps.all (fun q => decide (-2147483648 ≤ q.1 ∧ q.1 < 2147483648 ∧ 0 ≤ (pc : Int) + q.2)) = true → (pc : Int) + Op.lookupswitch.offset ps dflt x.toInt = (swt (lkL pc ps) dt x : Int) := by
  intro ps
  induction ps with
  | nil => intro _; exact hdt
  | cons q r ih =>
    intro h
    obtain ⟨a, o⟩ := q
    rw [List.all_cons, Bool.and_eq_true] at h
    obtain ⟨b1, b2, b3⟩ := of_decide_eq_true h.1
    have hx : x = Int32.ofInt a ↔ x.toInt = a := by
      constructor
      · intro e; rw [e]; exact Int32.toInt_ofInt_of_le (by simpa using b1) (by simpa using b2)
      · intro e; rw [← e]; simp
    unfold lkL swt
    by_cases e : x = Int32.ofInt a
    · rw [if_pos e]
      have : Op.lookupswitch.offset ((a, o) :: r) dflt x.toInt = o := by
        simp [Op.lookupswitch.offset, hx.mp e]
      rw [this]
      exact (Int.toNat_of_nonneg b3).symm
    · rw [if_neg e, ← ih h.2]
      have e2 : ¬ x.toInt = a := fun z => e (hx.mpr z)
      have := lv_osw (x := x) (k := Int32.ofInt a) (a := a) (o := o) (d := dflt) (r := r) e (Int32.toInt_ofInt_of_le (by simpa using b1) (by simpa using b2))
      rw [this]
theorem r_lookup {dflt : Int} {ps : Array (Int × Int)} {len dt : Nat} {x : Int32} {ks : List (Int32 × Nat)} (hd : Y.2.2.1[pc]? = some (some (.lookupswitch dflt ps, len))) (h1 : (pc : Int) + dflt = (dt : Int)) (h2 : ps.toList.all (fun q => decide (-2147483648 ≤ q.1 ∧ q.1 < 2147483648 ∧ 0 ≤ (pc : Int) + q.2)) = true) (h3 : (ps.toList.zip (ps.toList.drop 1)).all (fun (a, next) => a.1 < next.1) = true) (hk : lkL pc ps.toList = ks) (k : wp Y R F c n (swt ks dt x) lo st M) : wp Y R F c n pc lo (.int x :: st) M := by
  subst hk
  intro G p l e s m args below meth cd H locs ls C hR hS hl
  exact lv_lookup C.x C.b (C.d hd) h3 rfl (lk_swt pc dt dflt x h1 ps.toList h2) (k G p l e s m args below meth cd H locs ls C hR hS hl)
end RU
