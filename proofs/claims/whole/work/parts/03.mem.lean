/-! ===== the flat memory: types by address, next free address, ints, longs, references ===== -/
abbrev Mem : Type := (Nat → Nat × Nat) × Nat × (Nat → Nat → Int32) × (Nat → Nat → Int64) × (Nat → Nat → Option Nat)
def mT (M : Mem) : Nat → Nat × Nat := M.1
def mZ (M : Mem) : Nat := M.2.1
def mI (M : Mem) : Nat → Nat → Int32 := M.2.2.1
def mL (M : Mem) : Nat → Nat → Int64 := M.2.2.2.1
def mR (M : Mem) : Nat → Nat → Option Nat := M.2.2.2.2
def up1 {α : Type} (f : Nat → α) (k : Nat) (v : α) : Nat → α := fun j => if j = k then v else f j
def up2 {α : Type} (f : Nat → Nat → α) (a k : Nat) (v : α) : Nat → Nat → α := fun b => if b = a then up1 (f a) k v else f b
def sI (M : Mem) (a k : Nat) (v : Int32) : Mem := (M.1, M.2.1, up2 M.2.2.1 a k v, M.2.2.2.1, M.2.2.2.2)
def sL (M : Mem) (a k : Nat) (v : Int64) : Mem := (M.1, M.2.1, M.2.2.1, up2 M.2.2.2.1 a k v, M.2.2.2.2)
def sR (M : Mem) (a k : Nat) (v : Option Nat) : Mem := (M.1, M.2.1, M.2.2.1, M.2.2.2.1, up2 M.2.2.2.2 a k v)
/-- a copy of a row's stretch -/
def sC (M : Mem) (a : Nat) (f : Nat → Int32) : Mem := (M.1, M.2.1, up1 M.2.2.1 a f, M.2.2.2.1, M.2.2.2.2)
/-- a new cell of type t -/
def sN (M : Mem) (t : Nat × Nat) : Mem := (up1 M.1 M.2.1 t, M.2.1 + 1, up1 M.2.2.1 M.2.1 (fun _ => 0), up1 M.2.2.2.1 M.2.1 (fun _ => 0), up1 M.2.2.2.2 M.2.1 (fun _ => none))
theorem up1_s {α : Type} {f : Nat → α} {k : Nat} {v : α} : up1 f k v k = v := by simp [up1]
theorem up1_n {α : Type} {f : Nat → α} {k j : Nat} {v : α} (h : j ≠ k) : up1 f k v j = f j := by simp [up1, h]
theorem up2_s {α : Type} {f : Nat → Nat → α} {a k : Nat} {v : α} : up2 f a k v a = up1 (f a) k v := by simp [up2]
theorem up2_n {α : Type} {f : Nat → Nat → α} {a k b : Nat} {v : α} (h : b ≠ a) : up2 f a k v b = f b := by simp [up2, h]
/-- what a run hands on: its end, and the memory -/
def FQ {β : Type} (o : Option (β × Mem)) (P : β → Mem → Prop) : Prop := ∃ b M', o = some (b, M') ∧ P b M'
/-- the steps that ask the memory -/
def gI {β : Type} (M : Mem) (r : Option Nat) (c k : Nat) (K : Int32 → Option β) : Option β := match r with
  | some a => if mT M a = (1, c) then K (mI M a k) else none
  | none => none
def gL {β : Type} (M : Mem) (r : Option Nat) (c k : Nat) (K : Int64 → Option β) : Option β := match r with
  | some a => if mT M a = (1, c) then K (mL M a k) else none
  | none => none
def gR {β : Type} (M : Mem) (r : Option Nat) (c k : Nat) (K : Option Nat → Option β) : Option β := match r with
  | some a => if mT M a = (1, c) then K (mR M a k) else none
  | none => none
def pI {β : Type} (M : Mem) (r : Option Nat) (c k : Nat) (v : Int32) (K : Mem → Option β) : Option β := match r with
  | some a => if mT M a = (1, c) then K (sI M a k v) else none
  | none => none
def pL {β : Type} (M : Mem) (r : Option Nat) (c k : Nat) (v : Int64) (K : Mem → Option β) : Option β := match r with
  | some a => if mT M a = (1, c) then K (sL M a k v) else none
  | none => none
def pR {β : Type} (M : Mem) (r : Option Nat) (c k : Nat) (v : Option Nat) (K : Mem → Option β) : Option β := match r with
  | some a => if mT M a = (1, c) then K (sR M a k v) else none
  | none => none
/-- rows: t says which kind of row it is -/
def aI {β : Type} (M : Mem) (r : Option Nat) (t : Nat) (i : Int32) (K : Int32 → Option β) : Option β := match r with
  | some a => if (mT M a).1 = t ∧ 0 ≤ i ∧ i.toNatClampNeg < (mT M a).2 then K (mI M a i.toNatClampNeg) else none
  | none => none
def aL {β : Type} (M : Mem) (r : Option Nat) (i : Int32) (K : Int64 → Option β) : Option β := match r with
  | some a => if (mT M a).1 = 3 ∧ 0 ≤ i ∧ i.toNatClampNeg < (mT M a).2 then K (mL M a i.toNatClampNeg) else none
  | none => none
def aR {β : Type} (M : Mem) (r : Option Nat) (t : Nat) (i : Int32) (K : Option Nat → Option β) : Option β := match r with
  | some a => if (mT M a).1 = t ∧ 0 ≤ i ∧ i.toNatClampNeg < (mT M a).2 then K (mR M a i.toNatClampNeg) else none
  | none => none
def wI {β : Type} (M : Mem) (r : Option Nat) (t : Nat) (i v : Int32) (K : Mem → Option β) : Option β := match r with
  | some a => if (mT M a).1 = t ∧ 0 ≤ i ∧ i.toNatClampNeg < (mT M a).2 then K (sI M a i.toNatClampNeg v) else none
  | none => none
def wL {β : Type} (M : Mem) (r : Option Nat) (i : Int32) (v : Int64) (K : Mem → Option β) : Option β := match r with
  | some a => if (mT M a).1 = 3 ∧ 0 ≤ i ∧ i.toNatClampNeg < (mT M a).2 then K (sL M a i.toNatClampNeg v) else none
  | none => none
def wR {β : Type} (M : Mem) (r : Option Nat) (t : Nat) (i : Int32) (v : Option Nat) (K : Mem → Option β) : Option β := match r with
  | some a => if (mT M a).1 = t ∧ 0 ≤ i ∧ i.toNatClampNeg < (mT M a).2 ∧ (∀ b, v = some b → mT M b = (1, if t = 6 then 1 else 6)) then K (sR M a i.toNatClampNeg v) else none
  | none => none
def aN {β : Type} (M : Mem) (r : Option Nat) (K : Int32 → Option β) : Option β := match r with
  | some a => if 2 ≤ (mT M a).1 ∧ (mT M a).1 ≠ 9 ∧ (mT M a).1 ≤ 10 then K (Int32.ofNat (mT M a).2) else none
  | none => none
/-- a call whose receiver must be there, and of its class -/
def cR {β : Type} (M : Mem) (r : Option Nat) (t : Nat × Nat) (K : Option β) : Option β := match r with
  | some a => if mT M a = t then K else none
  | none => none
/-- a call -/
def cA {β γ : Type} (o : Option (β × Mem)) (K : β → Mem → Option γ) : Option γ := match o with
  | some (b, M) => K b M
  | none => none
/-- a divisor that isn't 0 -/
def nzI {β : Type} (y : Int32) (K : Option β) : Option β := if y = 0 then none else K
def nzL {β : Type} (y : Int64) (K : Option β) : Option β := if y = 0 then none else K
/-- a truth value -/
def tv {β : Type} (y : Int32) (K : Option β) : Option β := if y = 0 ∨ y = 1 then K else none
/-- ===== the memory in the machine's heap ===== -/
abbrev wG : Type := Nat × (Nat → Nat) × (Nat → ClassId) × (Nat → Nat → Nat) × (Nat → ClassId)
def rho (G : wG) (a : Nat) : Nat := if a < 8 then G.2.1 a else G.1 + (a - 8)
def sh (G : wG) (v : Value) : Value := match v with
  | .ref a => .ref (rho G a)
  | w => w
def rq (G : wG) (r : Option Nat) : Option Nat := r.map (rho G)
theorem sh_rf (G : wG) (r : Option Nat) : sh G (va_rf r) = va_rf (rq G r) := by cases r <;> rfl
theorem sh_i (G : wG) (x : Int32) : sh G (.int x) = .int x := rfl
theorem sh_l (G : wG) (x : Int64) : sh G (.long x) = .long x := rfl
theorem sh_cat (G : wG) (v : Value) : (sh G v).category = v.category := by cases v <;> rfl
def fk (ty : FieldType) : Nat := match ty with
  | .long => 1
  | .object _ => 2
  | .array _ => 2
  | .float => 3
  | .double => 3
  | _ => 0
def fty (c : Nat) : Nat → FieldType := match c with
  | 0 => tyX0
  | 1 => tyX1
  | 2 => tyX2
  | 3 => tyX3
  | 4 => tyX4
  | 5 => tyX5
  | 6 => tyX6
  | 7 => tyX7
  | 8 => tyX8
  | 9 => tyX9
  | 10 => tyX10
  | 11 => tyX11
  | _ => tyX12
def fval (G : wG) (M : Mem) (c a k : Nat) : Value := match fk (fty c k) with
  | 0 => .int (mI M a k)
  | 1 => .long (mL M a k)
  | _ => va_rf (rq G (mR M a k))
def gA (G : wG) : Nat → Prop := fun q => G.1 ≤ q
def cellOk (G : wG) (M : Mem) (a : Nat) (U : State) (H : Heap) : Prop := match (mT M a).1 with
  | 1 => ∃ q : vw_C, vwCl[(mT M a).2]? = some q ∧ t_OB (rho G a) (G.2.2.1 (mT M a).2) q.2.2 (G.2.2.2.1 (mT M a).2) H (fval G M (mT M a).2 a)
  | 2 => H[rho G a]? = some (arrV (G.2.2.2.2 2) (mT M a).2 (fun j => .int (mI M a j)))
  | 3 => H[rho G a]? = some (arrV (G.2.2.2.2 3) (mT M a).2 (fun j => .long (mL M a j)))
  | 4 => H[rho G a]? = some (arrV (G.2.2.2.2 4) (mT M a).2 (fun j => .int (mI M a j)))
  | 5 => H[rho G a]? = some (arrV (G.2.2.2.2 5) (mT M a).2 (fun j => .int (mI M a j)))
  | 6 => H[rho G a]? = some (arrV (G.2.2.2.2 6) (mT M a).2 (fun j => va_rf (rq G (mR M a j))))
  | 7 => H[rho G a]? = some (arrV (G.2.2.2.2 7) (mT M a).2 (fun j => va_rf (rq G (mR M a j))))
  | 8 => va_T .int (rho G a) (mT M a).2 (fun j => .int (mI M a j)) (gA G) U H
  | 9 => va_O "java/lang/String" (rho G a) (gA G) U H ∧ va_OF "java/lang/String" "coder" "B" (.int (mI M a 1)) (rho G a) (gA G) U H ∧ va_OF "java/lang/String" "value" "[B" (va_rf (rq G (mR M a 0))) (rho G a) (gA G) U H
  | 10 => va_T .byte (rho G a) (mT M a).2 (fun j => .int (mI M a j)) (gA G) U H
  | 11 => va_Z "jdk/internal/util/Preconditions" "SIOOBE_FORMATTER" "Ljava/util/function/BiFunction;" (va_rf (rq G (mR M a 0))) (gA G) U H
  | _ => True
def Rl (G : wG) (M : Mem) (U : State) (H : Heap) : Prop :=
  H.size = G.1 + (mZ M - 8) ∧ 8 ≤ mZ M ∧ ∀ a, (mT M a).1 ≠ 0 → a < mZ M ∧ (a < 8 → 8 ≤ (mT M a).1 ∧ G.2.1 a < G.1) ∧ (8 ≤ a → (mT M a).1 < 8) ∧ cellOk G M a U H
theorem cellOk.kept {G : wG} {M : Mem} {a : Nat} {U : State} {H H1 : Heap} (h : cellOk G M a U H) (hq : H1[rho G a]? = H[rho G a]?) (hb : ∀ q : Nat, q < H.size → ¬ gA G q → H1[q]? = H[q]?) : cellOk G M a U H1 := by
  unfold cellOk at h ⊢
  split
  · rename_i e; rw [e] at h; obtain ⟨q, h1, h2⟩ := h; exact ⟨q, h1, h2.kept hq⟩
  · rename_i e; rw [e] at h; rw [hq]; exact h
  · rename_i e; rw [e] at h; rw [hq]; exact h
  · rename_i e; rw [e] at h; rw [hq]; exact h
  · rename_i e; rw [e] at h; rw [hq]; exact h
  · rename_i e; rw [e] at h; rw [hq]; exact h
  · rename_i e; rw [e] at h; rw [hq]; exact h
  · rename_i e; rw [e] at h; exact va_T.kept h hb
  · rename_i e; rw [e] at h; exact ⟨h.1.kept hb, h.2.1.kept hb, h.2.2.kept hb⟩
  · rename_i e; rw [e] at h; exact va_T.kept h hb
  · rename_i e; rw [e] at h; exact va_Z.kept h hb
  · trivial
theorem cellOk.moved {G : wG} {M : Mem} {a : Nat} {u U : State} {H : Heap} (hvm : u.vm.Alike U.vm) (h : cellOk G M a u H) : cellOk G M a U H := by
  unfold cellOk at h ⊢
  split
  · rename_i e; rw [e] at h; exact h
  · rename_i e; rw [e] at h; exact h
  · rename_i e; rw [e] at h; exact h
  · rename_i e; rw [e] at h; exact h
  · rename_i e; rw [e] at h; exact h
  · rename_i e; rw [e] at h; exact h
  · rename_i e; rw [e] at h; exact h
  · rename_i e; rw [e] at h; exact va_T.moved hvm h
  · rename_i e; rw [e] at h; exact ⟨va_O.moved hvm h.1, va_OF.moved hvm h.2.1, va_OF.moved hvm h.2.2⟩
  · rename_i e; rw [e] at h; exact va_T.moved hvm h
  · rename_i e; rw [e] at h; exact va_Z.moved hvm h
  · trivial
theorem Rl.moved {G : wG} {M : Mem} {u U : State} {H : Heap} (hvm : u.vm.Alike U.vm) (h : Rl G M u H) : Rl G M U H :=
  ⟨h.1, h.2.1, fun a ha => ⟨(h.2.2 a ha).1, (h.2.2 a ha).2.1, (h.2.2 a ha).2.2.1, (h.2.2 a ha).2.2.2.moved hvm⟩⟩
theorem rho_big {G : wG} {a : Nat} (h : 8 ≤ a) : rho G a = G.1 + (a - 8) := by simp [rho, Nat.not_lt.mpr h]
theorem rho_ne {G : wG} {M : Mem} {U : State} {H : Heap} (h : Rl G M U H) {a b : Nat} (ha : 8 ≤ a) (hb : (mT M b).1 ≠ 0) (hn : b ≠ a) : rho G b ≠ rho G a := by
  rw [rho_big ha]
  by_cases h8 : b < 8
  · have := ((h.2.2 b hb).2.1 h8).2
    simp only [rho, h8, if_true]
    omega
  · rw [rho_big (by omega)]
    omega
/-- a write of one cell -/
theorem Rl.write {G : wG} {M M' : Mem} {U : State} {H H1 : Heap} {a : Nat} (h : Rl G M U H) (h8 : 8 ≤ a) (hT : mT M' = mT M) (hZ : mZ M' = mZ M) (hI : ∀ b, b ≠ a → mI M' b = mI M b) (hL : ∀ b, b ≠ a → mL M' b = mL M b) (hR : ∀ b, b ≠ a → mR M' b = mR M b)
    (hz : H1.size = H.size) (hq : ∀ q : Nat, q ≠ rho G a → H1[q]? = H[q]?) (hc : cellOk G M' a U H1) : Rl G M' U H1 := by
  refine ⟨by rw [hz, hZ]; exact h.1, by rw [hZ]; exact h.2.1, fun b hb => ?_⟩
  rw [hT] at hb ⊢
  obtain ⟨g1, g2, g3, g4⟩ := h.2.2 b hb
  refine ⟨by rw [hZ]; exact g1, g2, g3, ?_⟩
  by_cases hab : b = a
  · rw [hab]; exact hc
  · have k := g4.kept (hq _ (rho_ne h h8 hb hab)) (fun q hl hA => hq q (fun e => hA (by rw [e, rho_big h8]; exact Nat.le_add_right _ _)))
    unfold cellOk at k ⊢
    unfold fval at k ⊢
    rw [hT, hI b hab, hL b hab, hR b hab]
    exact k
