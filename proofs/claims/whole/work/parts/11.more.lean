/-! ===== a few more rules ===== -/
theorem cat_rf (r : Option Nat) : (va_rf r).category = 1 := by cases r <;> rfl
theorem FQ.no {β : Type} {P : β → Mem → Prop} {q : Prop} (h : FQ (none : Option (β × Mem)) P) : q := by obtain ⟨b, M', h1, -⟩ := h; cases h1
/-- how often a loop may turn: far above what any run needs -/
def FU : Nat := 1000000000
def msk : List Bool → List (Option Value) → List (Option Value)
  | true :: bs, v :: lo => v :: msk bs lo
  | false :: bs, _ :: lo => none :: msk bs lo
  | _, _ => []
theorem msk_at : ∀ (bs : List Bool) (lo : List (Option Value)) (i : Nat) (v : Value), (msk bs lo)[i]? = some (some v) → lo[i]? = some (some v)
  | [], lo, i, v, h => by cases lo <;> simp [msk] at h
  | b :: bs, [], i, v, h => by cases b <;> simp [msk] at h
  | true :: bs, w :: lo, 0, v, h => by simpa [msk] using h
  | true :: bs, w :: lo, i + 1, v, h => by simpa using msk_at bs lo i v (by simpa [msk] using h)
  | false :: bs, w :: lo, 0, v, h => by simp [msk] at h
  | false :: bs, w :: lo, i + 1, v, h => by simpa using msk_at bs lo i v (by simpa [msk] using h)
section RM
variable {Y : YM} {R : Room} {F : wF} {c n pc : Nat} {lo lo' : List (Option Value)} {st : List Value} {M : Mem} {β : Type} {P : β → Mem → Prop} {mc ms : Nat}
theorem r_msk (bs : List Bool) (e : msk bs lo = lo') (k : wp Y R F c n pc lo' st M) : wp Y R F c n pc lo st M := by
  subst e
  intro G p l e s m args below meth cd H locs ls C hR hS hl
  exact k G p l e s m args below meth cd H locs ls C hR hS ⟨hl.1, hl.2.1, fun i v h => hl.2.2 i v (msk_at bs lo i v h)⟩
theorem r_wide {c' n' : Nat} (h1 : c ≤ c') (h2 : n ≤ n') (k : wp Y R F c' n' pc lo st M) : wp Y R F c n pc lo st M := by
  intro G p l e s m args below meth cd H locs ls C hR hS hl
  exact W.widen h1 h2 (k G p l e s m args below meth cd H locs ls C hR hS hl)
theorem r_acne {r0 r1 : Option Nat} {off : Int} {A B : Option (β × Mem)} (tg : Nat) (hi0 : ∀ a, r0 = some a → 8 ≤ a) (hi1 : ∀ a, r1 = some a → 8 ≤ a) (hd : Y.2.2.1[pc]? = some (some (.if_acmp .ne off, 3))) (ht : (pc : Int) + off = (tg : Int)) (h : FQ (if r0 = r1 then A else B) P) (kf : FQ A P → wp Y R F c n (pc + 3) lo st M) (kt : FQ B P → wp Y R F c n tg lo st M) : wp Y R F c n pc lo (va_rf r1 :: va_rf r0 :: st) M := by
  replace h := h.ite
  intro G p l e s m args below meth cd H locs ls C hR hS hl
  rw [List.map_cons, List.map_cons, sh_rf, sh_rf]
  have hi : rq G r0 = rq G r1 → r0 = r1 := by
    intro e
    cases r0 with
    | none => cases r1 with
      | none => rfl
      | some b => cases e
    | some a => cases r1 with
      | none => cases e
      | some b =>
        have e2 : rho G a = rho G b := Option.some.inj e
        rw [rho_big (hi0 a rfl), rho_big (hi1 b rfl)] at e2
        have := hi0 a rfl
        have := hi1 b rfl
        congr 1
        omega
  exact lv_acmp_ne C.x C.b (C.d hd) ht (fun q => kt (h.2 (fun z => q (by rw [z]))) G p l e s m args below meth cd H locs ls C hR hS hl) (fun q => kf (h.1 (hi q)) G p l e s m args below meth cd H locs ls C hR hS hl)
/-- two references that are compared: own cells -/
def ac {β : Type} (r0 r1 : Option Nat) (A B : Option β) : Option β := if (∀ a, r0 = some a → 8 ≤ a) ∧ (∀ a, r1 = some a → 8 ≤ a) then (if r0 = r1 then A else B) else none
theorem r_ac_ne {r0 r1 : Option Nat} {off : Int} {A B : Option (β × Mem)} (tg : Nat) (hd : Y.2.2.1[pc]? = some (some (.if_acmp .ne off, 3))) (ht : (pc : Int) + off = (tg : Int)) (h : FQ (ac r0 r1 A B) P) (kf : FQ A P → wp Y R F c n (pc + 3) lo st M) (kt : FQ B P → wp Y R F c n tg lo st M) : wp Y R F c n pc lo (va_rf r1 :: va_rf r0 :: st) M := by
  unfold ac at h
  by_cases hq : (∀ a, r0 = some a → 8 ≤ a) ∧ (∀ a, r1 = some a → 8 ≤ a)
  · rw [if_pos hq] at h
    exact r_acne tg hq.1 hq.2 hd ht h kf kt
  · rw [if_neg hq] at h; exact h.no
/-- a byte's return -/
def bv {β : Type} (y : Int32) (K : Option β) : Option β := if y.toInt8.toInt32 = y then K else none
theorem r_bret {x : Int32} {Q : Int32 → Mem → Prop} (hd : Y.2.2.1[pc]? = some (some (.ireturn, 1))) (hr : Y.2.2.2.2 = some .byte) (hc : c ≤ mc ∧ n ≤ ms) (h : FQ (bv x (some (x, M))) Q) : wp Y R (FM (QI Q) mc ms) c n pc lo [.int x] M := by
  unfold bv at h
  by_cases hx : x.toInt8.toInt32 = x
  · rw [if_pos hx] at h
    obtain ⟨b, M', e1, hq⟩ := h
    cases e1
    intro G p l e s m args below meth cd H locs ls C hR hS hl
    exact W.widen hc.1 hc.2 (W.zret C.x C.b (C.2.2.2.1.trans hr) (by have := pk_nb x; rw [hx] at this; exact this) (fun t ht hW => QQ.mk (v := some (.int x)) ht hW ⟨x, rfl, hq⟩ hR hS) hS.2.2 (C.d hd) C.2.2.2.2.1)
  · rw [if_neg hx] at h; exact h.no
/-- the formatter that nobody asks -/
def gF {β : Type} (M : Mem) (K : Option Nat → Option β) : Option β := if (mT M 6).1 = 11 then K (mR M 6 0) else none
theorem r_getsF {ix : Nat} {K : Option Nat → Option (β × Mem)} (hd : Y.2.2.1[pc]? = some (some (.getstatic ix, 3))) (hf : Jvm.Cond.fieldLink Y.1.cls ix "jdk/internal/util/Preconditions" "SIOOBE_FORMATTER" "Ljava/util/function/BiFunction;" ∈ gw) (h : FQ (gF M K) P) (kk : ∀ r, FQ (K r) P → wp Y R F c n (pc + 3) lo (va_rf r :: st) M) : wp Y R F c n pc lo st M := by
  unfold gF at h
  by_cases hT : (mT M 6).1 = 11
  · rw [if_pos hT] at h
    intro G p l e s m args below meth cd H locs ls C hR hS hl
    have hc := (hR.cell hT (by decide)).2
    unfold cellOk at hc
    rw [hT] at hc
    obtain ⟨cf, kf, fi, f, a, cell, h1, h2, h3, h4, h5, h6, h7, h8⟩ := hc
    have k1 := kk _ h G p l e s m args below meth cd H locs ls C hR hS hl
    rw [List.map_cons, sh_rf] at k1
    exact W.gets C.x C.b C.own (C.ts _ hf) h1 h2 h3 h4 h5 (fun e => by rw [e] at h6; cases h6) h7 rfl (C.d hd) k1
  · rw [if_neg hT] at h; exact h.no
end RM
theorem dk_of {L : List (Option (Instr × Nat))} {code : ByteArray} (h : (List.range L.length).all (fun pc => match L[pc]? with
    | some (some i) => decide (decode code pc = .ok i)
    | _ => true) = true) : ∀ pc i, L[pc]? = some (some i) → decode code pc = .ok i := by
  intro pc i hi
  have h1 := List.all_eq_true.mp h pc (List.mem_range.mpr (List.getElem?_eq_some_iff.mp hi).1)
  rw [hi] at h1
  exact of_decide_eq_true h1
/-- a loop: its body, so often -/
def lpN {α : Type} (z : α) (b : α → α) : Nat → α
  | 0 => z
  | n + 1 => b (lpN z b n)
theorem cat_i (x : Int32) : (Value.int x).category = 1 := rfl
theorem cat_l (x : Int64) : (Value.long x).category = 2 := rfl
theorem r_mmax {Y : YM} {R : Room} {F : wF} {c n pc ix : Nat} {lo : List (Option Value)} {st : List Value} {M : Mem} {x y : Int32} (hd : Y.2.2.1[pc]? = some (some (.invokestatic ix, 3))) (hm : Jvm.Cond.methodLink Y.1.cls ix Lib.Math.max.name ∈ gw) (hr : 1 ≤ R.frames ∧ 40 ≤ R.locals) (hcap : c ≤ R.cells ∧ n ≤ R.slots) (hst : Nat.ble st.length 4 = true) (k : wp Y R F c n (pc + 3) lo (.int (if x < y then y else x) :: st) M) : wp Y R F c n pc lo (.int y :: .int x :: st) M := by
  intro G p l e s m args below meth cd H locs ls C hR hS hl
  exact va_mmax C.x C.b (by rw [C.2.2.1]; exact hl.1.symm) C.own (C.ts _ hm) (C.ts _ (gw_in 219 (by decide +kernel) (by decide +kernel))) (C.ts _ (gw_in 8 (by decide +kernel) (by decide +kernel))) (C.ts _ (gw_in 220 (by decide +kernel) (by decide +kernel))) hr.1 (by
    have h1 := cats_le G st
    have h2 := Nat.le_of_ble_eq_true hst
    have h3 := hr.2
    omega) hcap.1 hcap.2 (C.d hd) (k G p l e s m args below meth cd H locs ls C hR hS hl)
theorem r_mmin {Y : YM} {R : Room} {F : wF} {c n pc ix : Nat} {lo : List (Option Value)} {st : List Value} {M : Mem} {x y : Int32} (hd : Y.2.2.1[pc]? = some (some (.invokestatic ix, 3))) (hm : Jvm.Cond.methodLink Y.1.cls ix Lib.Math.min.name ∈ gw) (hr : 1 ≤ R.frames ∧ 40 ≤ R.locals) (hcap : c ≤ R.cells ∧ n ≤ R.slots) (hst : Nat.ble st.length 4 = true) (k : wp Y R F c n (pc + 3) lo (.int (if y < x then y else x) :: st) M) : wp Y R F c n pc lo (.int y :: .int x :: st) M := by
  intro G p l e s m args below meth cd H locs ls C hR hS hl
  exact va_mmin C.x C.b (by rw [C.2.2.1]; exact hl.1.symm) C.own (C.ts _ hm) (C.ts _ (gw_in 216 (by decide +kernel) (by decide +kernel))) (C.ts _ (gw_in 8 (by decide +kernel) (by decide +kernel))) (C.ts _ (gw_in 217 (by decide +kernel) (by decide +kernel))) hr.1 (by
    have h1 := cats_le G st
    have h2 := Nat.le_of_ble_eq_true hst
    have h3 := hr.2
    omega) hcap.1 hcap.2 (C.d hd) (k G p l e s m args below meth cd H locs ls C hR hS hl)
