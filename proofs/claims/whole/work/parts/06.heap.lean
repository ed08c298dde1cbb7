/-! ===== rules of the instructions that touch the memory ===== -/
theorem gI_inv {β : Type} {M : Mem} {r : Option Nat} {c k : Nat} {K : Int32 → Option (β × Mem)} {P : β → Mem → Prop} (h : FQ (gI M r c k K) P) : ∃ a, r = some a ∧ mT M a = (1, c) ∧ FQ (K (mI M a k)) P := by
  cases r with
  | none => obtain ⟨b, M', h1, -⟩ := h; cases h1
  | some a =>
    refine ⟨a, rfl, ?_⟩
    unfold gI at h
    by_cases hT : mT M a = (1, c)
    · simp only [hT, if_true] at h; exact ⟨hT, h⟩
    · simp only [hT, if_false] at h; obtain ⟨b, M', h1, -⟩ := h; cases h1
theorem gL_inv {β : Type} {M : Mem} {r : Option Nat} {c k : Nat} {K : Int64 → Option (β × Mem)} {P : β → Mem → Prop} (h : FQ (gL M r c k K) P) : ∃ a, r = some a ∧ mT M a = (1, c) ∧ FQ (K (mL M a k)) P := by
  cases r with
  | none => obtain ⟨b, M', h1, -⟩ := h; cases h1
  | some a =>
    refine ⟨a, rfl, ?_⟩
    unfold gL at h
    by_cases hT : mT M a = (1, c)
    · simp only [hT, if_true] at h; exact ⟨hT, h⟩
    · simp only [hT, if_false] at h; obtain ⟨b, M', h1, -⟩ := h; cases h1
theorem gR_inv {β : Type} {M : Mem} {r : Option Nat} {c k : Nat} {K : Option Nat → Option (β × Mem)} {P : β → Mem → Prop} (h : FQ (gR M r c k K) P) : ∃ a, r = some a ∧ mT M a = (1, c) ∧ FQ (K (mR M a k)) P := by
  cases r with
  | none => obtain ⟨b, M', h1, -⟩ := h; cases h1
  | some a =>
    refine ⟨a, rfl, ?_⟩
    unfold gR at h
    by_cases hT : mT M a = (1, c)
    · simp only [hT, if_true] at h; exact ⟨hT, h⟩
    · simp only [hT, if_false] at h; obtain ⟨b, M', h1, -⟩ := h; cases h1
theorem pI_inv {β : Type} {M : Mem} {r : Option Nat} {c k : Nat} {v : Int32} {K : Mem → Option (β × Mem)} {P : β → Mem → Prop} (h : FQ (pI M r c k v K) P) : ∃ a, r = some a ∧ mT M a = (1, c) ∧ FQ (K (sI M a k v)) P := by
  cases r with
  | none => obtain ⟨b, M', h1, -⟩ := h; cases h1
  | some a =>
    refine ⟨a, rfl, ?_⟩
    unfold pI at h
    by_cases hT : mT M a = (1, c)
    · simp only [hT, if_true] at h; exact ⟨hT, h⟩
    · simp only [hT, if_false] at h; obtain ⟨b, M', h1, -⟩ := h; cases h1
theorem pL_inv {β : Type} {M : Mem} {r : Option Nat} {c k : Nat} {v : Int64} {K : Mem → Option (β × Mem)} {P : β → Mem → Prop} (h : FQ (pL M r c k v K) P) : ∃ a, r = some a ∧ mT M a = (1, c) ∧ FQ (K (sL M a k v)) P := by
  cases r with
  | none => obtain ⟨b, M', h1, -⟩ := h; cases h1
  | some a =>
    refine ⟨a, rfl, ?_⟩
    unfold pL at h
    by_cases hT : mT M a = (1, c)
    · simp only [hT, if_true] at h; exact ⟨hT, h⟩
    · simp only [hT, if_false] at h; obtain ⟨b, M', h1, -⟩ := h; cases h1
theorem pR_inv {β : Type} {M : Mem} {r : Option Nat} {c k : Nat} {v : Option Nat} {K : Mem → Option (β × Mem)} {P : β → Mem → Prop} (h : FQ (pR M r c k v K) P) : ∃ a, r = some a ∧ mT M a = (1, c) ∧ FQ (K (sR M a k v)) P := by
  cases r with
  | none => obtain ⟨b, M', h1, -⟩ := h; cases h1
  | some a =>
    refine ⟨a, rfl, ?_⟩
    unfold pR at h
    by_cases hT : mT M a = (1, c)
    · simp only [hT, if_true] at h; exact ⟨hT, h⟩
    · simp only [hT, if_false] at h; obtain ⟨b, M', h1, -⟩ := h; cases h1
/-- an object's cell -/
theorem Rl.obj {G : wG} {M : Mem} {U : State} {H : Heap} (h : Rl G M U H) {a c : Nat} {q : vw_C} (hT : mT M a = (1, c)) (hq : vwCl[c]? = some q) : 8 ≤ a ∧ t_OB (rho G a) (G.2.2.1 c) q.2.2 (G.2.2.2.1 c) H (fval G M c a) := by
  obtain ⟨-, h1, -, h3⟩ := h.2.2 a (by rw [hT]; show (1 : Nat) ≠ 0; decide)
  refine ⟨?_, ?_⟩
  · rcases Nat.lt_or_ge a 8 with q | q
    · have := (h1 q).1; rw [hT] at this; exact absurd this (by show ¬ 8 ≤ 1; decide)
    · exact q
  · unfold cellOk at h3
    rw [hT] at h3
    obtain ⟨q', h4, h5⟩ := h3
    cases hq.symm.trans h4
    exact h5
section RH
variable {Y : YM} {R : Room} {F : wF} {c n pc : Nat} {lo : List (Option Value)} {st : List Value} {M : Mem} {β : Type} {P : β → Mem → Prop}
theorem r_get0 {G : wG} {p : Program} {l : Launch} {e : Env} {s : State} {m : MethodId} {args : Array Value} {below : List Frame} {meth : Method} {cd : Code} {H : Heap} {locs : List Loc} {ls : Array Slot} {Q : State → Prop} {ix cl k a : Nat} {bf : Bool} {v : Value} {rest : List Value}
    (hd : Y.2.2.1[pc]? = some (some (.getfield ix, 3))) (hf : FLk Y.1.cls ix cl k bf) (C : wpK Y G p s m args meth cd) (hR : Rl G M s H) (hT : mT M a = (1, cl)) (hv : fval G M cl a k = v)
    (kk : W p l e R s m args below meth cd H locs c n Q (F0 m (pc + 3) ls (v :: rest))) : W p l e R s m args below meth cd H locs c n Q (F0 m pc ls (.ref (rho G a) :: rest)) := by
  obtain ⟨q, hq, hk, hlink, -⟩ := hf
  obtain ⟨-, cell, q1, q2, q3, q4⟩ := hR.obj hT hq
  obtain ⟨hin, -, -⟩ := cls_ok cl q hq
  obtain ⟨hSl, hfc, kC, hkC, hkind⟩ := C.kp.1.1 cl q hq
  obtain ⟨cf, kf, fi, f, hi, hsl⟩ := hSl k hk
  refine W.getf C.x C.b C.own (C.ts _ hlink) hi (u_facts hfc hkC (u_lays C.ts hin hk) hi).1 q1 (by rw [q3]; exact fun h => by cases h) (v := v) ?_ rfl rfl (C.d hd) kk
  rw [hsl, q4 k hk, hv]
theorem r_getI {r : Option Nat} {ix cl k : Nat} {bf : Bool} {K : Int32 → Option (β × Mem)} (hd : Y.2.2.1[pc]? = some (some (.getfield ix, 3))) (hf : FLk Y.1.cls ix cl k bf) (ht : fk (fty cl k) = 0) (h : FQ (gI M r cl k K) P) (kk : ∀ v, FQ (K v) P → wp Y R F c n (pc + 3) lo (.int v :: st) M) : wp Y R F c n pc lo (va_rf r :: st) M := by
  obtain ⟨a, rfl, hT, h⟩ := gI_inv h
  intro G p l e s m args below meth cd H locs ls C hR hS hl
  exact r_get0 hd hf C hR hT (by simp [fval, ht, sh]) (kk _ h G p l e s m args below meth cd H locs ls C hR hS hl)
theorem r_getL {r : Option Nat} {ix cl k : Nat} {bf : Bool} {K : Int64 → Option (β × Mem)} (hd : Y.2.2.1[pc]? = some (some (.getfield ix, 3))) (hf : FLk Y.1.cls ix cl k bf) (ht : fk (fty cl k) = 1) (h : FQ (gL M r cl k K) P) (kk : ∀ v, FQ (K v) P → wp Y R F c n (pc + 3) lo (.long v :: st) M) : wp Y R F c n pc lo (va_rf r :: st) M := by
  obtain ⟨a, rfl, hT, h⟩ := gL_inv h
  intro G p l e s m args below meth cd H locs ls C hR hS hl
  exact r_get0 hd hf C hR hT (by simp [fval, ht, sh]) (kk _ h G p l e s m args below meth cd H locs ls C hR hS hl)
theorem r_getR {r : Option Nat} {ix cl k : Nat} {bf : Bool} {K : Option Nat → Option (β × Mem)} (hd : Y.2.2.1[pc]? = some (some (.getfield ix, 3))) (hf : FLk Y.1.cls ix cl k bf) (ht : fk (fty cl k) = 2) (h : FQ (gR M r cl k K) P) (kk : ∀ v, FQ (K v) P → wp Y R F c n (pc + 3) lo (va_rf v :: st) M) : wp Y R F c n pc lo (va_rf r :: st) M := by
  obtain ⟨a, rfl, hT, h⟩ := gR_inv h
  intro G p l e s m args below meth cd H locs ls C hR hS hl
  have k1 := kk _ h G p l e s m args below meth cd H locs ls C hR hS hl
  rw [List.map_cons, sh_rf] at k1
  exact r_get0 hd hf C hR hT (by simp [fval, ht]) k1
theorem fval_n {G : wG} {M M' : Mem} {cl a k : Nat} (hI : mI M' a k = mI M a k) (hL : mL M' a k = mL M a k) (hR : mR M' a k = mR M a k) : fval G M' cl a k = fval G M cl a k := by
  unfold fval; rw [hI, hL, hR]
/-- a field is written -/
theorem r_put0 {G : wG} {p : Program} {l : Launch} {e : Env} {s : State} {m : MethodId} {args : Array Value} {below : List Frame} {meth : Method} {cd : Code} {H : Heap} {locs : List Loc} {ls : Array Slot} {Q : State → Prop} {ix cl k a : Nat} {bf : Bool} {v : Value} {rest : List Value} {M' : Mem}
    (hd : Y.2.2.1[pc]? = some (some (.putfield ix, 3))) (hf : FLk Y.1.cls ix cl k bf) (hb : bf = true → Y.1.name = "<init>" ∧ ∀ q : vw_C, vwCl[cl]? = some q → (q.2.1 k).1 = Y.1.cls) (C : wpK Y G p s m args meth cd) (hR : Rl G M s H) (hS : va_S (gA G) s.heap H locs) (hT : mT M a = (1, cl)) (hn : narrow (fty cl k) v = v) (hfit : fits (fty cl k) v = true)
    (eT : mT M' = mT M) (eZ : mZ M' = mZ M) (eI : ∀ b, b ≠ a → mI M' b = mI M b) (eL : ∀ b, b ≠ a → mL M' b = mL M b) (eR : ∀ b, b ≠ a → mR M' b = mR M b) (ek : fval G M' cl a k = v) (en : ∀ j, j ≠ k → fval G M' cl a j = fval G M cl a j)
    (kk : ∀ (H1 : Heap) (locs1 : List Loc), Rl G M' s H1 → va_S (gA G) s.heap H1 locs1 → W p l e R s m args below meth cd H1 locs1 c n Q (F0 m (pc + 3) ls rest)) : W p l e R s m args below meth cd H locs c n Q (F0 m pc ls (v :: .ref (rho G a) :: rest)) := by
  obtain ⟨q, hq, hk, hlink, hfin⟩ := hf
  obtain ⟨h8, cell, q1, q2, q3, q4⟩ := hR.obj hT hq
  obtain ⟨hin, hty, hnm⟩ := cls_ok cl q hq
  obtain ⟨hSl, hfc, kC, hkC, hkind⟩ := C.kp.1.1 cl q hq
  obtain ⟨cf, kf, fi, f, hi, hsl⟩ := hSl k hk
  have hap := va_apart (own := Y.1.cls) C.ts hin (fty cl) hty hnm C.kp.1 hq
  have hlay := C.ts _ (hin _ (u_in_lay hk))
  have hst := (u_facts hfc hkC (u_lays C.ts hin hk) hi).1
  have fin : ∀ H' : Heap, H'[rho G a]? = some (cell.setSlot f.slot v) → H'.size = H.size → (∀ x, x ≠ rho G a → H'[x]? = H[x]?) → W p l e R s m args below meth cd H' (locs ++ [⟨rho G a, f.slot⟩]) c n Q (F0 m (pc + 3) ls rest) := by
    intro H' e1 e2 e3
    rw [hsl] at e1
    refine kk H' _ (hR.write h8 eT eZ eI eL eR e2 e3 ?_) (hS.put e2 e3 (by show G.1 ≤ rho G a; rw [rho_big h8]; exact Nat.le_add_right _ _))
    unfold cellOk
    rw [eT, hT]
    refine ⟨q, hq, t_OB.to (V := updV (fval G M cl a) k v) ⟨_, e1, q2, q3, t_set q4 hap hk v⟩ (fun j _ => ?_)⟩
    by_cases hj : j = k
    · subst hj; simp only [updV, if_true]; exact ek.symm
    · simp only [updV, hj, if_false]; exact (en j hj).symm
  cases bf with
  | false =>
    unfold u_lay at hlay
    rw [if_neg (by rw [hfin]; decide)] at hlay
    have h6 := u_store hfc hkC hkind hlay hi (hty k hk) hn hfit
    exact W.putK C.x C.b (f := f) ⟨C.own, C.ts _ hlink, ⟨_, _, _, hi⟩, hst⟩ (by rw [q2]; exact h6) q1 q3 (by rw [hsl]; exact k2_hasslot (q4 k hk)) rfl rfl (C.d hd) fin
  | true =>
    obtain ⟨b1, b2⟩ := hb rfl
    unfold u_lay at hlay
    rw [if_pos hfin] at hlay
    have hcf : m.cls = cf := by
      obtain ⟨_, _, c', _, _, _, -, -, hf', -, -, -, hown2, -⟩ := Cond.laysFinal_spec hlay
      have e1 : c' = cf := by have := hi.symm.trans hf'; simp at this; exact this.1.symm
      rw [b2 q hq] at hown2
      rw [← e1]; exact Option.some.inj (C.own.symm.trans hown2)
    have h6 := u_fits hfc hkC hkind (Or.inr hlay) hi (hty k hk) hn hfit
    exact W.putFinK C.x C.b C.own (C.ts _ hlink) hi hst hcf (C.2.2.2.2.2.2.2.2.2.1 b1) (by rw [q2]; exact h6) q1 q3 (by rw [hsl]; exact k2_hasslot (q4 k hk)) rfl rfl (C.d hd) fin
theorem r_putI {r : Option Nat} {ix cl k : Nat} {bf : Bool} {v : Int32} {K : Mem → Option (β × Mem)} (hd : Y.2.2.1[pc]? = some (some (.putfield ix, 3))) (hf : FLk Y.1.cls ix cl k bf) (hb : bf = true → Y.1.name = "<init>" ∧ ∀ q : vw_C, vwCl[cl]? = some q → (q.2.1 k).1 = Y.1.cls) (ht : fty cl k = .int) (h : FQ (pI M r cl k v K) P) (kk : ∀ M', FQ (K M') P → wp Y R F c n (pc + 3) lo st M') : wp Y R F c n pc lo (.int v :: va_rf r :: st) M := by
  obtain ⟨a, rfl, hT, h⟩ := pI_inv h
  intro G p l e s m args below meth cd H locs ls C hR hS hl
  have hk0 : fk (fty cl k) = 0 := by rw [ht]; rfl
  refine r_put0 (M' := sI M a k v) hd hf hb C hR hS hT (by rw [ht]; rfl) (by rw [ht]; rfl) rfl rfl (fun b hb => up2_n hb) (fun _ _ => rfl) (fun _ _ => rfl) ?_ ?_ (fun H1 locs1 hR1 hS1 => kk _ h G p l e s m args below meth cd H1 locs1 ls C hR1 hS1 hl)
  · simp only [fval, hk0]; show Value.int (up2 M.2.2.1 a k v a k) = _; rw [up2_s, up1_s]; rfl
  · intro j hj; exact fval_n (by show up2 M.2.2.1 a k v a j = _; rw [up2_s, up1_n hj]; rfl) rfl rfl
theorem r_putZ {r : Option Nat} {ix cl k : Nat} {bf : Bool} {v : Int32} {K : Mem → Option (β × Mem)} (hd : Y.2.2.1[pc]? = some (some (.putfield ix, 3))) (hf : FLk Y.1.cls ix cl k bf) (hb : bf = true → Y.1.name = "<init>" ∧ ∀ q : vw_C, vwCl[cl]? = some q → (q.2.1 k).1 = Y.1.cls) (ht : fty cl k = .boolean) (h : FQ (tv v (pI M r cl k v K)) P) (kk : ∀ M', FQ (K M') P → wp Y R F c n (pc + 3) lo st M') : wp Y R F c n pc lo (.int v :: va_rf r :: st) M := by
  unfold tv at h
  by_cases hv : v = 0 ∨ v = 1
  · rw [if_pos hv] at h
    obtain ⟨a, rfl, hT, h⟩ := pI_inv h
    intro G p l e s m args below meth cd H locs ls C hR hS hl
    have hk0 : fk (fty cl k) = 0 := by rw [ht]; rfl
    refine r_put0 (M' := sI M a k v) hd hf hb C hR hS hT (by rw [ht]; rcases hv with rfl | rfl <;> rfl) (by rw [ht]; rcases hv with rfl | rfl <;> rfl) rfl rfl (fun b hb => up2_n hb) (fun _ _ => rfl) (fun _ _ => rfl) ?_ ?_ (fun H1 locs1 hR1 hS1 => kk _ h G p l e s m args below meth cd H1 locs1 ls C hR1 hS1 hl)
    · simp only [fval, hk0]; show Value.int (up2 M.2.2.1 a k v a k) = _; rw [up2_s, up1_s]; rfl
    · intro j hj; exact fval_n (by show up2 M.2.2.1 a k v a j = _; rw [up2_s, up1_n hj]; rfl) rfl rfl
  · rw [if_neg hv] at h; obtain ⟨b, M', h1, -⟩ := h; cases h1
theorem r_putL {r : Option Nat} {ix cl k : Nat} {bf : Bool} {v : Int64} {K : Mem → Option (β × Mem)} (hd : Y.2.2.1[pc]? = some (some (.putfield ix, 3))) (hf : FLk Y.1.cls ix cl k bf) (hb : bf = true → Y.1.name = "<init>" ∧ ∀ q : vw_C, vwCl[cl]? = some q → (q.2.1 k).1 = Y.1.cls) (ht : fty cl k = .long) (h : FQ (pL M r cl k v K) P) (kk : ∀ M', FQ (K M') P → wp Y R F c n (pc + 3) lo st M') : wp Y R F c n pc lo (.long v :: va_rf r :: st) M := by
  obtain ⟨a, rfl, hT, h⟩ := pL_inv h
  intro G p l e s m args below meth cd H locs ls C hR hS hl
  have hk0 : fk (fty cl k) = 1 := by rw [ht]; rfl
  refine r_put0 (M' := sL M a k v) hd hf hb C hR hS hT (by rw [ht]; rfl) (by rw [ht]; rfl) rfl rfl (fun _ _ => rfl) (fun b hb => up2_n hb) (fun _ _ => rfl) ?_ ?_ (fun H1 locs1 hR1 hS1 => kk _ h G p l e s m args below meth cd H1 locs1 ls C hR1 hS1 hl)
  · simp only [fval, hk0]; show Value.long (up2 M.2.2.2.1 a k v a k) = _; rw [up2_s, up1_s]; rfl
  · intro j hj; exact fval_n rfl (by show up2 M.2.2.2.1 a k v a j = _; rw [up2_s, up1_n hj]; rfl) rfl
theorem r_putR {r : Option Nat} {ix cl k : Nat} {bf : Bool} {v : Option Nat} {K : Mem → Option (β × Mem)} (hd : Y.2.2.1[pc]? = some (some (.putfield ix, 3))) (hf : FLk Y.1.cls ix cl k bf) (hb : bf = true → Y.1.name = "<init>" ∧ ∀ q : vw_C, vwCl[cl]? = some q → (q.2.1 k).1 = Y.1.cls) (ht : (∃ C : String, fty cl k = .object C) ∨ ∃ t : FieldType, fty cl k = .array t) (h : FQ (pR M r cl k v K) P) (kk : ∀ M', FQ (K M') P → wp Y R F c n (pc + 3) lo st M') : wp Y R F c n pc lo (va_rf v :: va_rf r :: st) M := by
  obtain ⟨a, rfl, hT, h⟩ := pR_inv h
  intro G p l e s m args below meth cd H locs ls C hR hS hl
  have hk0 : fk (fty cl k) = 2 := by rcases ht with ⟨x, ht⟩ | ⟨x, ht⟩ <;> (rw [ht]; rfl)
  rw [List.map_cons, sh_rf]
  refine r_put0 (M' := sR M a k v) hd hf hb C hR hS hT (by rcases ht with ⟨x, ht⟩ | ⟨x, ht⟩ <;> (rw [ht]; cases v <;> rfl)) (by rcases ht with ⟨x, ht⟩ | ⟨x, ht⟩ <;> (rw [ht]; cases v <;> rfl)) rfl rfl (fun _ _ => rfl) (fun _ _ => rfl) (fun b hb => up2_n hb) ?_ ?_ (fun H1 locs1 hR1 hS1 => kk _ h G p l e s m args below meth cd H1 locs1 ls C hR1 hS1 hl)
  · simp only [fval, hk0]; show va_rf (rq G (up2 M.2.2.2.2 a k v a k)) = _; rw [up2_s, up1_s]
  · intro j hj; exact fval_n rfl rfl (by show up2 M.2.2.2.2 a k v a j = _; rw [up2_s, up1_n hj]; rfl)
end RH
