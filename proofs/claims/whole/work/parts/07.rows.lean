/-! ===== rows (arrays) ===== -/
theorem in_of {i : Int32} {n : Nat} (h0 : 0 ≤ i) (h : i.toNatClampNeg < n) : ¬ (i < 0 ∨ n ≤ i.toNatClampNeg) := by
  rintro (q | q)
  · exact absurd h0 (Int32.not_le.mpr q)
  · omega
theorem aI_inv {β : Type} {M : Mem} {r : Option Nat} {t : Nat} {i : Int32} {K : Int32 → Option (β × Mem)} {P : β → Mem → Prop} (h : FQ (aI M r t i K) P) : ∃ a, r = some a ∧ (mT M a).1 = t ∧ ¬ (i < 0 ∨ (mT M a).2 ≤ i.toNatClampNeg) ∧ i.toNatClampNeg < (mT M a).2 ∧ FQ (K (mI M a i.toNatClampNeg)) P := by
  cases r with
  | none => obtain ⟨b, M', h1, -⟩ := h; cases h1
  | some a =>
    refine ⟨a, rfl, ?_⟩
    unfold aI at h
    by_cases hT : (mT M a).1 = t ∧ 0 ≤ i ∧ i.toNatClampNeg < (mT M a).2
    · simp only [hT, and_self, if_true] at h; exact ⟨hT.1, in_of hT.2.1 hT.2.2, hT.2.2, h⟩
    · simp only [hT, if_false] at h; obtain ⟨b, M', h1, -⟩ := h; cases h1
theorem aL_inv {β : Type} {M : Mem} {r : Option Nat} {i : Int32} {K : Int64 → Option (β × Mem)} {P : β → Mem → Prop} (h : FQ (aL M r i K) P) : ∃ a, r = some a ∧ (mT M a).1 = 3 ∧ ¬ (i < 0 ∨ (mT M a).2 ≤ i.toNatClampNeg) ∧ i.toNatClampNeg < (mT M a).2 ∧ FQ (K (mL M a i.toNatClampNeg)) P := by
  cases r with
  | none => obtain ⟨b, M', h1, -⟩ := h; cases h1
  | some a =>
    refine ⟨a, rfl, ?_⟩
    unfold aL at h
    by_cases hT : (mT M a).1 = 3 ∧ 0 ≤ i ∧ i.toNatClampNeg < (mT M a).2
    · simp only [hT, and_self, if_true] at h; exact ⟨hT.1, in_of hT.2.1 hT.2.2, hT.2.2, h⟩
    · simp only [hT, if_false] at h; obtain ⟨b, M', h1, -⟩ := h; cases h1
theorem aR_inv {β : Type} {M : Mem} {r : Option Nat} {t : Nat} {i : Int32} {K : Option Nat → Option (β × Mem)} {P : β → Mem → Prop} (h : FQ (aR M r t i K) P) : ∃ a, r = some a ∧ (mT M a).1 = t ∧ ¬ (i < 0 ∨ (mT M a).2 ≤ i.toNatClampNeg) ∧ i.toNatClampNeg < (mT M a).2 ∧ FQ (K (mR M a i.toNatClampNeg)) P := by
  cases r with
  | none => obtain ⟨b, M', h1, -⟩ := h; cases h1
  | some a =>
    refine ⟨a, rfl, ?_⟩
    unfold aR at h
    by_cases hT : (mT M a).1 = t ∧ 0 ≤ i ∧ i.toNatClampNeg < (mT M a).2
    · simp only [hT, and_self, if_true] at h; exact ⟨hT.1, in_of hT.2.1 hT.2.2, hT.2.2, h⟩
    · simp only [hT, if_false] at h; obtain ⟨b, M', h1, -⟩ := h; cases h1
theorem wI_inv {β : Type} {M : Mem} {r : Option Nat} {t : Nat} {i v : Int32} {K : Mem → Option (β × Mem)} {P : β → Mem → Prop} (h : FQ (wI M r t i v K) P) : ∃ a, r = some a ∧ (mT M a).1 = t ∧ ¬ (i < 0 ∨ (mT M a).2 ≤ i.toNatClampNeg) ∧ i.toNatClampNeg < (mT M a).2 ∧ FQ (K (sI M a i.toNatClampNeg v)) P := by
  cases r with
  | none => obtain ⟨b, M', h1, -⟩ := h; cases h1
  | some a =>
    refine ⟨a, rfl, ?_⟩
    unfold wI at h
    by_cases hT : (mT M a).1 = t ∧ 0 ≤ i ∧ i.toNatClampNeg < (mT M a).2
    · simp only [hT, and_self, if_true] at h; exact ⟨hT.1, in_of hT.2.1 hT.2.2, hT.2.2, h⟩
    · simp only [hT, if_false] at h; obtain ⟨b, M', h1, -⟩ := h; cases h1
theorem wL_inv {β : Type} {M : Mem} {r : Option Nat} {i : Int32} {v : Int64} {K : Mem → Option (β × Mem)} {P : β → Mem → Prop} (h : FQ (wL M r i v K) P) : ∃ a, r = some a ∧ (mT M a).1 = 3 ∧ ¬ (i < 0 ∨ (mT M a).2 ≤ i.toNatClampNeg) ∧ i.toNatClampNeg < (mT M a).2 ∧ FQ (K (sL M a i.toNatClampNeg v)) P := by
  cases r with
  | none => obtain ⟨b, M', h1, -⟩ := h; cases h1
  | some a =>
    refine ⟨a, rfl, ?_⟩
    unfold wL at h
    by_cases hT : (mT M a).1 = 3 ∧ 0 ≤ i ∧ i.toNatClampNeg < (mT M a).2
    · simp only [hT, and_self, if_true] at h; exact ⟨hT.1, in_of hT.2.1 hT.2.2, hT.2.2, h⟩
    · simp only [hT, if_false] at h; obtain ⟨b, M', h1, -⟩ := h; cases h1
theorem wR_inv {β : Type} {M : Mem} {r : Option Nat} {t : Nat} {i : Int32} {v : Option Nat} {K : Mem → Option (β × Mem)} {P : β → Mem → Prop} (h : FQ (wR M r t i v K) P) : ∃ a, r = some a ∧ (mT M a).1 = t ∧ ¬ (i < 0 ∨ (mT M a).2 ≤ i.toNatClampNeg) ∧ i.toNatClampNeg < (mT M a).2 ∧ (∀ b, v = some b → mT M b = (1, if t = 6 then 1 else 6)) ∧ FQ (K (sR M a i.toNatClampNeg v)) P := by
  cases r with
  | none => obtain ⟨b, M', h1, -⟩ := h; cases h1
  | some a =>
    refine ⟨a, rfl, ?_⟩
    unfold wR at h
    by_cases hT : (mT M a).1 = t ∧ 0 ≤ i ∧ i.toNatClampNeg < (mT M a).2 ∧ (∀ b, v = some b → mT M b = (1, if t = 6 then 1 else 6))
    · dsimp only at h; rw [if_pos hT] at h; exact ⟨hT.1, in_of hT.2.1 hT.2.2.1, hT.2.2.1, hT.2.2.2, h⟩
    · dsimp only at h; rw [if_neg hT] at h; obtain ⟨b, M', h1, -⟩ := h; cases h1
theorem aN_inv {β : Type} {M : Mem} {r : Option Nat} {K : Int32 → Option (β × Mem)} {P : β → Mem → Prop} (h : FQ (aN M r K) P) : ∃ a, r = some a ∧ 2 ≤ (mT M a).1 ∧ (mT M a).1 ≠ 9 ∧ (mT M a).1 ≤ 10 ∧ FQ (K (Int32.ofNat (mT M a).2)) P := by
  cases r with
  | none => obtain ⟨b, M', h1, -⟩ := h; cases h1
  | some a =>
    refine ⟨a, rfl, ?_⟩
    unfold aN at h
    by_cases hT : 2 ≤ (mT M a).1 ∧ (mT M a).1 ≠ 9 ∧ (mT M a).1 ≤ 10
    · dsimp only at h; rw [if_pos hT] at h; exact ⟨hT.1, hT.2.1, hT.2.2, h⟩
    · dsimp only at h; rw [if_neg hT] at h; obtain ⟨b, M', h1, -⟩ := h; cases h1
theorem Rl.cell {G : wG} {M : Mem} {U : State} {H : Heap} (h : Rl G M U H) {a t : Nat} (hT : (mT M a).1 = t) (h0 : t ≠ 0) : (t < 8 → 8 ≤ a) ∧ cellOk G M a U H := by
  obtain ⟨-, h1, -, h3⟩ := h.2.2 a (by rw [hT]; exact h0)
  refine ⟨fun ht => ?_, h3⟩
  rcases Nat.lt_or_ge a 8 with q | q
  · have := (h1 q).1; rw [hT] at this; omega
  · exact q
section RR
variable {Y : YM} {R : Room} {F : wF} {c n pc : Nat} {lo : List (Option Value)} {st : List Value} {M : Mem} {β : Type} {P : β → Mem → Prop}
theorem kA {Y : YM} {G : wG} {p : Program} {s : State} {m : MethodId} {args : Array Value} {meth : Method} {cd : Code} (C : wpK Y G p s m args meth cd) (i : Nat) {q : ClassId × FieldType} (h : (tysL G)[i]? = some q) : ArrOfT s q.1 q.2 ∧ va_RA s q.1 q.2 := C.kp.1.2 i q h
theorem r_iald {r : Option Nat} {i : Int32} {K : Int32 → Option (β × Mem)} (hd : Y.2.2.1[pc]? = some (some (.iaload, 1))) (h : FQ (aI M r 2 i K) P) (kk : ∀ v, FQ (K v) P → wp Y R F c n (pc + 1) lo (.int v :: st) M) : wp Y R F c n pc lo (.int i :: va_rf r :: st) M := by
  obtain ⟨a, rfl, hT, hin, hlt, h⟩ := aI_inv h
  intro G p l e s m args below meth cd H locs ls C hR hS hl
  have hc := (hR.cell hT (by decide)).2
  unfold cellOk at hc
  rw [hT] at hc
  exact W.iald (v := .int (mI M a i.toNatClampNeg)) C.x C.b hc ((kA C 0 rfl).1 _ _) (fun q => by cases q) (by rw [arrV_size]; exact hin) (arrV_read _ _ hlt) rfl rfl (C.d hd) (kk _ h G p l e s m args below meth cd H locs ls C hR hS hl)
theorem r_iald8 {r : Option Nat} {i : Int32} {K : Int32 → Option (β × Mem)} (hd : Y.2.2.1[pc]? = some (some (.iaload, 1))) (h : FQ (aI M r 8 i K) P) (kk : ∀ v, FQ (K v) P → wp Y R F c n (pc + 1) lo (.int v :: st) M) : wp Y R F c n pc lo (.int i :: va_rf r :: st) M := by
  obtain ⟨a, rfl, hT, hin, hlt, h⟩ := aI_inv h
  intro G p l e s m args below meth cd H locs ls C hR hS hl
  have hc := (hR.cell hT (by decide)).2
  unfold cellOk at hc
  rw [hT] at hc
  obtain ⟨cell, h1, h2, h3, h4, h5, h6, h7⟩ := hc
  refine W.iald (v := .int (mI M a i.toNatClampNeg)) C.x C.b h1 h2 h3 (fun q => hin (q.imp id (fun z => by omega))) (h6 _ hlt) rfl rfl (C.d hd) (kk _ h G p l e s m args below meth cd H locs ls C hR hS hl)
theorem r_bald {r : Option Nat} {i : Int32} {K : Int32 → Option (β × Mem)} (hd : Y.2.2.1[pc]? = some (some (.baload, 1))) (h : FQ (aI M r 4 i K) P) (kk : ∀ v, FQ (K v) P → wp Y R F c n (pc + 1) lo (.int v :: st) M) : wp Y R F c n pc lo (.int i :: va_rf r :: st) M := by
  obtain ⟨a, rfl, hT, hin, hlt, h⟩ := aI_inv h
  intro G p l e s m args below meth cd H locs ls C hR hS hl
  have hc := (hR.cell hT (by decide)).2
  unfold cellOk at hc
  rw [hT] at hc
  exact W.bald (v := .int (mI M a i.toNatClampNeg)) C.x C.b hc ((kA C 2 rfl).1 _ _) (fun q => by cases q) (by rw [arrV_size]; exact hin) (arrV_read _ _ hlt) rfl rfl (C.d hd) (kk _ h G p l e s m args below meth cd H locs ls C hR hS hl)
theorem r_bald10 {r : Option Nat} {i : Int32} {K : Int32 → Option (β × Mem)} (hd : Y.2.2.1[pc]? = some (some (.baload, 1))) (h : FQ (aI M r 10 i K) P) (kk : ∀ v, FQ (K v) P → wp Y R F c n (pc + 1) lo (.int v :: st) M) : wp Y R F c n pc lo (.int i :: va_rf r :: st) M := by
  obtain ⟨a, rfl, hT, hin, hlt, h⟩ := aI_inv h
  intro G p l e s m args below meth cd H locs ls C hR hS hl
  have hc := (hR.cell hT (by decide)).2
  unfold cellOk at hc
  rw [hT] at hc
  obtain ⟨cell, h1, h2, h3, h4, h5, h6, h7⟩ := hc
  refine W.bald (v := .int (mI M a i.toNatClampNeg)) C.x C.b h1 h2 h3 (fun q => hin (q.imp id (fun z => by omega))) (h6 _ hlt) rfl rfl (C.d hd) (kk _ h G p l e s m args below meth cd H locs ls C hR hS hl)
theorem r_zald {r : Option Nat} {i : Int32} {K : Int32 → Option (β × Mem)} (hd : Y.2.2.1[pc]? = some (some (.baload, 1))) (h : FQ (aI M r 5 i K) P) (kk : ∀ v, FQ (K v) P → wp Y R F c n (pc + 1) lo (.int v :: st) M) : wp Y R F c n pc lo (.int i :: va_rf r :: st) M := by
  obtain ⟨a, rfl, hT, hin, hlt, h⟩ := aI_inv h
  intro G p l e s m args below meth cd H locs ls C hR hS hl
  have hc := (hR.cell hT (by decide)).2
  unfold cellOk at hc
  rw [hT] at hc
  exact W.zald (v := .int (mI M a i.toNatClampNeg)) C.x C.b hc ((kA C 3 rfl).1 _ _) (fun q => by cases q) (by rw [arrV_size]; exact hin) (arrV_read _ _ hlt) rfl rfl (C.d hd) (kk _ h G p l e s m args below meth cd H locs ls C hR hS hl)
theorem r_lald {r : Option Nat} {i : Int32} {K : Int64 → Option (β × Mem)} (hd : Y.2.2.1[pc]? = some (some (.laload, 1))) (h : FQ (aL M r i K) P) (kk : ∀ v, FQ (K v) P → wp Y R F c n (pc + 1) lo (.long v :: st) M) : wp Y R F c n pc lo (.int i :: va_rf r :: st) M := by
  obtain ⟨a, rfl, hT, hin, hlt, h⟩ := aL_inv h
  intro G p l e s m args below meth cd H locs ls C hR hS hl
  have hc := (hR.cell hT (by decide)).2
  unfold cellOk at hc
  rw [hT] at hc
  exact W.lald (v := .long (mL M a i.toNatClampNeg)) C.x C.b hc ((kA C 1 rfl).1 _ _) (fun q => by cases q) (by rw [arrV_size]; exact hin) (arrV_read _ _ hlt) rfl rfl (C.d hd) (kk _ h G p l e s m args below meth cd H locs ls C hR hS hl)
theorem r_aald6 {r : Option Nat} {i : Int32} {K : Option Nat → Option (β × Mem)} (hd : Y.2.2.1[pc]? = some (some (.aaload, 1))) (h : FQ (aR M r 6 i K) P) (kk : ∀ v, FQ (K v) P → wp Y R F c n (pc + 1) lo (va_rf v :: st) M) : wp Y R F c n pc lo (.int i :: va_rf r :: st) M := by
  obtain ⟨a, rfl, hT, hin, hlt, h⟩ := aR_inv h
  intro G p l e s m args below meth cd H locs ls C hR hS hl
  have hc := (hR.cell hT (by decide)).2
  unfold cellOk at hc
  rw [hT] at hc
  have k1 := kk _ h G p l e s m args below meth cd H locs ls C hR hS hl
  rw [List.map_cons, sh_rf] at k1
  exact W.aald (v := va_rf (rq G (mR M a i.toNatClampNeg))) (ty := .object RX1) C.x C.b hc ((kA C 4 rfl).1 _ _) rfl (fun q => by cases q) (by rw [arrV_size]; exact hin) (arrV_read _ _ hlt) rfl rfl (C.d hd) k1
theorem r_aald7 {r : Option Nat} {i : Int32} {K : Option Nat → Option (β × Mem)} (hd : Y.2.2.1[pc]? = some (some (.aaload, 1))) (h : FQ (aR M r 7 i K) P) (kk : ∀ v, FQ (K v) P → wp Y R F c n (pc + 1) lo (va_rf v :: st) M) : wp Y R F c n pc lo (.int i :: va_rf r :: st) M := by
  obtain ⟨a, rfl, hT, hin, hlt, h⟩ := aR_inv h
  intro G p l e s m args below meth cd H locs ls C hR hS hl
  have hc := (hR.cell hT (by decide)).2
  unfold cellOk at hc
  rw [hT] at hc
  have k1 := kk _ h G p l e s m args below meth cd H locs ls C hR hS hl
  rw [List.map_cons, sh_rf] at k1
  exact W.aald (v := va_rf (rq G (mR M a i.toNatClampNeg))) (ty := .object RX6) C.x C.b hc ((kA C 5 rfl).1 _ _) rfl (fun q => by cases q) (by rw [arrV_size]; exact hin) (arrV_read _ _ hlt) rfl rfl (C.d hd) k1
theorem r_alen {r : Option Nat} {K : Int32 → Option (β × Mem)} (hd : Y.2.2.1[pc]? = some (some (.arraylength, 1))) (h : FQ (aN M r K) P) (kk : ∀ v, FQ (K v) P → wp Y R F c n (pc + 1) lo (.int v :: st) M) : wp Y R F c n pc lo (va_rf r :: st) M := by
  obtain ⟨a, rfl, hT, hn9, h10, h⟩ := aN_inv h
  intro G p l e s m args below meth cd H locs ls C hR hS hl
  have k1 := kk _ h G p l e s m args below meth cd H locs ls C hR hS hl
  have h0 := hR.2.2 a (by omega)
  have hc := h0.2.2.2
  unfold cellOk at hc
  have key : (mT M a).1 = 2 ∨ (mT M a).1 = 3 ∨ (mT M a).1 = 4 ∨ (mT M a).1 = 5 ∨ (mT M a).1 = 6 ∨ (mT M a).1 = 7 ∨ (mT M a).1 = 8 ∨ (mT M a).1 = 10 := by omega
  rcases key with ht | ht | ht | ht | ht | ht | ht | ht
  · rw [ht] at hc
    exact W.alen (n := Int32.ofNat (mT M a).2) C.x C.b hc ((kA C 0 rfl).1 _ _) (by rw [arrV_size] <;> rfl) rfl rfl (C.d hd) k1
  · rw [ht] at hc
    exact W.alen (n := Int32.ofNat (mT M a).2) C.x C.b hc ((kA C 1 rfl).1 _ _) (by rw [arrV_size] <;> rfl) rfl rfl (C.d hd) k1
  · rw [ht] at hc
    exact W.alen (n := Int32.ofNat (mT M a).2) C.x C.b hc ((kA C 2 rfl).1 _ _) (by rw [arrV_size] <;> rfl) rfl rfl (C.d hd) k1
  · rw [ht] at hc
    exact W.alen (n := Int32.ofNat (mT M a).2) C.x C.b hc ((kA C 3 rfl).1 _ _) (by rw [arrV_size] <;> rfl) rfl rfl (C.d hd) k1
  · rw [ht] at hc
    exact W.alen (n := Int32.ofNat (mT M a).2) C.x C.b hc ((kA C 4 rfl).1 _ _) (by rw [arrV_size] <;> rfl) rfl rfl (C.d hd) k1
  · rw [ht] at hc
    exact W.alen (n := Int32.ofNat (mT M a).2) C.x C.b hc ((kA C 5 rfl).1 _ _) (by rw [arrV_size] <;> rfl) rfl rfl (C.d hd) k1
  · rw [ht] at hc
    obtain ⟨cell, h1, h2, h3, h4, h5, h6, h7⟩ := hc
    exact W.alen (n := Int32.ofNat (mT M a).2) C.x C.b h1 h2 h5 rfl rfl (C.d hd) k1
  · rw [ht] at hc
    obtain ⟨cell, h1, h2, h3, h4, h5, h6, h7⟩ := hc
    exact W.alen (n := Int32.ofNat (mT M a).2) C.x C.b h1 h2 h5 rfl rfl (C.d hd) k1
end RR
