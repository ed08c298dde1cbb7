/-! ===== the game, purely ===== -/
abbrev Cl : Type := Nat × Nat × Nat × Nat × Nat × List Nat
abbrev Txt : Type := List Cl
def cTy (c : Cl) : Nat := c.1
def cMv (c : Cl) : Nat := c.2.1
def cAc (c : Cl) : Nat := c.2.2.1
def cKd (c : Cl) : Nat := c.2.2.2.1
def cDr (c : Cl) : Nat := c.2.2.2.2.1
def cCd (c : Cl) : List Nat := c.2.2.2.2.2
def okCl (c : Cl) : Prop := (cTy c = 0 ∧ cMv c < 8 ∧ 7 ≤ cAc c ∧ cAc c ≤ 10 ∧ cKd c < 4 ∧ cDr c < 4 ∧ (cCd c = [] ∨ wtC (cCd c) true)) ∨ (12 ≤ cTy c ∧ cTy c ≤ 15 ∧ wtC (cCd c) false) ∨ (cTy c = 16 ∧ wtC (cCd c) true)
def okT (T : Txt) : Prop := T.length ≤ 20 ∧ (∀ (i : Nat) (c : Cl), T[i]? = some c → okCl c) ∧ ∀ (i j : Nat) (c d : Cl), T[i]? = some c → T[j]? = some d → cTy c = cTy d → 12 ≤ cTy c → cTy c ≤ 15 → i = j
def okD (w h : Nat) : Prop := 2 ≤ w ∧ w ≤ 4 ∧ 1 ≤ h ∧ h ≤ 3
def besS (w h p d : Nat) : Option Nat :=
  if d = 0 then (if p < w then none else some (p - w))
  else if d = 1 then (if p % w + 1 < w then some (p + 1) else none)
  else if d = 2 then (if p / w + 1 < h then some (p + w) else none)
  else (if p % w = 0 then none else some (p - 1))
theorem okD.le {w h : Nat} (hd : okD w h) : w * h ≤ 12 := by
  obtain ⟨a, b, c, d⟩ := hd
  have := Nat.mul_le_mul b d
  omega
theorem okD.pos {w h : Nat} (hd : okD w h) : 2 ≤ w * h := by
  obtain ⟨a, b, c, d⟩ := hd
  have := Nat.mul_le_mul a c
  omega
theorem besS_lt {w h p d q : Nat} (hd : okD w h) (hp : p < w * h) (e : besS w h p d = some q) : q < w * h := by
  obtain ⟨a, b, c, e4⟩ := hd
  have hw : w = 2 ∨ w = 3 ∨ w = 4 := by omega
  have hh : h = 1 ∨ h = 2 ∨ h = 3 := by omega
  unfold besS at e
  rcases hw with rfl | rfl | rfl <;> rcases hh with rfl | rfl | rfl <;> (repeat' split at e) <;> first | (cases e; omega) | cases e
def goalS (w h : Nat) (π : Pos) (c : Cl) (p : Nat) : Option Nat :=
  if cAc c = 10 then (if cDr c = cKd c then none else some p) else
  match besS w h p (cDr c) with
  | none => none
  | some n => if cAc c = 7 then (if π.1 n = 0 then some n else none) else
    if π.1 n = 0 then none else match besS w h n (cDr c) with
    | none => none
    | some q => if π.1 q = 0 then (if cAc c = 8 then some q else some n) else none
theorem goalS_lt {w h p g : Nat} {π : Pos} {c : Cl} (hd : okD w h) (hp : p < w * h) (e : goalS w h π c p = some g) : g < w * h := by
  unfold goalS at e
  split at e
  · split at e
    · cases e
    · cases e; exact hp
  · split at e
    · cases e
    · rename_i n hn
      have h1 := besS_lt hd hp hn
      split at e
      · split at e
        · cases e; exact h1
        · cases e
      · split at e
        · cases e
        · split at e
          · cases e
          · rename_i q hq
            have h2 := besS_lt hd h1 hq
            split at e
            · split at e
              · cases e; exact h2
              · cases e; exact h1
            · cases e
/-- the names of a sum -/
def nmS (π : Pos) (m : Nat) (f t : Int) : Nat → Int := fun k =>
  if k = 0 then (m : Int) else if k = 1 then (π.2.1 m : Int) else if k = 2 then f else if k = 3 then t
  else if k = 4 then (cntS π.1 π.2.2 12 : Int) else if k = 5 then (cntS π.1 (1 - π.2.2) 12 : Int) else (π.2.2 : Int)
theorem nmS_ok {π : Pos} {m : Nat} {f t : Int} (ok : okP π) (hm : m < 8) (hf : -1 ≤ f ∧ f ≤ 12) (ht : -1 ≤ t ∧ t ≤ 12) : nmOk (nmS π m f t) := by
  intro k hk
  have h1 := ok.2.2.1 m
  have h2 := ok.2.2.2
  have h3 := cntS_le π.1 π.2.2 12
  have h4 := cntS_le π.1 (1 - π.2.2) 12
  unfold nmS vl
  repeat' split
  all_goals omega
def toS (w h : Nat) (π : Pos) (m p : Nat) (c : Cl) : Option Nat :=
  if π.1 p = 1 + cKd c + 4 * π.2.2 then
    match goalS w h π c p with
    | none => none
    | some g => if cCd c = [] then some g else if evV (nmS π m p g) (cCd c) = 0 then none else some g
  else none
theorem toS_lt {w h m p g : Nat} {π : Pos} {c : Cl} (hd : okD w h) (hp : p < w * h) (e : toS w h π m p c = some g) : g < w * h := by
  unfold toS at e
  split at e
  · split at e
    · cases e
    · rename_i q hq
      have h1 := goalS_lt hd hp hq
      split at e
      · cases e; exact h1
      · split at e
        · cases e
        · cases e; exact h1
  · cases e
def pickD (w h : Nat) (π : Pos) (m p : Nat) : Txt → Nat → Option (Nat × Nat)
  | [], _ => none
  | c :: r, i => if cTy c = 0 ∧ cMv c = m then (match toS w h π m p c with
      | some g => some (i, g)
      | none => pickD w h π m p r (i + 1)) else pickD w h π m p r (i + 1)
theorem pickD_n {w h m p i : Nat} {π : Pos} {c : Cl} {r : Txt} (hc : ¬ (cTy c = 0 ∧ cMv c = m)) : pickD w h π m p (c :: r) i = pickD w h π m p r (i + 1) := by
  show (if _ then _ else _) = _
  rw [if_neg hc]
theorem pickD_z {w h m p i : Nat} {π : Pos} {c : Cl} {r : Txt} (ht : toS w h π m p c = none) : pickD w h π m p (c :: r) i = pickD w h π m p r (i + 1) := by
  show (if _ then _ else _) = _
  rw [ht]
  simp
theorem pickD_y {w h m p i g : Nat} {π : Pos} {c : Cl} {r : Txt} (hc : cTy c = 0 ∧ cMv c = m) (ht : toS w h π m p c = some g) : pickD w h π m p (c :: r) i = some (i, g) := by
  show (if _ then _ else _) = _
  rw [if_pos hc, ht]
def fMd (m : Nat) : Txt → Nat → Option Nat
  | [], _ => none
  | c :: r, i => if cTy c = 0 ∧ cMv c = m then some i else fMd m r (i + 1)
theorem fMd_n {m i : Nat} {c : Cl} {r : Txt} (hc : ¬ (cTy c = 0 ∧ cMv c = m)) : fMd m (c :: r) i = fMd m r (i + 1) := by
  show (if _ then _ else _) = _
  rw [if_neg hc]
theorem fMd_y {m i : Nat} {c : Cl} {r : Txt} (hc : cTy c = 0 ∧ cMv c = m) : fMd m (c :: r) i = some i := by
  show (if _ then _ else _) = _
  rw [if_pos hc]
theorem pickD_none {w h m p : Nat} {π : Pos} : ∀ (R : Txt) (i : Nat), fMd m R i = none → pickD w h π m p R i = none
  | [], _, _ => rfl
  | c :: r, i, h0 => by
    by_cases hc : cTy c = 0 ∧ cMv c = m
    · rw [fMd_y hc] at h0; cases h0
    · rw [pickD_n hc]; rw [fMd_n hc] at h0; exact pickD_none r _ h0
def fTd (y : Nat) : Txt → Nat → Option Nat
  | [], _ => none
  | c :: r, i => if cTy c = y then some i else fTd y r (i + 1)
/-- the sum of the clause of a kind -/
def worS (T : Txt) (y : Nat) (nm : Nat → Int) : Int := match T.find? (fun c => cTy c == y) with
  | none => 0
  | some c => evV nm (cCd c)
abbrev Bst : Type := Option (Int × Nat × Nat × Nat)
def updS (b : Bst) (v : Int) (p g k : Nat) : Bst := match b with
  | none => some (v, p, g, k)
  | some b => if b.1 < v then some (v, p, g, k) else some b
def bstS (w h : Nat) (T : Txt) (π : Pos) (m : Nat) : Nat → Bst
  | 0 => none
  | n + 1 => match pickD w h π m n T 0 with
    | none => bstS w h T π m n
    | some (k, g) => updS (bstS w h T π m n) (worS T 12 (nmS π m n g)) n g k
theorem bstS_n {w h m n : Nat} {T : Txt} {π : Pos} (e : pickD w h π m n T 0 = none) : bstS w h T π m (n + 1) = bstS w h T π m n := by
  show (match pickD w h π m n T 0 with | none => _ | some (k, g) => _) = _
  rw [e]
theorem bstS_y {w h m n k g : Nat} {T : Txt} {π : Pos} (e : pickD w h π m n T 0 = some (k, g)) : bstS w h T π m (n + 1) = updS (bstS w h T π m n) (worS T 12 (nmS π m n g)) n g k := by
  show (match pickD w h π m n T 0 with | none => _ | some (k, g) => _) = _
  rw [e]
def canS (w h : Nat) (T : Txt) (π : Pos) (m : Nat) : Bst := bstS w h T π m (w * h)
/-- the moves that can be offered -/
def ablS (w h : Nat) (T : Txt) (π : Pos) : Chi := fun m => decide (0 < π.2.1 m) && (canS w h T π m).isSome
/-! ===== frames by cell and field ===== -/
def Fx (A : List Nat) (F : List (Nat × Nat)) (M M' : Mem) : Prop := mT M' = mT M ∧ mZ M' = mZ M ∧ mR M' = mR M ∧ ∀ b j, b ∉ A → (b, j) ∉ F → mI M' b j = mI M b j ∧ mL M' b j = mL M b j
section FX
variable {A A' : List Nat} {F F' : List (Nat × Nat)} {M M' M'' : Mem}
theorem Fx.rf : Fx A F M M := ⟨rfl, rfl, rfl, fun _ _ _ _ => ⟨rfl, rfl⟩⟩
theorem Fx.tr (h : Fx A F M M') (h' : Fx A F M' M'') : Fx A F M M'' := ⟨h'.1.trans h.1, h'.2.1.trans h.2.1, h'.2.2.1.trans h.2.2.1, fun b j hb hf => ⟨(h'.2.2.2 b j hb hf).1.trans (h.2.2.2 b j hb hf).1, (h'.2.2.2 b j hb hf).2.trans (h.2.2.2 b j hb hf).2⟩⟩
theorem Fx.mono (h : Fx A F M M') (h1 : A ⊆ A') (h2 : F ⊆ F') : Fx A' F' M M' := ⟨h.1, h.2.1, h.2.2.1, fun b j hb hf => h.2.2.2 b j (fun q => hb (h1 q)) (fun q => hf (h2 q))⟩
theorem Fx.T (h : Fx A F M M') : mT M' = mT M := h.1
theorem Fx.R (h : Fx A F M M') : mR M' = mR M := h.2.2.1
theorem Fx.i {b j : Nat} (h : Fx A F M M') (hb : b ∉ A) (hf : (b, j) ∉ F) : mI M' b j = mI M b j := (h.2.2.2 b j hb hf).1
theorem Fx.l {b j : Nat} (h : Fx A F M M') (hb : b ∉ A) (hf : (b, j) ∉ F) : mL M' b j = mL M b j := (h.2.2.2 b j hb hf).2
theorem Fx.ib {b : Nat} (h : Fx A F M M') (hb : b ∉ A ∧ ∀ q ∈ F, q.1 ≠ b) : mI M' b = mI M b := by
  funext j
  exact h.i hb.1 (fun q => hb.2 _ q rfl)
theorem Fx.lb {b : Nat} (h : Fx A F M M') (hb : b ∉ A ∧ ∀ q ∈ F, q.1 ≠ b) : mL M' b = mL M b := by
  funext j
  exact h.l hb.1 (fun q => hb.2 _ q rfl)
theorem Fx.wI {a k : Nat} {v : Int32} (h : a ∈ A ∨ (a, k) ∈ F) : Fx A F M (sI M a k v) := ⟨rfl, rfl, rfl, fun b j hb hf => ⟨by
  rw [mI_s, if_neg]
  rintro ⟨rfl, rfl⟩
  rcases h with h | h
  · exact hb h
  · exact hf h, rfl⟩⟩
theorem Fx.wL {a k : Nat} {v : Int64} (h : a ∈ A ∨ (a, k) ∈ F) : Fx A F M (sL M a k v) := ⟨rfl, rfl, rfl, fun b j hb hf => ⟨rfl, by
  rw [mL_s, if_neg]
  rintro ⟨rfl, rfl⟩
  rcases h with h | h
  · exact hb h
  · exact hf h⟩⟩
theorem Fx.I {a k : Nat} {v : Int32} (h' : Fx A F M M') (h : a ∈ A ∨ (a, k) ∈ F) : Fx A F M (sI M' a k v) := h'.tr (Fx.wI h)
theorem Fx.L {a k : Nat} {v : Int64} (h' : Fx A F M M') (h : a ∈ A ∨ (a, k) ∈ F) : Fx A F M (sL M' a k v) := h'.tr (Fx.wL h)
theorem Fx.of1 {a : Nat} (h : Fr1 (fun b => b = a) M M') (ha : a ∈ A) : Fx A F M M' := ⟨h.1, h.2.1, h.2.2.1, fun b j hb _ => by
  have hne : ¬ b = a := fun e => hb (e ▸ ha)
  exact ⟨by rw [h.i hne], by rw [h.l hne]⟩⟩
end FX
/-- cells that no text and no constant lies in -/
def scr (b : Nat) : Bool := (6 ≤ b && b < 18) || (43 ≤ b && b < 46) || (47 ≤ b && b < 50) || (200 ≤ b && b < 208) || (209 ≤ b && b < 234) || 243 ≤ b
def okA (A : List Nat) : Bool := A.all (fun b => scr b && b != 8 && b != 203 && b != 230)
def okF (F : List (Nat × Nat)) : Bool := F.all (fun q => scr q.1 && q != (8, 0) && q != (8, 1) && q != (203, 4) && q != (230, 0) && q != (230, 1) && q != (230, 2))
theorem okA_n {A : List Nat} (h : okA A = true) {b : Nat} (hb : scr b = false) : b ∉ A := fun q => by
  unfold okA at h
  rw [List.all_eq_true] at h
  have := h b q
  rw [hb] at this
  simp at this
theorem okF_n {F : List (Nat × Nat)} (h : okF F = true) {b : Nat} (hb : scr b = false) : ∀ q ∈ F, q.1 ≠ b := fun q hq e => by
  unfold okF at h
  rw [List.all_eq_true] at h
  have := h q hq
  rw [e, hb] at this
  simp at this
theorem Fx.c {A : List Nat} {F : List (Nat × Nat)} {M M' : Mem} (h : Fx A F M M') (ha : okA A = true) (hf : okF F = true) {b : Nat} (hb : scr b = false) : mI M' b = mI M b := h.ib ⟨okA_n ha hb, okF_n hf hb⟩
theorem Fx.c8 {A : List Nat} {F : List (Nat × Nat)} {M M' : Mem} (h : Fx A F M M') (ha : okA A = true) (hf : okF F = true) {b j : Nat} (hb : (b, j) ∈ [(8, 0), (8, 1), (203, 4), (230, 0), (230, 1), (230, 2)]) : mI M' b j = mI M b j := by
  unfold okA at ha
  unfold okF at hf
  rw [List.all_eq_true] at ha hf
  have h1 : b = 8 ∨ b = 203 ∨ b = 230 := by
    simp only [List.mem_cons, Prod.mk.injEq, List.not_mem_nil, or_false] at hb
    omega
  refine h.i (fun q => ?_) (fun q => ?_)
  · have := ha b q
    rcases h1 with rfl | rfl | rfl <;> simp at this
  · have := hf _ q
    simp only [List.mem_cons, List.not_mem_nil, or_false] at hb
    rcases hb with e | e | e | e | e | e <;> rw [e] at this <;> simp at this
/-! ===== what stands fast while games are played: layout, measures, triples, texts ===== -/
def adr (r : Nat) (o : Option Nat) : Option Nat := o.map (fun i => r + 5 + i)
def RulesAt (r : Nat) (T : Txt) (M : Mem) : Prop := mI M r 4 = nI T.length ∧ (∀ (i : Nat) (c : Cl), T[i]? = some c → mI M (r + 5 + i) 1 = nI (cTy c) ∧ (cTy c = 0 → mI M (r + 5 + i) 2 = nI (cMv c) ∧ mI M (r + 5 + i) 3 = nI (cAc c) ∧ mI M (r + 5 + i) 4 = nI (cKd c) ∧ mI M (r + 5 + i) 5 = nI (cDr c) ∧ mR M (r + 5 + i) 8 = adr r (fMd (cMv c) (T.drop (i + 1)) (i + 1))) ∧ ∃ cs, CodeAt r (r + 4) (r + 5 + i) cs (cCd c) M) ∧ (∀ m, m < 8 → mR M (r + 2) m = adr r (fMd m T 0)) ∧ (∀ y, y < 4 → mR M (r + 3) y = adr r (fTd (12 + y) T 0))
def mwd (y : Nat) : Nat := y - 11
def TextM (t : Nat) (T : Txt) (M : Mem) : Prop := mI M 234 t = nI T.length ∧ ∀ (k : Nat) (c : Cl), T[k]? = some c → mI M 235 (20 * t + k) = nI (mwd (cTy c)) ∧ mI M 237 (20 * t + k) = (if cTy c = 0 then nI (cMv c) else m1) ∧ (cTy c = 0 → mI M 238 (20 * t + k) = nI (cAc c - 7) ∧ mI M 239 (20 * t + k) = nI (cKd c) ∧ mI M 240 (20 * t + k) = nI (cDr c)) ∧ (cCd c = [] → mI M 236 (20 * t + k) = m1) ∧ (cCd c ≠ [] → ∃ off, mI M 236 (20 * t + k) = nI off ∧ CodeM off (cCd c) M ∧ off + (cCd c).length < 400 * (t + 1))
def trT : List Nat := [7, 11, 19, 35, 67, 131, 13, 21, 37, 69, 133, 25, 41, 73, 137, 49, 81, 145, 97, 161, 193, 14, 22, 38, 70, 134, 26, 42, 74, 138, 50, 82, 146, 98, 162, 194, 28, 44, 76, 140, 52, 84, 148, 100, 164, 196, 56, 88, 152, 104, 168, 200, 112, 176, 208, 224]
def DimAt (w h : Nat) (M : Mem) : Prop := mI M 8 0 = nI w ∧ mI M 8 1 = nI h ∧ mI M 203 4 = nI (w * h) ∧ (∀ p d, p < w * h → d < 4 → mI M 208 (p * 4 + d) = oI (besS w h p d)) ∧ mI M 230 0 = nI w ∧ mI M 230 1 = nI h ∧ mI M 230 2 = nI (w * h) ∧ ∀ i, i < 56 → mI M 46 i = nI (trT.getD i 0)
def Bs (w h L nt : Nat) (τ : Nat → Txt) (M : Mem) : Prop := okD w h ∧ Lay (w * h) L M ∧ DimAt w h M ∧ RulesAt 18 [] M ∧ nt ≤ 6 ∧ ∀ t, t < nt → okT (τ t) ∧ RulesAt (rA t) (τ t) M ∧ TextM t (τ t) M
section BS
variable {w h L nt : Nat} {τ : Nat → Txt} {M M' : Mem} {A : List Nat} {F : List (Nat × Nat)}
theorem scr_ra {r i : Nat} (hr : isRA r) (hi : i < 25) : scr (r + i) = false := by
  have : (18 ≤ r + i ∧ r + i < 43) ∨ (50 ≤ r + i ∧ r + i < 200) := by
    rcases hr with rfl | ⟨t, ht, rfl⟩
    · omega
    · unfold rA; omega
  unfold scr
  simp only [Bool.or_eq_false_iff, Bool.and_eq_false_iff, decide_eq_false_iff_not]
  omega
theorem Lay.fx {pl : Nat} (hl : Lay pl L M) (fr : Fx A F M M') (ha : okA A = true) (hf : okF F = true) : Lay pl L M' := by
  obtain ⟨l1, l2, l3, l4, l5, l6, l7, l8, l9, l10, l11, l12, l13⟩ := hl
  have e := fr.2.2.1
  refine ⟨by rw [fr.1]; exact l1, by rw [fr.2.1]; exact l2, by rw [e]; exact l3, by rw [e]; exact l4, by rw [e]; exact l5, fun r hr i hi => ?_, by rw [e]; exact l7, by rw [e]; exact l8, ?_, ?_, ?_, ?_, ?_⟩
  · rw [show r + 5 + i = r + (5 + i) by omega, fr.c ha hf (scr_ra hr (by omega)), ← Nat.add_assoc]
    exact l6 r hr i hi
  · rw [fr.c ha hf (b := 1) rfl]; exact l9
  · rw [fr.c ha hf (b := 4) rfl]; exact l10
  · rw [fr.c ha hf (b := 5) rfl]; exact l11
  · rw [fr.c ha hf (b := 2) rfl]; exact l12
  · rw [fr.c ha hf (b := 3) rfl]; exact l13
theorem RulesAt.fx {r : Nat} {T : Txt} (hr : isRA r) (hT : T.length ≤ 20) (h : RulesAt r T M) (fr : Fx A F M M') (ha : okA A = true) (hf : okF F = true) : RulesAt r T M' := by
  obtain ⟨r1, r2, r3, r4⟩ := h
  have e := fr.2.2.1
  refine ⟨by rw [fr.c ha hf (by have := scr_ra hr (i := 0) (by omega); exact this)]; exact r1, fun i c hc => ?_, by rw [e]; exact r3, by rw [e]; exact r4⟩
  have hi : i < T.length := (List.getElem?_eq_some_iff.mp hc).1
  have e1 : mI M' (r + 5 + i) = mI M (r + 5 + i) := by
    rw [show r + 5 + i = r + (5 + i) by omega]
    exact fr.c ha hf (scr_ra hr (by omega))
  have e2 : mI M' (r + 4) = mI M (r + 4) := fr.c ha hf (scr_ra hr (by omega))
  rw [e1, e]
  obtain ⟨q1, q2, cs, c1, c2, c3, c4, c5, c6, c7, c8⟩ := r2 i c hc
  exact ⟨q1, q2, cs, by rw [fr.1]; exact c1, by rw [e]; exact c2, by rw [fr.1]; exact c3, by rw [fr.1]; exact c4, by rw [e1]; exact c5, by rw [e1]; exact c6, c7, by rw [e2]; exact c8⟩
theorem TextM.fx {t : Nat} {T : Txt} (h : TextM t T M) (fr : Fx A F M M') (ha : okA A = true) (hf : okF F = true) : TextM t T M' := by
  unfold TextM CodeM at *
  rw [fr.c ha hf (b := 234) rfl, fr.c ha hf (b := 235) rfl, fr.c ha hf (b := 236) rfl, fr.c ha hf (b := 237) rfl, fr.c ha hf (b := 238) rfl, fr.c ha hf (b := 239) rfl, fr.c ha hf (b := 240) rfl, fr.c ha hf (b := 241) rfl, fr.c ha hf (b := 242) rfl]
  exact h
theorem DimAt.fx (h' : DimAt w h M) (fr : Fx A F M M') (ha : okA A = true) (hf : okF F = true) : DimAt w h M' := by
  unfold DimAt at *
  rw [fr.c ha hf (b := 208) rfl, fr.c ha hf (b := 46) rfl, fr.c8 ha hf (b := 8) (j := 0) (by decide), fr.c8 ha hf (b := 8) (j := 1) (by decide), fr.c8 ha hf (b := 203) (j := 4) (by decide), fr.c8 ha hf (b := 230) (j := 0) (by decide), fr.c8 ha hf (b := 230) (j := 1) (by decide), fr.c8 ha hf (b := 230) (j := 2) (by decide)]
  exact h'
theorem Bs.fx (hb : Bs w h L nt τ M) (fr : Fx A F M M') (ha : okA A = true) (hf : okF F = true) : Bs w h L nt τ M' := by
  obtain ⟨b1, b2, b3, b4, b5, b6⟩ := hb
  exact ⟨b1, b2.fx fr ha hf, b3.fx fr ha hf, b4.fx (Or.inl rfl) (by simp) fr ha hf, b5, fun t ht => ⟨(b6 t ht).1, (b6 t ht).2.1.fx (Or.inr ⟨t, by omega, rfl⟩) (b6 t ht).1.1 fr ha hf, (b6 t ht).2.2.fx fr ha hf⟩⟩
theorem Bs.lay (hb : Bs w h L nt τ M) : Lay (w * h) L M := hb.2.1
theorem Bs.dim (hb : Bs w h L nt τ M) : DimAt w h M := hb.2.2.1
end BS
/-- a text or none -/
def tT (τ : Nat → Txt) (x : Option Nat) : Txt := match x with
  | none => []
  | some t => τ t
def rT (x : Option Nat) : Nat := match x with
  | none => 18
  | some t => rA t
def okX (nt : Nat) (x : Option Nat) : Prop := ∀ t, x = some t → t < nt
theorem okX.ra {nt : Nat} {x : Option Nat} (h : okX nt x) (h6 : nt ≤ 6) : isRA (rT x) := by
  cases x with
  | none => exact Or.inl rfl
  | some t => exact Or.inr ⟨t, by have := h t rfl; omega, rfl⟩
theorem Bs.rules {w h L nt : Nat} {τ : Nat → Txt} {M : Mem} {x : Option Nat} (hb : Bs w h L nt τ M) (hx : okX nt x) : RulesAt (rT x) (tT τ x) M := by
  cases x with
  | none => exact hb.2.2.2.1
  | some t => exact (hb.2.2.2.2.2 t (hx t rfl)).2.1
theorem okT_nil : okT [] := ⟨by simp, fun i c e => by simp at e, fun i j c d e => by simp at e⟩
theorem Bs.okT {w h L nt : Nat} {τ : Nat → Txt} {M : Mem} {x : Option Nat} (hb : Bs w h L nt τ M) (hx : okX nt x) : okT (tT τ x) := by
  cases x with
  | none => exact okT_nil
  | some t => exact (hb.2.2.2.2.2 t (hx t rfl)).1
