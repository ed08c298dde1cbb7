/-! ===== what the tables say of the classes ===== -/
theorem gw_good : ∀ w ∈ gw, goodWord w = true := fun w h => (List.mem_filter.mp h).2
theorem gw_in {w : Cond} (i : Nat) (h : tables_1[i]? = some w) (hg : goodWord w = true) : w ∈ gw := List.mem_filter.mpr ⟨List.mem_append.mpr (Or.inr (List.mem_of_getElem? h)), hg⟩
theorem gw_sel {y : MethodName} {n : Nat} (i : Nat) (h : lw_privs[i]? = some (y, n)) (hg : goodWord (.selects y.cls y y) = true) : Cond.selects y.cls y y ∈ gw :=
  List.mem_filter.mpr ⟨List.mem_append.mpr (Or.inl (List.mem_map.mpr ⟨(y, n), List.mem_of_getElem? h, rfl⟩)), hg⟩
theorem cw0 : ∀ w ∈ wsX00, w ∈ gw := by decide +kernel
theorem cw1 : ∀ w ∈ wsX10, w ∈ gw := by decide +kernel
theorem cw2 : ∀ w ∈ wsX20, w ∈ gw := by decide +kernel
theorem cw3 : ∀ w ∈ wsX30, w ∈ gw := by decide +kernel
theorem cw4 : ∀ w ∈ wsX40, w ∈ gw := by decide +kernel
theorem cw5 : ∀ w ∈ wsX50, w ∈ gw := by decide +kernel
theorem cw6 : ∀ w ∈ wsX60, w ∈ gw := by decide +kernel
theorem cw7 : ∀ w ∈ wsX70, w ∈ gw := by decide +kernel
theorem cw8 : ∀ w ∈ wsX80, w ∈ gw := by decide +kernel
theorem cw9 : ∀ w ∈ wsX90, w ∈ gw := by decide +kernel
theorem cw10 : ∀ w ∈ wsX100, w ∈ gw := by decide +kernel
theorem cw11 : ∀ w ∈ wsX110, w ∈ gw := by decide +kernel
theorem cw12 : ∀ w ∈ wsX120, w ∈ gw := by decide +kernel
def clsOk (c : Nat) (q : vw_C) : Prop := (∀ w ∈ u_ws q.1 q.2.1 q.2.2, w ∈ gw) ∧ (∀ k, k < q.2.2 → parseFieldDescriptor (q.2.1 k).2.2.1 = some (fty c k)) ∧ (∀ a, a < q.2.2 → ∀ b, b < q.2.2 → a ≠ b → (q.2.1 a).2.1 ≠ (q.2.1 b).2.1)
theorem cls_ok : ∀ (c : Nat) (q : vw_C), vwCl[c]? = some q → clsOk c q := by
  intro c q h
  match c, h with
  | 0, h => cases h; exact ⟨cw0, tyX0_ok, nmX0⟩
  | 1, h => cases h; exact ⟨cw1, tyX1_ok, nmX1⟩
  | 2, h => cases h; exact ⟨cw2, tyX2_ok, nmX2⟩
  | 3, h => cases h; exact ⟨cw3, tyX3_ok, nmX3⟩
  | 4, h => cases h; exact ⟨cw4, tyX4_ok, nmX4⟩
  | 5, h => cases h; exact ⟨cw5, tyX5_ok, nmX5⟩
  | 6, h => cases h; exact ⟨cw6, tyX6_ok, nmX6⟩
  | 7, h => cases h; exact ⟨cw7, tyX7_ok, nmX7⟩
  | 8, h => cases h; exact ⟨cw8, tyX8_ok, nmX8⟩
  | 9, h => cases h; exact ⟨cw9, tyX9_ok, nmX9⟩
  | 10, h => cases h; exact ⟨cw10, tyX10_ok, nmX10⟩
  | 11, h => cases h; exact ⟨cw11, tyX11_ok, nmX11⟩
  | 12, h => cases h; exact ⟨cw12, tyX12_ok, nmX12⟩
  | k + 13, h => simp [vwCl] at h
/-- a field as an instruction names it -/
def FLk (own : String) (ix c k : Nat) (b : Bool) : Prop := ∃ q : vw_C, vwCl[c]? = some q ∧ k < q.2.2 ∧ Jvm.Cond.fieldLink own ix (q.2.1 k).1 (q.2.1 k).2.1 (q.2.1 k).2.2.1 ∈ gw ∧ (q.2.1 k).2.2.2 = b
