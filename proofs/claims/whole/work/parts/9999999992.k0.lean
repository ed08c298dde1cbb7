/-! ===== the script's row stays as it is (written by wip/gen/mkk0.py) ===== -/
def G0 (M0 M : Mem) : Prop := (mT M 0).1 = 8 ∧ mT M = mT M0 ∧ mI M 0 = mI M0 0
def K0 {β : Type} (M0 : Mem) (x : Option (β × Mem)) : Prop := ∀ r M', x = some (r, M') → G0 M0 M'
section K0S
variable {β γ : Type} {M0 M : Mem}
theorem k_none : K0 M0 (none : Option (β × Mem)) := fun r M' h => by cases h
theorem k_some {b : β} (h : G0 M0 M) : K0 M0 (some (b, M)) := fun r M' e => by cases e; exact h
theorem k_if {c : Prop} [Decidable c] {x y : Option (β × Mem)} (h1 : K0 M0 x) (h2 : K0 M0 y) : K0 M0 (if c then x else y) := by split <;> assumption
theorem k_gI {r : Option Nat} {c k : Nat} {K : Int32 → Option (β × Mem)} (h : ∀ v, K0 M0 (K v)) : K0 M0 (gI M r c k K) := by
  unfold gI; repeat' split
  all_goals first | exact h _ | exact k_none
theorem k_gL {r : Option Nat} {c k : Nat} {K : Int64 → Option (β × Mem)} (h : ∀ v, K0 M0 (K v)) : K0 M0 (gL M r c k K) := by
  unfold gL; repeat' split
  all_goals first | exact h _ | exact k_none
theorem k_gR {r : Option Nat} {c k : Nat} {K : Option Nat → Option (β × Mem)} (h : ∀ v, K0 M0 (K v)) : K0 M0 (gR M r c k K) := by
  unfold gR; repeat' split
  all_goals first | exact h _ | exact k_none
theorem k_aI {r : Option Nat} {t : Nat} {i : Int32} {K : Int32 → Option (β × Mem)} (h : ∀ v, K0 M0 (K v)) : K0 M0 (aI M r t i K) := by
  unfold aI; repeat' split
  all_goals first | exact h _ | exact k_none
theorem k_aL {r : Option Nat} {i : Int32} {K : Int64 → Option (β × Mem)} (h : ∀ v, K0 M0 (K v)) : K0 M0 (aL M r i K) := by
  unfold aL; repeat' split
  all_goals first | exact h _ | exact k_none
theorem k_aR {r : Option Nat} {t : Nat} {i : Int32} {K : Option Nat → Option (β × Mem)} (h : ∀ v, K0 M0 (K v)) : K0 M0 (aR M r t i K) := by
  unfold aR; repeat' split
  all_goals first | exact h _ | exact k_none
theorem k_aN {r : Option Nat} {K : Int32 → Option (β × Mem)} (h : ∀ v, K0 M0 (K v)) : K0 M0 (aN M r K) := by
  unfold aN; repeat' split
  all_goals first | exact h _ | exact k_none
theorem k_gS {r : Option Nat} {K : Option Nat → Option (β × Mem)} (h : ∀ v, K0 M0 (K v)) : K0 M0 (gS M r K) := by
  unfold gS; repeat' split
  all_goals first | exact h _ | exact k_none
theorem k_gSc {r : Option Nat} {K : Int32 → Option (β × Mem)} (h : ∀ v, K0 M0 (K v)) : K0 M0 (gSc M r K) := by
  unfold gSc; repeat' split
  all_goals first | exact h _ | exact k_none
theorem k_gF {K : Option Nat → Option (β × Mem)} (h : ∀ v, K0 M0 (K v)) : K0 M0 (gF M K) := by
  unfold gF; repeat' split
  all_goals first | exact h _ | exact k_none
theorem k_cR {r : Option Nat} {t : Nat × Nat} {K : Option (β × Mem)} (h : K0 M0 K) : K0 M0 (cR M r t K) := by
  unfold cR; repeat' split
  all_goals first | exact h | exact k_none
theorem k_cS {r : Option Nat} {K : Option (β × Mem)} (h : K0 M0 K) : K0 M0 (cS M r K) := by
  unfold cS; repeat' split
  all_goals first | exact h | exact k_none
theorem k_tv {y : Int32} {K : Option (β × Mem)} (h : K0 M0 K) : K0 M0 (tv y K) := by
  unfold tv; repeat' split
  all_goals first | exact h | exact k_none
theorem k_nzI {y : Int32} {K : Option (β × Mem)} (h : K0 M0 K) : K0 M0 (nzI y K) := by
  unfold nzI; repeat' split
  all_goals first | exact h | exact k_none
theorem k_nzL {y : Int64} {K : Option (β × Mem)} (h : K0 M0 K) : K0 M0 (nzL y K) := by
  unfold nzL; repeat' split
  all_goals first | exact h | exact k_none
theorem k_cv {y : Int32} {K : Option (β × Mem)} (h : K0 M0 K) : K0 M0 (cv y K) := by
  unfold cv; repeat' split
  all_goals first | exact h | exact k_none
theorem k_bv {y : Int32} {K : Option (β × Mem)} (h : K0 M0 K) : K0 M0 (bv y K) := by
  unfold bv; repeat' split
  all_goals first | exact h | exact k_none
theorem k_ac {r0 r1 : Option Nat} {A B : Option (β × Mem)} (h1 : K0 M0 A) (h2 : K0 M0 B) : K0 M0 (ac r0 r1 A B) := by
  unfold ac; repeat' split
  all_goals first | exact h1 | exact h2 | exact k_none
theorem G0.wI {a k : Nat} {v : Int32} (h : G0 M0 M) (ha : a ≠ 0) : G0 M0 (sI M a k v) := ⟨h.1, h.2.1, by rw [← h.2.2]; exact up2_n (Ne.symm ha)⟩
theorem k_pI {r : Option Nat} {c k : Nat} {v : Int32} {K : Mem → Option (β × Mem)} (hM : G0 M0 M) (h : ∀ M1, G0 M0 M1 → K0 M0 (K M1)) : K0 M0 (pI M r c k v K) := by
  unfold pI
  split
  · split
    · rename_i a ha
      exact h _ (hM.wI (fun e => by have := hM.1; rw [← e, ha] at this; cases this))
    · exact k_none
  · exact k_none
theorem k_pL {r : Option Nat} {c k : Nat} {v : Int64} {K : Mem → Option (β × Mem)} (hM : G0 M0 M) (h : ∀ M1, G0 M0 M1 → K0 M0 (K M1)) : K0 M0 (pL M r c k v K) := by
  unfold pL; repeat' split
  all_goals first | exact h _ hM | exact k_none
theorem k_pR {r : Option Nat} {c k : Nat} {v : Option Nat} {K : Mem → Option (β × Mem)} (hM : G0 M0 M) (h : ∀ M1, G0 M0 M1 → K0 M0 (K M1)) : K0 M0 (pR M r c k v K) := by
  unfold pR; repeat' split
  all_goals first | exact h _ hM | exact k_none
theorem k_wI {r : Option Nat} {t : Nat} {i v : Int32} {K : Mem → Option (β × Mem)} (ht : t ≠ 8) (hM : G0 M0 M) (h : ∀ M1, G0 M0 M1 → K0 M0 (K M1)) : K0 M0 (wI M r t i v K) := by
  unfold wI
  split
  · split
    · rename_i a ha
      exact h _ (hM.wI (fun e => ht (by rw [← ha.1, e]; exact hM.1)))
    · exact k_none
  · exact k_none
theorem k_wL {r : Option Nat} {i : Int32} {v : Int64} {K : Mem → Option (β × Mem)} (hM : G0 M0 M) (h : ∀ M1, G0 M0 M1 → K0 M0 (K M1)) : K0 M0 (wL M r i v K) := by
  unfold wL; repeat' split
  all_goals first | exact h _ hM | exact k_none
theorem k_wR {r : Option Nat} {t : Nat} {i : Int32} {v : Option Nat} {K : Mem → Option (β × Mem)} (hM : G0 M0 M) (h : ∀ M1, G0 M0 M1 → K0 M0 (K M1)) : K0 M0 (wR M r t i v K) := by
  unfold wR; repeat' split
  all_goals first | exact h _ hM | exact k_none
theorem k_cP {r0 r1 : Option Nat} {sp dp m : Int32} {K : Mem → Option (β × Mem)} (hM : G0 M0 M) (h : ∀ M1, G0 M0 M1 → K0 M0 (K M1)) : K0 M0 (cP M r0 sp r1 dp m K) := by
  unfold cP
  split
  · split
    · rename_i a b hb
      refine h _ ⟨hM.1, hM.2.1, ?_⟩
      rw [← hM.2.2]
      exact up1_n (fun e => by have := hM.1; rw [e, hb.2.1] at this; cases this)
    · exact k_none
  · exact k_none
theorem k_cA {x : Option (β × Mem)} {K : β → Mem → Option (γ × Mem)} (hx : K0 M0 x) (h : ∀ v M1, G0 M0 M1 → K0 M0 (K v M1)) : K0 M0 (cA x K) := by
  unfold cA
  split
  · rename_i b M1
    exact h _ _ (hx _ _ rfl)
  · exact k_none
end K0S
