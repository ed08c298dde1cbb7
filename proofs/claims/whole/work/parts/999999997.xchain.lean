/-! ===== the class chains a text's clauses ===== -/
section XCHAIN
variable {pl L r : Nat}
theorem m1_dn {k : Nat} : nI (k + 1) - (1 : Int32) = nI k := by rw [show (1 : Int32) = nI 1 from rfl, pk_sub (by omega), Nat.add_sub_cancel]
theorem fMd_d {m k : Nat} {T : Txt} {c : Cl} (h : T[k]? = some c) : fMd m (T.drop k) k = if cTy c = 0 ∧ cMv c = m then some k else fMd m (T.drop (k + 1)) (k + 1) := by
  obtain ⟨hk, he⟩ := List.getElem?_eq_some_iff.mp h
  rw [List.drop_eq_getElem_cons hk, he]
  rfl
end XCHAIN
