/-! ===== the class decides what was touched ===== -/
theorem nodup_take {l : List Nat} {j : Nat} (hd : l.Nodup) (hj : j < l.length) : l.getD j 0 ∉ l.take j := by
  intro hm
  obtain ⟨u, h1, h2, e⟩ := take_mem hm
  rw [List.getD_eq_getElem?_getD, List.getD_eq_getElem?_getD, List.getElem?_eq_getElem h2, List.getElem?_eq_getElem hj] at e
  have := (List.getElem_inj hd).mp e
  omega
theorem tkL_sub {l : List Nat} {j i : Nat} (h : i ∈ l.take j) : i ∈ l := List.mem_of_mem_take h
section LEVEL2
variable {w h L nt : Nat} {τ : Nat → Txt} {n p : Nat} {op : Nat → Chi} {W Ls : Nat → Nat → Chi}
abbrev dcA : List Nat := [221, 222, 227]
abbrev dcF : List (Nat × Nat) := [(220, 11)]
def nwR (op : Nat → Chi) (W Ls : Nat → Nat → Chi) (i : Nat) : Nat := dcS (op i) W Ls i TQ true
def nwL (op : Nat → Chi) (W Ls : Nat → Nat → Chi) (l : List Nat) : List Nat := l.filter (fun i => nwR op W Ls i != 0)
theorem nwL_mem {l : List Nat} {i : Nat} : i ∈ nwL op W Ls l ↔ i ∈ l ∧ nwR op W Ls i ≠ 0 := by
  unfold nwL
  rw [List.mem_filter]
  simp
theorem nwL_y {l : List Nat} {i : Nat} (h : nwR op W Ls i ≠ 0) : nwL op W Ls (l ++ [i]) = nwL op W Ls l ++ [i] := by
  unfold nwL
  rw [List.filter_append]
  congr 1
  rw [List.filter_cons, if_pos (by simp [h])]
  rfl
theorem nwL_n {l : List Nat} {i : Nat} (h : nwR op W Ls i = 0) : nwL op W Ls (l ++ [i]) = nwL op W Ls l := by
  unfold nwL
  rw [List.filter_append, List.filter_cons, if_neg (by simp [h])]
  simp
theorem x_da54 (hn : n ≤ 2000) {res : Nat → Nat} {lv : Nat → Int32} {ql tl : List Nat} (hql : ∀ i, i ∈ ql → i < n ∧ res i ≠ 0) (hqd : ql.Nodup) (htl : ∀ i, i ∈ tl → i < n ∧ res i = 0) (htd : tl.Nodup) {M0 : Mem} (q4 : Option Nat → Int32 → Int32 → Mem → Option (Unit × Mem)) : ∀ (k f j : Nat) (M : Mem), j + k = tl.length → k < f → Bs w h L nt τ M → LdX n W Ls M → (∀ i, i < n → mI M 212 i = nI (bS (op i) 8)) → QuX (ql ++ nwL op W Ls (tl.take j)) M → mI M 220 12 = nI tl.length → (∀ k, k < tl.length → mI M 228 k = nI (tl.getD k 0)) → (∀ i, i < n → mI M 221 i = nI (if i ∈ tl.take j then nwR op W Ls i else res i) ∧ mI M 222 i = if i ∈ tl.take j ∧ nwR op W Ls i ≠ 0 then nI p else lv i) → Fx dcA dcF M0 M → ∃ M', f_X0_decideAll_54 q4 f (some 220) (nI ql.length) (nI p) (nI j) M = q4 (some 220) (nI ql.length) (nI (p + 1)) M' ∧ Fx dcA dcF M0 M' ∧ QuX (ql ++ nwL op W Ls tl) M' ∧ (∀ i, i < n → mI M' 221 i = nI (if i ∈ tl then nwR op W Ls i else res i) ∧ mI M' 222 i = if i ∈ tl ∧ nwR op W Ls i ≠ 0 then nI p else lv i)
  | k, 0, j, M => fun _ z => absurd z (by omega)
  | 0, f + 1, j, M => by
    intro hj _ hb hL hO hQ h12 h28 hV fr
    obtain rfl : j = tl.length := by omega
    have hl := hb.lay
    rw [List.take_length] at hQ hV
    refine ⟨M, ?_, fr, hQ, hV⟩
    rw [u_X0_decideAll_54]
    unfold b_X0_decideAll_54
    rw [gI_t (ly_t220 hl), h12, if_pos (Int32.le_refl _), nI_1]
  | k + 1, f + 1, j, M => by
    intro hj hf hb hL hO hQ h12 h28 hV fr
    have hl := hb.lay
    have hjl : j < tl.length := by omega
    have htn : tl.length ≤ n := nd_len htd (fun i hi => (htl i hi).1)
    obtain ⟨i0, hi0⟩ : ∃ i0, i0 = tl.getD j 0 := ⟨_, rfl⟩
    have hm : i0 ∈ tl := by rw [hi0]; exact getD_mem hjl
    have hni : i0 ∉ tl.take j := by rw [hi0]; exact nodup_take htd hjl
    have hts : tl.take (j + 1) = tl.take j ++ [i0] := by rw [hi0]; exact tkL_s hjl
    obtain ⟨hin, hr0⟩ := htl i0 hm
    have hcd : (ql ++ nwL op W Ls (tl.take j)).Nodup := by
      rw [List.nodup_append]
      refine ⟨hqd, List.Pairwise.filter _ (List.Sublist.nodup (List.take_sublist j tl) htd), fun a ha b hb' e => ?_⟩
      subst e
      exact (hql a ha).2 (htl a (tkL_sub (nwL_mem.mp hb').1)).2
    have hcl : (ql ++ nwL op W Ls (tl.take j)).length < n := by
      refine nd_lt (i := i0) hcd (fun i hi => ?_) hin (fun hi => ?_)
      · rcases List.mem_append.mp hi with q | q
        · exact (hql i q).1
        · exact (htl i (tkL_sub (nwL_mem.mp q).1)).1
      · rcases List.mem_append.mp hi with q | q
        · exact (hql _ q).2 hr0
        · exact hni (nwL_mem.mp q).1
    have hdec : f_X0_decide (some 220) (nI i0) (nI p) M = some ((), if nwR op W Ls i0 = 0 then M else sI (sI (sI (sI M 221 i0 (nI (nwR op W Ls i0))) 222 i0 (nI p)) 227 (ql ++ nwL op W Ls (tl.take j)).length (nI i0)) 220 11 (nI ((ql ++ nwL op W Ls (tl.take j)).length + 1))) := x_decideS (p := p) hb hL hin hn (hO i0 hin) hQ.1 (by omega)
    have mem1 : ∀ i, i ∈ tl.take (j + 1) ↔ (i ∈ tl.take j ∨ i = i0) := fun i => by rw [hts, List.mem_append, List.mem_singleton]
    rw [u_X0_decideAll_54]
    unfold b_X0_decideAll_54
    rw [gI_t (ly_t220 hl), h12, if_neg (nI_ge (by omega) (by omega)), gR_t (ly_t220 hl), ly_r220_9 hl, aI_t (ly_t228 hl) (by omega) (by decide), h28 j hjl, ← hi0, cR_t (ly_t220 hl), hdec, cA_s, nI_1]
    by_cases hz : nwR op W Ls i0 = 0
    · rw [if_pos hz]
      refine x_da54 hn hql hqd htl htd q4 k f (j + 1) M (by omega) (by omega) hb hL hO (by rw [hts, nwL_n hz]; exact hQ) h12 h28 (fun i hi => ?_) fr
      have ho := hV i hi
      by_cases e : i = i0
      · subst e
        rw [if_neg hni, if_neg (fun z => hni z.1)] at ho
        rw [if_pos ((mem1 i).mpr (Or.inr rfl)), if_neg (fun z => z.2 hz), hz, ← hr0]
        exact ho
      · have q : i ∈ tl.take (j + 1) ↔ i ∈ tl.take j := by rw [mem1]; exact ⟨fun z => z.resolve_right e, Or.inl⟩
        simp only [q]
        exact ho
    · rw [if_neg hz]
      have fS : Fx dcA dcF M (sI (sI (sI (sI M 221 i0 (nI (nwR op W Ls i0))) 222 i0 (nI p)) 227 (ql ++ nwL op W Ls (tl.take j)).length (nI i0)) 220 11 (nI ((ql ++ nwL op W Ls (tl.take j)).length + 1))) := (((Fx.wI (Or.inl (by decide))).I (Or.inl (by decide))).I (Or.inl (by decide))).I (Or.inr (by decide))
      refine x_da54 hn hql hqd htl htd q4 k f (j + 1) _ (by omega) (by omega) (hb.fx fS (by decide) (by decide)) (fun i no a b => by rw [fS.ib (by decide), fS.ib (by decide)]; exact hL i no a b) (fun i hi => by rw [fS.ib (by decide)]; exact hO i hi) (by rw [hts, nwL_y hz, ← List.append_assoc]; exact hQ.put) (by rw [fS.i (by decide) (by decide)]; exact h12) (fun k hk => by rw [fS.ib (by decide)]; exact h28 k hk) (fun i hi => ?_) (fr.tr fS)
      have ho := hV i hi
      rw [mI_na (show 221 ≠ 220 by decide), mI_na (show 221 ≠ 227 by decide), mI_na (show 221 ≠ 222 by decide), mI_na (show 222 ≠ 220 by decide), mI_na (show 222 ≠ 227 by decide)]
      by_cases e : i = i0
      · subst e
        rw [mI_e, mI_e, if_pos ((mem1 i).mpr (Or.inr rfl)), if_pos ⟨(mem1 i).mpr (Or.inr rfl), hz⟩]
        exact ⟨rfl, rfl⟩
      · have q : i ∈ tl.take (j + 1) ↔ i ∈ tl.take j := by rw [mem1]; exact ⟨fun z => z.resolve_right e, Or.inl⟩
        rw [mI_nk e, mI_nk e, mI_na (show 222 ≠ 221 by decide)]
        simp only [q]
        exact ho
end LEVEL2
