/-! ===== the reference keeps the clauses of a text ===== -/
def KC (nt k : Nat) (c : Cl) (O : List (Nat × Nat)) (M : Mem) : Prop := mI M 235 (20 * nt + k) = nI (mwd (cTy c)) ∧ mI M 237 (20 * nt + k) = (if cTy c = 0 then nI (cMv c) else m1) ∧ (cTy c = 0 → mI M 238 (20 * nt + k) = nI (cAc c - 7) ∧ mI M 239 (20 * nt + k) = nI (cKd c) ∧ mI M 240 (20 * nt + k) = nI (cDr c)) ∧ (cCd c = [] → mI M 236 (20 * nt + k) = m1) ∧ (cCd c ≠ [] → ∃ P Q, O = P ++ (cod (cCd c) ++ [(408, 0)]) ++ Q ∧ mI M 236 (20 * nt + k) = nI (400 * nt + P.length))
section YKEEP2
variable {pl L nt : Nat}
/-- six writes at one place -/
def w6 (M : Mem) (K : Nat) (a b c d e f : Int32) : Mem := sI (sI (sI (sI (sI (sI M 235 K a) 236 K b) 237 K c) 238 K d) 239 K e) 240 K f
theorem w6_a {M : Mem} {K : Nat} {a b c d e f : Int32} {o : Nat} (ho : o < 235 ∨ 240 < o) : mI (w6 M K a b c d e f) o = mI M o := by
  unfold w6
  rw [mI_na (by omega), mI_na (by omega), mI_na (by omega), mI_na (by omega), mI_na (by omega), mI_na (by omega)]
theorem w6_k {M : Mem} {K : Nat} {a b c d e f : Int32} {o j : Nat} (hj : j ≠ K) : mI (w6 M K a b c d e f) o j = mI M o j := by
  unfold w6
  rw [mI_nk hj, mI_nk hj, mI_nk hj, mI_nk hj, mI_nk hj, mI_nk hj]
theorem w6_v {M : Mem} {K : Nat} {a b c d e f : Int32} : mI (w6 M K a b c d e f) 235 K = a ∧ mI (w6 M K a b c d e f) 236 K = b ∧ mI (w6 M K a b c d e f) 237 K = c ∧ mI (w6 M K a b c d e f) 238 K = d ∧ mI (w6 M K a b c d e f) 239 K = e ∧ mI (w6 M K a b c d e f) 240 K = f := by
  unfold w6
  refine ⟨?_, ?_, ?_, ?_, ?_, mI_e⟩
  · rw [mI_na (by decide), mI_na (by decide), mI_na (by decide), mI_na (by decide), mI_na (by decide), mI_e]
  · rw [mI_na (by decide), mI_na (by decide), mI_na (by decide), mI_na (by decide), mI_e]
  · rw [mI_na (by decide), mI_na (by decide), mI_na (by decide), mI_e]
  · rw [mI_na (by decide), mI_na (by decide), mI_e]
  · rw [mI_na (by decide), mI_e]
theorem w6_f {M : Mem} {i : Nat} {a b c d e f : Int32} (hi : i < 20) : Fq (KT nt) M (w6 M (20 * nt + i) a b c d e f) := by
  have hk : ∀ o, 235 ≤ o → o ≤ 240 → KT nt o (20 * nt + i) := fun o h1 h2 => Or.inr (Or.inl ⟨h1, h2, by omega, by omega⟩)
  exact ((((((Fq.w (hk 235 (by decide) (by decide))).tr (Fq.w (hk 236 (by decide) (by decide)))).tr (Fq.w (hk 237 (by decide) (by decide)))).tr (Fq.w (hk 238 (by decide) (by decide)))).tr (Fq.w (hk 239 (by decide) (by decide)))).tr (Fq.w (hk 240 (by decide) (by decide))))
theorem w6_l {M : Mem} {K : Nat} {a b c d e f : Int32} (hl : Lay pl L M) : Lay pl L (w6 M K a b c d e f) := (((((hl.wz (by decide)).wz (by decide)).wz (by decide)).wz (by decide)).wz (by decide)).wz (by decide)
theorem i4_k {i k : Nat} : (4 : Int32) * nI i + nI k = nI (4 * i + k) := by rw [show (4 : Int32) = nI 4 from rfl, pk_mul, nI_add]
theorem y_k97 {q : Option Nat → Int32 → Int32 → Mem → Option (Unit × Mem)} {K i : Nat} {M : Mem} {sv : Int32} (hl : Lay pl L M) (hK : K < 120) (hi : i < 20) : f_X12_keepsText_97 q (some 230) (nI nt) (nI i) (nI K) (some 237) (nI K) sv M = q (some 230) (nI nt) (nI (i + 1)) (sI (sI (sI (sI M 237 K sv) 238 K (mI M 249 (4 * i + 1))) 239 K (mI M 249 (4 * i + 2))) 240 K (mI M 249 (4 * i + 3))) := by
  have hl1 : Lay pl L (sI M 237 K sv) := hl.wz (by decide)
  have hl2 : Lay pl L (sI (sI M 237 K sv) 238 K (mI M 249 (4 * i + 1))) := hl1.wz (by decide)
  have hl3 : Lay pl L (sI (sI (sI M 237 K sv) 238 K (mI M 249 (4 * i + 1))) 239 K (mI M 249 (4 * i + 2))) := hl2.wz (by decide)
  unfold f_X12_keepsText_97
  rw [wI_t (ly_t237 hl) hK (by decide), gR_t (ly_t230 hl1), ly_r230_13 hl1, gR_t (ly_t230 hl1), ly_r230_37 hl1, show (1 : Int32) = nI 1 from rfl, i4_k, aI_t (ly_t249 hl1) (by omega) (by decide), mI_na (by decide), wI_t (ly_t238 hl1) hK (by decide), gR_t (ly_t230 hl2), ly_r230_14 hl2, gR_t (ly_t230 hl2), ly_r230_37 hl2, show (2 : Int32) = nI 2 from rfl, i4_k, aI_t (ly_t249 hl2) (by omega) (by decide), mI_na (b := 249) (by decide), mI_na (b := 249) (by decide), wI_t (ly_t239 hl2) hK (by decide), gR_t (ly_t230 hl3), ly_r230_15 hl3, gR_t (ly_t230 hl3), ly_r230_37 hl3, show (3 : Int32) = nI 3 from rfl, i4_k, aI_t (ly_t249 hl3) (by omega) (by decide), mI_na (b := 249) (by decide), mI_na (b := 249) (by decide), mI_na (b := 249) (by decide), wI_t (ly_t240 hl3) hK (by decide), nI_add]
theorem y_k70 {q : Option Nat → Int32 → Int32 → Mem → Option (Unit × Mem)} {K i t : Nat} {M : Mem} {sv : Int32} (hl : Lay pl L M) (hK : K < 120) (hi : i < 20) (ht : mI M 247 i = nI t) (ht2 : t < 20) : f_X12_keepsText_70 q (some 230) (nI nt) (nI i) (nI K) (some 236) (nI K) sv M = q (some 230) (nI nt) (nI (i + 1)) (sI (sI (sI (sI (sI M 236 K sv) 237 K (if t = 0 then mI M 249 (4 * i) else m1)) 238 K (mI M 249 (4 * i + 1))) 239 K (mI M 249 (4 * i + 2))) 240 K (mI M 249 (4 * i + 3))) := by
  have hl1 : Lay pl L (sI M 236 K sv) := hl.wz (by decide)
  have e9 : ∀ j, mI (sI M 236 K sv) 249 j = mI M 249 j := fun j => by rw [mI_na (by decide)]
  unfold f_X12_keepsText_70
  rw [wI_t (ly_t236 hl) hK (by decide), gR_t (ly_t230 hl1), ly_r230_12 hl1, gR_t (ly_t230 hl1), ly_r230_35 hl1, aI_t (ly_t247 hl1) (by omega) (by decide), mI_na (by decide), ht]
  by_cases z : t = 0
  · rw [if_pos (show nI t = (0 : Int32) by rw [z]; rfl), gR_t (ly_t230 hl1), ly_r230_37 hl1, show (4 : Int32) * nI i = nI (4 * i) by rw [show (4 : Int32) = nI 4 from rfl, pk_mul], aI_t (ly_t249 hl1) (by omega) (by decide), e9, y_k97 hl1 hK hi, e9, e9, e9, if_pos z]
  · rw [if_neg (ne_0 (by omega) z), y_k97 hl1 hK hi, e9, e9, e9, if_neg z]
    rfl
theorem OuA.co {O P Q : List (Nat × Nat)} {cd : List Nat} {M : Mem} {base : Nat} (hO : O = P ++ (cod cd ++ [(408, 0)]) ++ Q) (h : ∀ j p, O[j]? = some p → mI M 241 (base + j) = nI p.1 ∧ mI M 242 (base + j) = nI p.2) (hb : base + P.length + cd.length < 2400) : CodeM (base + P.length) cd M := by
  have hg : ∀ j p, (cod cd ++ [(408, 0)])[j]? = some p → O[P.length + j]? = some p := fun j p hj => by
    rw [hO, List.append_assoc, List.getElem?_append_right (by omega), Nat.add_sub_cancel_left, List.getElem?_append_left, hj]
    exact (List.getElem?_eq_some_iff.mp hj).1
  refine ⟨hb, fun j hj => ?_, ?_⟩
  · have := h (P.length + j) (moC (cd.getD j 0), mvC (cd.getD j 0)) (hg j _ (by
      rw [List.getElem?_append_left (by rw [cod_len]; exact hj)]
      unfold cod
      rw [List.getElem?_map, List.getElem?_eq_getElem hj, List.getD_eq_getElem?_getD, List.getElem?_eq_getElem hj]
      rfl))
    rw [← Nat.add_assoc] at this
    exact this
  · have := h (P.length + cd.length) (408, 0) (hg _ _ (by
      rw [List.getElem?_append_right (by rw [cod_len]; omega), cod_len, Nat.sub_self]
      rfl))
    rw [← Nat.add_assoc] at this
    exact this.1
theorem y_k12 {T : Txt} {O : List (Nat × Nat)} (hnt : nt < 6) (hO : O.length ≤ 300) (hT : okT T) : ∀ (k f i : Nat) (M : Mem), i + k = T.length → k < f → Lay pl L M → mI M 230 38 = nI O.length → OuA M O → NwM T O M → mI M 234 nt = nI T.length → (∀ (j : Nat) (c : Cl), j < i → T[j]? = some c → KC nt j c O M) → ∃ M', f_X12_keepsText_12 f (some 230) (nI nt) (nI i) M = some ((), M') ∧ Fq (KT nt) M M' ∧ Lay pl L M' ∧ TextM nt T M'
  | k, 0, i, M => fun _ z => absurd z (by omega)
  | 0, f + 1, i, M => by
    intro hi _ hl h38 hOu hN h4 h
    have hT20 := hT.1
    obtain ⟨M', b1, b2, b3, b4⟩ := y_k154 (pl := pl) (L := L) hnt hO O.length FU 0 M (by omega) (by unfold FU; omega) hl h38 hOu (fun j p hj => absurd hj (by omega))
    have hq : ∀ b j, b < 241 → mI M' b j = mI M b j := fun b j hb => b2.i (fun z => by omega)
    refine ⟨M', ?_, b2.mono (fun b j z => Or.inr (Or.inr z)), b3, by rw [hq _ _ (by decide)]; exact h4, fun j c hc => ?_⟩
    · rw [u_X12_keepsText_12]
      unfold b_X12_keepsText_12
      rw [gI_t (ly_t230 hl), hN.1, if_pos (nI_le (by omega) (by omega))]
      exact b1
    · have hj : j < T.length := (List.getElem?_eq_some_iff.mp hc).1
      obtain ⟨c1, c2, c3, c4, c5⟩ := h j c (by omega) hc
      rw [hq _ _ (by decide), hq _ _ (by decide), hq _ _ (by decide), hq _ _ (by decide), hq _ _ (by decide), hq _ _ (by decide)]
      refine ⟨c1, c2, c3, c4, fun z => ?_⟩
      obtain ⟨P, Q, e1, e2⟩ := c5 z
      have hlen : P.length + (cCd c).length + 1 ≤ 300 := by
        rw [e1] at hO
        simp only [List.length_append, cod_len, List.length_singleton] at hO
        omega
      exact ⟨400 * nt + P.length, e2, OuA.co e1 b4 (by omega), by omega⟩
  | k + 1, f + 1, i, M => by
    intro hi hf hl h38 hOu hN h4 h
    have hT20 := hT.1
    obtain ⟨c, hc⟩ : ∃ c, T[i]? = some c := ⟨T[i]'(by omega), List.getElem?_eq_getElem (by omega)⟩
    obtain ⟨n1, n2, n3, n4⟩ := hN.2 i c hc
    have hty : cTy c = 0 ∨ (12 ≤ cTy c ∧ cTy c ≤ 16) := by
      rcases hT.2.1 i c hc with q | q | q <;> omega
    have hmw : mwd (cTy c) < 20 ∧ (mwd (cTy c) = 0 ↔ cTy c = 0) := by unfold mwd; omega
    have eK : (20 : Int32) * nI nt + nI i = nI (20 * nt + i) := by rw [show (20 : Int32) = nI 20 from rfl, pk_mul, nI_add]
    have hl1 : Lay pl L (sI M 235 (20 * nt + i) (nI (mwd (cTy c)))) := hl.wz (by decide)
    obtain ⟨sv, s1, s2, s3⟩ : ∃ sv : Int32, b_X12_keepsText_12 (f_X12_keepsText_12 f) (some 230) (nI nt) (nI i) M = f_X12_keepsText_70 (f_X12_keepsText_12 f) (some 230) (nI nt) (nI i) (nI (20 * nt + i)) (some 236) (nI (20 * nt + i)) sv (sI M 235 (20 * nt + i) (nI (mwd (cTy c)))) ∧ (cCd c = [] → sv = m1) ∧ (cCd c ≠ [] → ∃ P Q, O = P ++ (cod (cCd c) ++ [(408, 0)]) ++ Q ∧ sv = nI (400 * nt + P.length)) := by
      by_cases z : cCd c = []
      · refine ⟨m1, ?_, fun _ => rfl, fun y => absurd z y⟩
        unfold b_X12_keepsText_12
        rw [gI_t (ly_t230 hl), hN.1, if_neg (nI_ge (by omega) (by omega)), gR_t (ly_t230 hl), ly_r230_10 hl, gR_t (ly_t230 hl), ly_r230_35 hl, aI_t (ly_t247 hl) (by omega) (by decide), n1, eK, wI_t (ly_t235 hl) (by omega) (by decide), gR_t (ly_t230 hl1), ly_r230_11 hl1, gR_t (ly_t230 hl1), ly_r230_36 hl1, aI_t (ly_t248 hl1) (by omega) (by decide), mI_na (by decide), n3 z, if_pos (show m1 = (-1 : Int32) from rfl)]
        rfl
      · obtain ⟨P, Q, e1, e2⟩ := n4 z
        have hlen : P.length ≤ 300 := by
          rw [e1] at hO
          simp only [List.length_append, cod_len, List.length_singleton] at hO
          omega
        refine ⟨nI (400 * nt + P.length), ?_, fun y => absurd y z, fun _ => ⟨P, Q, e1, rfl⟩⟩
        unfold b_X12_keepsText_12
        rw [gI_t (ly_t230 hl), hN.1, if_neg (nI_ge (by omega) (by omega)), gR_t (ly_t230 hl), ly_r230_10 hl, gR_t (ly_t230 hl), ly_r230_35 hl, aI_t (ly_t247 hl) (by omega) (by decide), n1, eK, wI_t (ly_t235 hl) (by omega) (by decide), gR_t (ly_t230 hl1), ly_r230_11 hl1, gR_t (ly_t230 hl1), ly_r230_36 hl1, aI_t (ly_t248 hl1) (by omega) (by decide), mI_na (by decide), e2, if_neg (show ¬ nI P.length = (-1 : Int32) from fun q => (nI_nm1 (by omega)).mp q), gR_t (ly_t230 hl1), ly_r230_36 hl1, aI_t (ly_t248 hl1) (by omega) (by decide), mI_na (by decide), e2, show (400 : Int32) = nI 400 from rfl, pk_mul, nI_add]
    have e9 : ∀ j, mI (sI M 235 (20 * nt + i) (nI (mwd (cTy c)))) 249 j = mI M 249 j := fun j => by rw [mI_na (by decide)]
    have hs : f_X12_keepsText_12 (f + 1) (some 230) (nI nt) (nI i) M = f_X12_keepsText_12 f (some 230) (nI nt) (nI (i + 1)) (w6 M (20 * nt + i) (nI (mwd (cTy c))) sv (if mwd (cTy c) = 0 then mI M 249 (4 * i) else m1) (mI M 249 (4 * i + 1)) (mI M 249 (4 * i + 2)) (mI M 249 (4 * i + 3))) := by
      rw [u_X12_keepsText_12, s1, y_k70 hl1 (by omega) (by omega) (by rw [mI_na (by decide)]; exact n1) hmw.1, e9, e9, e9, e9]
      rfl
    rw [hs]
    have fr : Fq (KT nt) M (w6 M (20 * nt + i) (nI (mwd (cTy c))) sv (if mwd (cTy c) = 0 then mI M 249 (4 * i) else m1) (mI M 249 (4 * i + 1)) (mI M 249 (4 * i + 2)) (mI M 249 (4 * i + 3))) := w6_f (by omega)
    obtain ⟨M', b1, b2, b3, b4⟩ := y_k12 hnt hO hT k f (i + 1) (w6 M (20 * nt + i) (nI (mwd (cTy c))) sv (if mwd (cTy c) = 0 then mI M 249 (4 * i) else m1) (mI M 249 (4 * i + 1)) (mI M 249 (4 * i + 2)) (mI M 249 (4 * i + 3))) (by omega) (by omega) (w6_l hl) (by rw [w6_a (o := 230) (by decide)]; exact h38) (fun j p hj => by rw [w6_a (o := 250) (by decide), w6_a (o := 251) (by decide)]; exact hOu j p hj) ⟨by rw [w6_a (o := 230) (by decide)]; exact hN.1, fun j d hd => by
        have hd' := hN.2 j d hd
        unfold NwC at *
        rw [w6_a (o := 247) (by decide), w6_a (o := 248) (by decide), w6_a (o := 249) (by decide)]
        exact hd'⟩ (by rw [w6_a (o := 234) (by decide)]; exact h4) (fun j d hj hd => by
        by_cases z : j = i
        · subst z
          rw [hc] at hd
          cases hd
          obtain ⟨v1, v2, v3, v4, v5, v6⟩ := w6_v (M := M) (K := 20 * nt + j) (a := nI (mwd (cTy c))) (b := sv) (c := if mwd (cTy c) = 0 then mI M 249 (4 * j) else m1) (d := mI M 249 (4 * j + 1)) (e := mI M 249 (4 * j + 2)) (f := mI M 249 (4 * j + 3))
          refine ⟨v1, ?_, fun z => ?_, fun z => by rw [v2]; exact s2 z, fun z => ?_⟩
          · rw [v3]
            by_cases y : cTy c = 0
            · rw [if_pos (hmw.2.mpr y), if_pos y]; exact (n2 y).1
            · rw [if_neg (fun q => y (hmw.2.mp q)), if_neg y]
          · obtain ⟨-, a2, a3, a4⟩ := n2 z
            exact ⟨by rw [v4]; exact a2, by rw [v5]; exact a3, by rw [v6]; exact a4⟩
          · obtain ⟨P, Q, e1, e2⟩ := s3 z
            exact ⟨P, Q, e1, by rw [v2]; exact e2⟩
        · have hd' := h j d (by omega) hd
          unfold KC at *
          rw [w6_k (by omega), w6_k (by omega), w6_k (by omega), w6_k (by omega), w6_k (by omega), w6_k (by omega)]
          exact hd')
    exact ⟨M', b1, fr.tr b2, b3, b4⟩
/-- the reference keeps a text -/
theorem y_keepsText {T : Txt} {O : List (Nat × Nat)} {M : Mem} (hnt : nt < 6) (hO : O.length ≤ 300) (hT : okT T) (hl : Lay pl L M) (h38 : mI M 230 38 = nI O.length) (hOu : OuA M O) (hN : NwM T O M) : ∃ M', f_X12_keepsText (some 230) (nI nt) M = some ((), M') ∧ Fq (KT nt) M M' ∧ Lay pl L M' ∧ TextM nt T M' := by
  have hl1 : Lay pl L (sI M 234 nt (nI T.length)) := hl.wz (by decide)
  obtain ⟨M', b1, b2, b3, b4⟩ := y_k12 (pl := pl) (L := L) hnt hO hT T.length FU 0 (sI M 234 nt (nI T.length)) (by omega) (by have := hT.1; unfold FU; omega) hl1 (by rw [mI_na (by decide)]; exact h38) (fun j p hj => by rw [mI_na (b := 250) (by decide), mI_na (b := 251) (by decide)]; exact hOu j p hj) ⟨by rw [mI_na (by decide)]; exact hN.1, fun j d hd => by
      have hd' := hN.2 j d hd
      unfold NwC at *
      rw [mI_na (b := 247) (by decide), mI_na (b := 248) (by decide), mI_na (b := 249) (by decide)]
      exact hd'⟩ mI_e (fun j c hj => absurd hj (by omega))
  refine ⟨M', ?_, (Fq.w (Or.inl ⟨rfl, rfl⟩)).tr b2, b3, b4⟩
  unfold f_X12_keepsText
  rw [gR_t (ly_t230 hl), ly_r230_9 hl, gI_t (ly_t230 hl), hN.1, wI_t (ly_t234 hl) hnt (by decide)]
  exact b1
end YKEEP2
