/-! ===== the reference follows the pure reading: all of it ===== -/
def rkL (l : Nat) : Nat := if l < 2 then l + 1 else if l = 2 then 3 else l
def xb (l : Nat) : Nat := if l ≤ 2 then 2 - l else 5 - l
def wb (l : Nat) : Nat := if l ≤ 2 then l else l - 1
def st0 (l : Nat) : Nat := if l ≤ 2 then 0 else 1
def stE (l : Nat) : Nat := if l ≤ 2 then 3 else 2
def kK (l : Nat) : Nat := if l ≤ 2 then 2 else 1
def ops (X : List (Nat × Nat)) : List Nat := X.map (fun x => 10000 + x.1)
theorem tMm_lt {tp : Nat → Nat} {ln a : Nat} : tMm tp ln a < 1000000 := by
  unfold tMm
  refine nmM_lt _ _ 0 (fun j h1 h2 => ?_) (by decide)
  have hg := spn_ge (P := isG) (tp := tp) (ln - tSt tp ln a) (tSt tp ln a)
  have := spn_in (P := isG) (tp := tp) (ln - tSt tp ln a) (tSt tp ln a) j h1 (by unfold tGe at h2; omega)
  unfold isG at this
  simp only [Bool.and_eq_true, decide_eq_true_eq] at this
  omega
section YSIM2
variable {pl L : Nat} {tp : Nat → Nat} {ln : Nat}
def YR (pl L : Nat) (tp : Nat → Nat) (ln : Nat) (q : Int) (a K : Nat) (G : Nat → List Nat → Mem → Prop) (M : Mem) (res : Rs) : Prop := match res with
  | .inl e => ∃ (s : Nat) (M' : Mem), s + 2 * a ≤ 2 * ln + K ∧ Rn s M M' ∧ Fx zA zF M M' ∧ FlM pl L e.1 (tSt tp ln e.2) tp ln M'
  | .inr r => ∃ (s : Nat) (M' : Mem), (s : Int) + q + 2 * (a : Int) ≤ 2 * (r.1 : Int) ∧ Rn s M M' ∧ Fx zA zF M M' ∧ G r.1 r.2 M'
variable {q Q q2 : Int} {a a1 K K' K2 s0 : Nat} {G G' : Nat → List Nat → Mem → Prop} {M M1 : Mem} {res : Rs}
theorem YR.pre (hR : Rn s0 M M1) (fr : Fx zA zF M M1) (h : YR pl L tp ln q a1 K G M1 res) (h1 : (s0 : Int) + Q + 2 * (a : Int) ≤ q + 2 * (a1 : Int)) (h2 : s0 + 2 * a + K ≤ 2 * a1 + K') : YR pl L tp ln Q a K' G M res := by
  cases res with
  | inl e =>
    obtain ⟨s, M', x1, x2, x3, x4⟩ := h
    exact ⟨s0 + s, M', by omega, hR.tr x2, fr.tr x3, x4⟩
  | inr r =>
    obtain ⟨s, M', x1, x2, x3, x4⟩ := h
    exact ⟨s0 + s, M', by omega, hR.tr x2, fr.tr x3, x4⟩
theorem YR.bn {fn : Nat → List Nat → Rs} (h : YR pl L tp ln q a K G M res) (hK : K ≤ K') (hK2 : (K2 : Int) ≤ (K' : Int) + q) (hQ : Q ≤ q + q2) (hs : ∀ a1 c1 M1, res = .inr (a1, c1) → G a1 c1 M1 → YR pl L tp ln q2 a1 K2 G' M1 (fn a1 c1)) : YR pl L tp ln Q a K' G' M (bnR res fn) := by
  cases res with
  | inl e =>
    obtain ⟨s, M', x1, x2, x3, x4⟩ := h
    exact ⟨s, M', by omega, x2, x3, x4⟩
  | inr r =>
    obtain ⟨a1, c1⟩ := r
    obtain ⟨s, M', x1, x2, x3, x4⟩ := h
    have x1 : (s : Int) + q + 2 * (a : Int) ≤ 2 * (a1 : Int) := x1
    have := hs a1 c1 M' rfl x4
    show YR pl L tp ln Q a K' G' M (fn a1 c1)
    cases hf : fn a1 c1 with
    | inl e =>
      rw [hf] at this
      obtain ⟨t, M2, y1, y2, y3, y4⟩ := this
      exact ⟨s + t, M2, by omega, x2.tr y2, x3.tr y3, y4⟩
    | inr r2 =>
      rw [hf] at this
      obtain ⟨t, M2, y1, y2, y3, y4⟩ := this
      exact ⟨s + t, M2, by omega, x2.tr y2, x3.tr y3, y4⟩
theorem YR.fl {k : Nat} (h : ∃ M', Rn 1 M M' ∧ Fx zA zF M M' ∧ FlM pl L k (tSt tp ln a) tp ln M') (ha : a ≤ ln) (hK : 1 ≤ K) : YR pl L tp ln q a K G M (.inl (k, a)) := by
  obtain ⟨M', h1, h2, h3⟩ := h
  exact ⟨1, M', by omega, h1, h2, h3⟩
theorem YR.dn {c : List Nat} (h : ∃ M', Rn 1 M M' ∧ Fx zA zF M M' ∧ G a1 c M') (h1 : 1 + q + 2 * (a : Int) ≤ 2 * (a1 : Int)) : YR pl L tp ln q a K G M (.inr (a1, c)) := by
  obtain ⟨M', x1, x2, x3⟩ := h
  exact ⟨1, M', by show ((1 : Nat) : Int) + q + 2 * (a : Int) ≤ 2 * (a1 : Int); omega, x1, x2, x3⟩
def GL (pl L : Nat) (tp : Nat → Nat) (ln l o : Nat) (f : Nat × Nat) (F W O : List (Nat × Nat)) (a' : Nat) (c : List Nat) (M' : Mem) : Prop := ∃ X c1, X.length ≤ xb l ∧ (∀ x, x ∈ X → x.2 = F.length + 1 ∧ rkL l ≤ rk x.1) ∧ c1 ++ ops X = c ∧ CfM pl L tp ln (stE l) a' o (f :: F) (X ++ W) (O ++ cod c1) M'
theorem y_lp {d l o : Nat} {f : Nat × Nat} {F W O : List (Nat × Nat)} (h300 : ln ≤ 300) (hl : l < 5) (hl2 : l ≠ 2) (ho : o ≤ 8) (hF : F.length ≤ o + 1) (hW : W.length ≤ 2 * o + wb l) (hst : stW (rkL l) (F.length + 1) W) (hrec : ∀ (a t : Nat) (O' : List (Nat × Nat)) (M : Mem), a ≤ ln → rk t < rkL (l + 1) → O'.length ≤ a → CfM pl L tp ln (st0 l) a o (f :: F) ((t, F.length + 1) :: W) O' M → YR pl L tp ln 1 a (kK l) (GL pl L tp ln (l + 1) o f F ((t, F.length + 1) :: W) O') M (pP tp ln d 0 (l + 1) o a)) : ∀ (k a : Nat) (X : List (Nat × Nat)) (c1 : List Nat) (M : Mem), X.length ≤ xb l → (∀ x, x ∈ X → x.2 = F.length + 1 ∧ rkL l ≤ rk x.1) → O.length + (c1 ++ ops X).length ≤ a → a ≤ ln → CfM pl L tp ln (stE l) a o (f :: F) (X ++ W) (O ++ cod c1) M → YR pl L tp ln 0 a (kK l) (GL pl L tp ln l o f F W O) M (pLp tp ln (fun b => pP tp ln d 0 (l + 1) o b) l k a (c1 ++ ops X))
  | 0, a, X, c1, M => by
    intro hX hr hO ha h
    exact ⟨0, M, by simp, Rn.rf, Fx.rf, X, c1, hX, hr, rfl, h⟩
  | k + 1, a, X, c1, M => by
    intro hX hr hO ha h
    show YR pl L tp ln 0 a (kK l) _ M (if lvO (tTk tp ln a) = l then _ else _)
    by_cases e : lvO (tTk tp ln a) = l
    · obtain ⟨o1, o2, -, o4, o5⟩ := lvO_5 e hl
      have hrk : rk (tTk tp ln a) = rkL l := by
        rw [o2]
        unfold rkL
        by_cases z : l < 2
        · rw [if_pos z, if_pos z]
        · rw [if_neg z, if_neg z, if_neg hl2]
      have hne : tTk tp ln a ≠ 35 := fun z => by rw [z, lvO_35] at e; omega
      have hx := tNx_b (tp := tp) ha
      have hlt := hx.2.2 hne
      have hwk := wkS_X hst X hr
      have hxb : xb l ≤ 2 := by unfold xb; split <;> omega
      have hwb : wb l ≤ 3 := by unfold wb; split <;> omega
      have hlen : (X ++ W).length < 80 := by rw [List.length_append]; omega
      have hOl : (O ++ cod c1).length + (X ++ W).length ≤ 400 := by
        rw [List.length_append] at hO ⊢
        rw [cod_len]
        omega
      have step : ∃ M1, Rn 1 M M1 ∧ Fx zA zF M M1 ∧ CfM pl L tp ln (st0 l) (tNx tp ln a) o (f :: F) ((tTk tp ln a, F.length + 1) :: W) (O ++ cod (c1 ++ ops X)) M1 := by
        by_cases z : l < 2
        · have e1 : stE l = 3 := by unfold stE; rw [if_pos (by omega)]
          have e2 : st0 l = 0 := by unfold st0; rw [if_pos (by omega)]
          rw [e1] at h
          obtain ⟨M1, b1, b2, b3⟩ := S_word h (o4 z) hlen (by simp; omega) hOl ha
          refine ⟨M1, b1, b2, ?_⟩
          rw [hrk, show (f :: F).length = F.length + 1 from rfl, hwk, List.append_assoc, ← cod_app] at b3
          rw [e2]
          exact b3
        · have e1 : stE l = 2 := by unfold stE; rw [if_neg (by omega)]
          have e2 : st0 l = 1 := by unfold st0; rw [if_neg (by omega)]
          rw [e1] at h
          obtain ⟨M1, b1, b2, b3⟩ := S_op h (o5 (by omega)).1 (o5 (by omega)).2 hlen (by omega) hOl ha
          refine ⟨M1, b1, b2, ?_⟩
          rw [hrk, show (f :: F).length = F.length + 1 from rfl, hwk, List.append_assoc, ← cod_app] at b3
          rw [e2]
          exact b3
      obtain ⟨M1, b1, b2, b3⟩ := step
      have hlow : rk (tTk tp ln a) < rkL (l + 1) := by
        rw [hrk]
        unfold rkL
        rcases (show l = 0 ∨ l = 1 ∨ l = 3 ∨ l = 4 by omega) with rfl | rfl | rfl | rfl <;> decide
      have hOn : (O ++ cod (c1 ++ ops X)).length ≤ tNx tp ln a := by rw [List.length_append, cod_len]; omega
      have hr1 := hrec (tNx tp ln a) (tTk tp ln a) _ M1 hx.1 hlow hOn b3
      rw [if_pos e]
      refine YR.bn (q := 2) (q2 := 0) (K := kK l) (K2 := kK l) (YR.pre b1 b2 hr1 (by omega) (by omega)) (Nat.le_refl _) (by omega) (by omega) (fun a2 c2 M2 hres hG => ?_)
      obtain ⟨X2, d2, y1, y2, y3, y4⟩ := hG
      obtain ⟨⟨g1, g2, g3⟩, -⟩ := pP_ok d 0 (l + 1) o _ a2 c2 hx.1 ho (by omega) (by omega) hres
      have hops : (c1 ++ ops X) ++ d2 ++ ops (X2 ++ [(tTk tp ln a, F.length + 1)]) = c1 ++ ops X ++ c2 ++ [10000 + tTk tp ln a] := by
        rw [← y3]
        simp [ops]
      have hlast := y_lp (O := O) h300 hl hl2 ho hF hW hst hrec k a2 (X2 ++ [(tTk tp ln a, F.length + 1)]) (c1 ++ ops X ++ d2) M2 (by
          rw [List.length_append]
          have : xb (l + 1) + 1 = xb l := by
            unfold xb
            rcases (show l = 0 ∨ l = 1 ∨ l = 3 ∨ l = 4 by omega) with rfl | rfl | rfl | rfl <;> decide
          simp only [List.length_singleton]
          omega) (fun x hx' => by
          rcases List.mem_append.mp hx' with z | z
          · refine ⟨(y2 x z).1, ?_⟩
            have := (y2 x z).2
            omega
          · rw [List.mem_singleton] at z
            subst z
            exact ⟨rfl, by dsimp only; omega⟩) (by
          rw [hops]
          simp only [List.length_append, List.length_singleton] at hO ⊢
          omega) g2 (by
          have e3 : stE (l + 1) = stE l := by
            unfold stE
            rcases (show l = 0 ∨ l = 1 ∨ l = 3 ∨ l = 4 by omega) with rfl | rfl | rfl | rfl <;> decide
          rw [e3, List.append_assoc, ← cod_app] at y4
          rw [List.append_assoc]
          exact y4)
      rw [hops] at hlast
      exact hlast
    · rw [if_neg e]
      exact ⟨0, M, by simp, Rn.rf, Fx.rf, X, c1, hX, hr, rfl, h⟩
end YSIM2
