/-! ===== the class goes through all states ===== -/
def opS (w h : Nat) (T : Txt) (π : Pos) : Chi := fun m => !decide (popC (ablS w h T π) 8 < 3) && ablS w h T π m
def Edg (w h : Nat) (T : Txt) (π : Pos) (no dn : Nat) : Prop := no < 8 ∧ dn < 8 ∧ no ≠ dn ∧ opS w h T π no = true ∧ opS w h T π dn = true
def Rch (w h : Nat) (T : Txt) (r π : Pos) : Prop := ∀ C : Pos → Prop, C r → (∀ p no dn, C p → Edg w h T p no dn → C (sucS w h T p no dn)) → C π
theorem Rch.step {w h no dn : Nat} {T : Txt} {r π : Pos} (hr : Rch w h T r π) (he : Edg w h T π no dn) : Rch w h T r (sucS w h T π no dn) := fun C h1 h2 => h2 π no dn (hr C h1 h2) he
theorem opS_abl {w h m : Nat} {T : Txt} {π : Pos} (h' : opS w h T π m = true) : ablS w h T π m = true := by
  unfold opS at h'
  simp only [Bool.and_eq_true] at h'
  exact h'.2
theorem Edg.ok {w h no dn : Nat} {T : Txt} {π : Pos} (hd : okD w h) (okt : okT T) (ok : okN w h π) (he : Edg w h T π no dn) : okN w h (sucS w h T π no dn) := suc_ok hd okt ok he.1 he.2.1 (opS_abl he.2.2.2.2)
def Exit (w h : Nat) (T : Txt) (Q : Nat → Pos) (n i no dn : Nat) (M : Mem) : Prop := ∃ j, j < n ∧ mI M 213 (i * 64 + no * 8 + dn) = nI j ∧ Q j = sucS w h T (Q i) no dn
def Full (w h : Nat) (T : Txt) (Q : Nat → Pos) (n i : Nat) (M : Mem) : Prop := mI M 212 i = nI (bS (opS w h T (Q i)) 8) ∧ ∀ no dn, Edg w h T (Q i) no dn → Exit w h T Q n i no dn M
section EXPLORE
variable {w h L nt : Nat} {τ : Nat → Txt} {x : Option Nat} {r : Pos}
def ExI (w h L nt : Nat) (τ : Nat → Txt) (x : Option Nat) (r : Pos) (sp : Bool) (Q : Nat → Pos) (n : Nat) (t : Nat → Nat) (s : Nat) (P : Nat → Nat → Prop) (M : Mem) : Prop :=
  Bs w h L nt τ M ∧ StsX Q n t M ∧ StsOk w h Q n t ∧ mI M 211 3 = nI sp.toNat ∧ mR M 211 11 = some (rT x) ∧ (∀ i, i < n → Rch w h (tT τ x) r (Q i)) ∧ (sp = true → n = 2000 ∧ ∃ π, okN w h π ∧ Rch w h (tT τ x) r π ∧ ∀ i, i < n → Q i ≠ π) ∧ (sp = false → (∀ i, i < s → Full w h (tT τ x) Q n i M) ∧ ∀ no dn, P no dn → Edg w h (tT τ x) (Q s) no dn → Exit w h (tT τ x) Q n s no dn M)
abbrev eA : List Nat := [213, 214, 215, 216]
abbrev eF : List (Nat × Nat) := [(211, 2), (211, 3)]
/-- one exit -/
theorem x_exit {sp : Bool} {Q : Nat → Pos} {n s no dn : Nat} {t : Nat → Nat} {P : Nat → Nat → Prop} {M : Mem} (hx : okX nt x) (hI : ExI w h L nt τ x r sp Q n t s P M) (hs : s < n) (he : Edg w h (tT τ x) (Q s) no dn) : ∃ v M1 sp' Q' n' t', f_X8_numberOf (some 211) (lN (btN (sucS w h (tT τ x) (Q s) no dn))) (nI (enc 2 (sucS w h (tT τ x) (Q s) no dn).2.1 8)) M = some (v, M1) ∧ Bs w h L nt τ M1 ∧ ExI w h L nt τ x r sp' Q' n' t' s (fun a b => P a b ∨ (a = no ∧ b = dn)) (sI M1 213 (s * 64 + no * 8 + dn) v) ∧ Fx eA eF M (sI M1 213 (s * 64 + no * 8 + dn) v) ∧ n ≤ n' ∧ (∀ i, i < n → Q' i = Q i) ∧ (∀ i, mI (sI M1 213 (s * 64 + no * 8 + dn) v) 212 i = mI M 212 i) := by
  obtain ⟨i1, i2, i3, i4, i4', i5, i6, i7⟩ := hI
  have okt := i1.okT hx
  have oks := i3.2.1 s hs
  have okn := he.ok i1.1 okt oks
  have hrn : Rch w h (tT τ x) r (sucS w h (tT τ x) (Q s) no dn) := (i5 s hs).step he
  obtain ⟨e1, e2, e3, -, -⟩ := id he
  -- what was told stays told
  have keep : ∀ {M1 : Mem} {v : Int32} {Q' : Nat → Pos} {n' : Nat}, Fx [214, 215, 216] [(211, 2), (211, 3)] M M1 → n ≤ n' → (∀ i, i < n → Q' i = Q i) → sp = false → (∃ j, j < n' ∧ v = nI j ∧ Q' j = sucS w h (tT τ x) (Q s) no dn) → ((∀ i, i < s → Full w h (tT τ x) Q' n' i (sI M1 213 (s * 64 + no * 8 + dn) v)) ∧ ∀ a b, (P a b ∨ (a = no ∧ b = dn)) → Edg w h (tT τ x) (Q' s) a b → Exit w h (tT τ x) Q' n' s a b (sI M1 213 (s * 64 + no * 8 + dn) v)) := by
    intro M1 v Q' n' fr hn hQ hsp ⟨j, hj, ev, hj2⟩
    obtain ⟨k1, k2⟩ := i7 hsp
    have old : ∀ {i a b : Nat}, i < n → a < 8 → b < 8 → ¬ (i = s ∧ a = no ∧ b = dn) → Exit w h (tT τ x) Q n i a b M → Exit w h (tT τ x) Q' n' i a b (sI M1 213 (s * 64 + no * 8 + dn) v) := by
      intro i a b hi ha hb hne ⟨q, q1, q2, q3⟩
      refine ⟨q, by omega, ?_, by rw [hQ q q1, hQ i hi]; exact q3⟩
      rw [mI_nk (by omega), fr.ib (by decide)]
      exact q2
    refine ⟨fun i hi => ?_, fun a b hab hed => ?_⟩
    · obtain ⟨f1, f2⟩ := k1 i hi
      refine ⟨by rw [mI_na (by decide), fr.ib (by decide), hQ i (by omega)]; exact f1, fun a b hed => ?_⟩
      rw [hQ i (by omega)] at hed
      exact old (by omega) hed.1 hed.2.1 (by omega) (f2 a b hed)
    · rw [hQ s hs] at hed
      by_cases hc : a = no ∧ b = dn
      · obtain ⟨rfl, rfl⟩ := hc
        exact ⟨j, hj, by rw [mI_e, ev], by rw [hQ s hs]; exact hj2⟩
      · rcases hab with q | q
        · exact old hs hed.1 hed.2.1 (by omega) (k2 a b q hed)
        · exact absurd q hc
  rcases x_number i1 i2 i3 okn with ⟨j, hj, hQj, ho⟩ | ⟨hne, hlt, t', M', ho, hs2, hok2, fr⟩ | ⟨hne, h2000, ho⟩
  · have frw : Fx eA eF M (sI M 213 (s * 64 + no * 8 + dn) (nI j)) := Fx.wI (Or.inl (by decide))
    refine ⟨nI j, M, sp, Q, n, t, ho, i1, ⟨i1.fx frw (by decide) (by decide), i2.fx (Fx.wI (A := [213]) (F := []) (Or.inl (by decide))) (by decide) (by decide) (by decide) (by decide), i3, by rw [mI_na (by decide)]; exact i4, i4', i5, i6, fun hsp => keep Fx.rf (Nat.le_refl _) (fun _ _ => rfl) hsp ⟨j, hj, rfl, hQj⟩⟩, frw, Nat.le_refl _, fun _ _ => rfl, fun i => by rw [mI_na (by decide)]⟩
  · have hspf : sp = false := by
      cases sp with
      | false => rfl
      | true => have := (i6 rfl).1; omega
    have fr' : Fx [214, 215, 216] [(211, 2), (211, 3)] M M' := fr.mono (by decide) (by decide)
    have frw : Fx eA eF M (sI M' 213 (s * 64 + no * 8 + dn) (nI n)) := (fr.mono (by decide) (by decide)).I (Or.inl (by decide))
    have hb1 := i1.fx fr (by decide) (by decide)
    refine ⟨nI n, M', false, up1 Q n (sucS w h (tT τ x) (Q s) no dn), n + 1, t', ho, hb1, ⟨i1.fx frw (by decide) (by decide), hs2.fx (Fx.wI (A := [213]) (F := []) (Or.inl (by decide))) (by decide) (by decide) (by decide) (by decide), hok2, by rw [mI_na (by decide), fr.i (by decide) (by decide), i4, hspf], by rw [mR_sI, fr.2.2.1]; exact i4', fun i hi => ?_, (fun z => by cases z), fun _ => keep fr' (by omega) (fun i hi => up1_n (by omega)) hspf ⟨n, by omega, rfl, up1_s⟩⟩, frw, by omega, fun i hi => up1_n (by omega), fun i => by rw [mI_na (by decide), fr.ib (by decide)]⟩
    by_cases e : i = n
    · subst e; rw [up1_s]; exact hrn
    · rw [up1_n e]; exact i5 i (by omega)
  · subst h2000
    have fr1 : Fx eA eF M (sI M 211 3 (nI 1)) := Fx.wI (Or.inr (by decide))
    have frw : Fx eA eF M (sI (sI M 211 3 (nI 1)) 213 (s * 64 + no * 8 + dn) (nI 0)) := fr1.I (Or.inl (by decide))
    have f3 : Fx [213] [(211, 3)] M (sI (sI M 211 3 (nI 1)) 213 (s * 64 + no * 8 + dn) (nI 0)) := (Fx.wI (Or.inr (by decide))).I (Or.inl (by decide))
    refine ⟨nI 0, sI M 211 3 (nI 1), true, Q, 2000, t, ho, i1.fx fr1 (by decide) (by decide), ⟨i1.fx frw (by decide) (by decide), i2.fx f3 (by decide) (by decide) (by decide) (by decide), i3, by rw [mI_na (by decide), mI_e]; rfl, i4', i5, fun _ => ⟨rfl, _, okn, hrn, hne⟩, (fun z => by cases z)⟩, frw, Nat.le_refl _, fun _ _ => rfl, fun i => by rw [mI_na (by decide), mI_na (by decide)]⟩
theorem ExI.weak {sp : Bool} {Q : Nat → Pos} {n s : Nat} {t : Nat → Nat} {P P' : Nat → Nat → Prop} {M : Mem} (hI : ExI w h L nt τ x r sp Q n t s P M) (hP : ∀ a b, P' a b → Edg w h (tT τ x) (Q s) a b → P a b) : ExI w h L nt τ x r sp Q n t s P' M := by
  obtain ⟨i1, i2, i3, i4, i4', i5, i6, i7⟩ := hI
  exact ⟨i1, i2, i3, i4, i4', i5, i6, fun hsp => ⟨(i7 hsp).1, fun a b hab hed => (i7 hsp).2 a b (hP a b hab hed) hed⟩⟩
theorem x_ex144 {s dn : Nat} (hx : okX nt x) (hdn : dn < 8) {M0 : Mem} (q : Option Nat → Int32 → Int32 → Mem → Option (Unit × Mem)) : ∀ (k f no : Nat) (sp : Bool) (Q : Nat → Pos) (n : Nat) (t : Nat → Nat) (M : Mem), no + k = 8 → k < f → s < n → opS w h (tT τ x) (Q s) dn = true → ExI w h L nt τ x r sp Q n t s (fun a b => b < dn ∨ (b = dn ∧ a < no)) M → mI M 212 s = nI (bS (opS w h (tT τ x) (Q s)) 8) → PosAt 218 (Q s) M → PosAt 219 (actS w h (tT τ x) (Q s) dn, (Q s).2.1, 1 - (Q s).2.2) M → Fx eA eF M0 M → ∃ sp' Q' n' t' M', f_X8_expand_144 q f (some 211) (nI s) (nI dn) (nI no) M = q (some 211) (nI s) (nI (dn + 1)) M' ∧ ExI w h L nt τ x r sp' Q' n' t' s (fun _ b => b < dn + 1) M' ∧ mI M' 212 s = nI (bS (opS w h (tT τ x) (Q' s)) 8) ∧ PosAt 218 (Q' s) M' ∧ Fx eA eF M0 M' ∧ n ≤ n' ∧ (∀ i, i < n → Q' i = Q i)
  | k, 0, no, sp, Q, n, t, M => fun _ z => absurd z (by omega)
  | 0, f + 1, no, sp, Q, n, t, M => by
    intro hno _ hs hop hI h212 hP hP2 fr
    obtain rfl : no = 8 := by omega
    refine ⟨sp, Q, n, t, M, ?_, hI.weak (fun a b hab hed => ?_), h212, hP, fr, Nat.le_refl _, fun _ _ => rfl⟩
    · rw [u_X8_expand_144]
      unfold b_X8_expand_144
      rw [if_pos (by decide), nI_1]
    · have := hed.1
      omega
  | k + 1, f + 1, no, sp, Q, n, t, M => by
    intro hno hf hs hop hI h212 hP hP2 fr
    have hb := hI.1
    have hl := hb.lay
    have hok := hI.2.2.1
    have h2000 := hok.1
    rw [u_X8_expand_144]
    unfold b_X8_expand_144
    rw [if_neg (show ¬ (8 : Int32) ≤ nI no from nI_ge (b := 8) (by omega) (by decide))]
    have skip : ¬ Edg w h (tT τ x) (Q s) no dn → ∃ sp' Q' n' t' M', f_X8_expand_144 q f (some 211) (nI s) (nI dn) (nI (no + 1)) M = q (some 211) (nI s) (nI (dn + 1)) M' ∧ ExI w h L nt τ x r sp' Q' n' t' s (fun _ b => b < dn + 1) M' ∧ mI M' 212 s = nI (bS (opS w h (tT τ x) (Q' s)) 8) ∧ PosAt 218 (Q' s) M' ∧ Fx eA eF M0 M' ∧ n ≤ n' ∧ (∀ i, i < n → Q' i = Q i) := by
      intro hne
      refine x_ex144 hx hdn q k f (no + 1) sp Q n t M (by omega) (by omega) hs hop (hI.weak (fun a b hab hed => ?_)) h212 hP hP2 fr
      rcases hab with z | ⟨z1, z2⟩
      · exact Or.inl z
      · rcases Nat.lt_or_ge a no with y | y
        · exact Or.inr ⟨z1, y⟩
        · obtain rfl : a = no := by omega
          subst z1
          exact absurd hed hne
    by_cases hnd : no = dn
    · rw [if_pos (by rw [hnd]), nI_1]
      exact skip (fun e => e.2.2.1 hnd)
    · rw [if_neg (nIne (by omega) (by omega) hnd), gR_t (ly_t211 hl), ly_r211_0 hl, aI_t (ly_t212 hl) (by omega) (by decide), h212]
      cases hopn : opS w h (tT τ x) (Q s) no with
      | false =>
        rw [if_pos ((bS_in (by decide) (by omega)).mpr hopn), nI_1]
        exact skip (fun e => by rw [e.2.2.2.1] at hopn; cases hopn)
      | true =>
        have he : Edg w h (tT τ x) (Q s) no dn := ⟨by omega, hdn, hnd, hopn, hop⟩
        obtain ⟨hcn, -⟩ := abl_can (opS_abl hop)
        have oks := hok.2.1 s hs
        have okn := he.ok hb.1 (hb.okT hx) oks
        have okp2 : okP (actS w h (tT τ x) (Q s) dn, (Q s).2.1, 1 - (Q s).2.2) := ⟨okn.1.1, okn.1.2.1, oks.1.2.2.1, okn.1.2.2.2⟩
        obtain ⟨v, M1, sp', Q', n', t', y1, y2, y3, y4, y5, y6, y7⟩ := x_exit hx hI hs he
        have hbt : f_X4_boardAndTurn (some 219) M = some (lN (btN (sucS w h (tT τ x) (Q s) no dn)), M) := by
          have q := x_boardAndTurn hP2 okp2
          exact q
        have hQs : Q' s = Q s := y6 s hs
        have e64 : ((nI s * (64 : Int32)) + (nI no * (8 : Int32))) + nI dn = nI (s * 64 + no * 8 + dn) := by rw [show (64 : Int32) = nI 64 from rfl, show (8 : Int32) = nI 8 from rfl, pk_mul, pk_mul, nI_add, nI_add]
        rw [if_neg (fun z => by rw [bS_in (by decide) (by omega), hopn] at z; cases z), gR_t (ly_t211 hl), ly_r211_10 hl, cR_t (ly_t219 hl), hbt, cA_s, gR_t (ly_t211 hl), ly_r211_9 hl, cR_t (ly_t218 hl), x_heapBehind hP oks.1 (by omega) hdn hnd hcn, cA_s, cR_t (ly_t211 hl), show f_X8_numberOf (some 211) (lN (btN (sucS w h (tT τ x) (Q s) no dn))) (nI (enc 2 (heapB (Q s).2.1 no dn) 8)) M = _ from y1, cA_s, gR_t (ly_t211 y2.lay), ly_r211_1 y2.lay, e64, wI_t (ly_t213 y2.lay) (by omega) (by decide), nI_1]
        obtain ⟨sp2, Q2, n2, t2, M2, z1, z2, z3, z4, z5, z6, z7⟩ := x_ex144 hx hdn q k f (no + 1) sp' Q' n' t' _ (by omega) (by omega) (by omega) (by rw [hQs]; exact hop) (y3.weak (fun a b hab hed => by
          rcases hab with z | ⟨z1, z2⟩
          · exact Or.inl (Or.inl z)
          · rcases Nat.lt_or_ge a no with y | y
            · exact Or.inl (Or.inr ⟨z1, y⟩)
            · exact Or.inr ⟨by omega, z1⟩)) (by rw [y7, hQs]; exact h212) (by rw [hQs]; exact hP.fx y4 (by decide)) (by rw [hQs]; exact hP2.fx y4 (by decide)) (fr.tr y4)
        exact ⟨sp2, Q2, n2, t2, M2, z1, z2, z3, z4, z5, by omega, fun i hi => by rw [z7 i (by omega), y6 i hi]⟩
end EXPLORE
