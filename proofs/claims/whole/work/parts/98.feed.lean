/-! ===== feed, image, back ===== -/
def byB (v : Int32) (k : Nat) : Nat := ((v.toUInt32 >>> ((nI k).toUInt32 &&& Int32.toUInt32 31)).toInt32).toBitVec.toNat % 256
theorem byB_lt (v : Int32) (k : Nat) : byB v k < 256 := Nat.mod_lt _ (by decide)
theorem byB_x (v : Int32) (k : Nat) : (v.toUInt32 >>> ((nI k).toUInt32 &&& Int32.toUInt32 31)).toInt32 &&& (255 : Int32) = nI (byB v k) := pk_and _ 8 (by decide)
theorem byte_low (x : Int32) : (x &&& 255).toInt8 = x.toInt8 := by
  apply Int8.toBitVec_inj.mp
  rw [Int32.toBitVec_toInt8, Int32.toBitVec_toInt8]
  apply BitVec.eq_of_getLsbD_eq
  intro i hi
  have h1 := b_255 i
  have h2 := b_and x 255 i
  unfold bt at h1 h2
  rw [BitVec.getLsbD_signExtend, BitVec.getLsbD_signExtend, if_pos (by omega), if_pos (by omega), h2, h1]
  simp [hi]
theorem byte_tw (x : Int32) : x.toInt8.toInt32.toInt8.toInt32 = x.toInt8.toInt32 := by
  congr 1
  exact Int8.toInt8_toInt32 _
theorem byB_y (v : Int32) {k : Nat} (hk : k ≤ 24) : vp_nar .byte (v >>> (nI k &&& 31)).toInt8.toInt32 = (nI (byB v k)).toInt8.toInt32 := by
  rw [vp_nar_byte, byte_tw, ← byB_x v k, byte_low]
  congr 1
  have e : (v >>> (nI k &&& 31)) &&& (255 : Int32) = (v.toUInt32 >>> ((nI k).toUInt32 &&& Int32.toUInt32 31)).toInt32 &&& (255 : Int32) := by
    apply b_ext
    intro i hi
    rw [b_and, b_and, b_255]
    by_cases h8 : i < 8
    · rw [b_sshr k (by omega) v hi, b_ushr k (by omega), if_pos (by omega)]
    · simp [h8]
  rw [← byte_low (v >>> (nI k &&& 31)), e, byte_low]
def TapX (tp : Nat → Nat) (ln : Nat) (M : Mem) : Prop := mI M 43 1 = nI ln ∧ ∀ i, i < ln → mI M 44 i = nI (tp i)
def TapM (tp : Nat → Nat) (ln : Nat) (M : Mem) : Prop := mI M 230 6 = nI ln ∧ ∀ i, i < ln → mI M 233 i = (nI (tp i)).toInt8.toInt32
def tp4 (tp : Nat → Nat) (ln : Nat) (v : Int32) : Nat → Nat := up1 (up1 (up1 (up1 tp ln (byB v 24)) (ln + 1) (byB v 16)) (ln + 2) (byB v 8)) (ln + 3) (byB v 0)
section FEED
variable {w h L nt : Nat} {s s' : Std} {τ : Nat → Txt} {tp : Nat → Nat} {ln : Nat} {fl fp : Int32} {M : Mem}
theorem TapX.put {b : Nat} (h' : TapX tp ln M) : TapX (up1 tp ln b) (ln + 1) (sI (sI M 44 ln (nI b)) 43 1 (nI (ln + 1))) := by
  refine ⟨mI_e, fun i hi => ?_⟩
  rw [mI_na (by decide)]
  by_cases e : i = ln
  · subst e; rw [mI_e, up1_s]
  · rw [mI_nk e, up1_n e]; exact h'.2 i (by omega)
theorem TapM.put {b : Nat} (h' : TapM tp ln M) : TapM (up1 tp ln b) (ln + 1) (sI (sI M 233 ln (nI b).toInt8.toInt32) 230 6 (nI (ln + 1))) := by
  refine ⟨mI_e, fun i hi => ?_⟩
  rw [mI_na (by decide)]
  by_cases e : i = ln
  · subst e; rw [mI_e, up1_s]
  · rw [mI_nk e, up1_n e]; exact h'.2 i (by omega)
theorem x_ap {n k : Nat} {v : Int32} (hb : Bs w h L nt τ M) (ht : TapX tp ln M) (hk : k < 31) (hl : ln < 300) : f_X5_append_3 (n + 1) (some 43) v (nI k) M = f_X5_append_3 n (some 43) v (nI k + (-8 : Int32)) (sI (sI M 44 ln (nI (byB v k))) 43 1 (nI (ln + 1))) := by
  have hl0 := hb.lay
  have t43 := ly_t43 hl0
  have h1 := ht.1
  rw [u_X5_append_3]
  unfold b_X5_append_3
  rw [if_neg (nI_pos (by omega)), gI_t (ly_t43 hl0), h1, if_neg (show ¬ (300 : Int32) ≤ nI ln from nI_ge (b := 300) hl (by decide)), gR_t (ly_t43 hl0), ly_r43_0 hl0, gI_t (ly_t43 hl0), h1, wI_t (ly_t44 hl0) hl (by decide), byB_x, gI_t (by exact t43), mI_na (by decide), h1, nI_1, pI_t (by exact t43)]
theorem y_ap {n k : Nat} {v : Int32} (hb : Bs w h L nt τ M) (ht : TapM tp ln M) (hk : k ≤ 24) (hl : ln < 300) : f_X12_put_3 (n + 1) (some 230) v (nI k) M = f_X12_put_3 n (some 230) v (nI k - (8 : Int32)) (sI (sI M 233 ln (nI (byB v k)).toInt8.toInt32) 230 6 (nI (ln + 1))) := by
  have hl0 := hb.lay
  have t230 := ly_t230 hl0
  have h1 := ht.1
  rw [u_X12_put_3]
  unfold b_X12_put_3
  rw [if_neg (nI_pos (by omega)), gR_t (ly_t230 hl0), ly_r230_5 hl0, gI_t (ly_t230 hl0), h1, wI_t (ly_t233 hl0) hl (by decide), byB_y v hk, gI_t (by exact t230), mI_na (by decide), h1, nI_1, pI_t (by exact t230)]
theorem x_append {v : Int32} (hb : Bs w h L nt τ M) (ht : TapX tp ln M) (hl : ln + 4 ≤ 300) : ∃ M', f_X5_append (some 43) v M = some ((), M') ∧ Fx [44] [(43, 1)] M M' ∧ TapX (tp4 tp ln v) (ln + 4) M' := by
  have f : ∀ {M : Mem} {a b : Int32} {k : Nat}, Fx [44] [(43, 1)] M (sI (sI M 44 k a) 43 1 b) := fun {M a b k} => (Fx.wI (Or.inl (by decide))).I (Or.inr (by decide))
  have t1 := ht.put (b := byB v 24)
  have b1 := hb.fx (f (M := M) (a := nI (byB v 24)) (b := nI (ln + 1)) (k := ln)) (by decide) (by decide)
  have t2 := t1.put (b := byB v 16)
  have b2 := b1.fx (f (a := nI (byB v 16)) (b := nI (ln + 1 + 1)) (k := ln + 1)) (by decide) (by decide)
  have t3 := t2.put (b := byB v 8)
  have b3 := b2.fx (f (a := nI (byB v 8)) (b := nI (ln + 1 + 1 + 1)) (k := ln + 1 + 1)) (by decide) (by decide)
  have t4 := t3.put (b := byB v 0)
  unfold f_X5_append
  rw [show FU = 999999995 + 1 + 1 + 1 + 1 + 1 from rfl, show (24 : Int32) = nI 24 from rfl, x_ap hb ht (by decide) (by omega), show nI 24 + (-8 : Int32) = nI 16 by decide, x_ap b1 t1 (by decide) (by omega), show nI 16 + (-8 : Int32) = nI 8 by decide, x_ap b2 t2 (by decide) (by omega), show nI 8 + (-8 : Int32) = nI 0 by decide, x_ap b3 t3 (by decide) (by omega), u_X5_append_3]
  unfold b_X5_append_3
  rw [if_pos (by decide)]
  exact ⟨_, rfl, ((f.tr f).tr f).tr f, t4⟩
theorem y_put {v : Int32} (hb : Bs w h L nt τ M) (ht : TapM tp ln M) (hl : ln + 4 ≤ 300) : ∃ M', f_X12_put (some 230) v M = some ((), M') ∧ Fx [233] [(230, 6)] M M' ∧ TapM (tp4 tp ln v) (ln + 4) M' := by
  have f : ∀ {M : Mem} {a b : Int32} {k : Nat}, Fx [233] [(230, 6)] M (sI (sI M 233 k a) 230 6 b) := fun {M a b k} => (Fx.wI (Or.inl (by decide))).I (Or.inr (by decide))
  have t1 := ht.put (b := byB v 24)
  have b1 := hb.fx (f (M := M) (a := (nI (byB v 24)).toInt8.toInt32) (b := nI (ln + 1)) (k := ln)) (by decide) (by decide)
  have t2 := t1.put (b := byB v 16)
  have b2 := b1.fx (f (a := (nI (byB v 16)).toInt8.toInt32) (b := nI (ln + 1 + 1)) (k := ln + 1)) (by decide) (by decide)
  have t3 := t2.put (b := byB v 8)
  have b3 := b2.fx (f (a := (nI (byB v 8)).toInt8.toInt32) (b := nI (ln + 1 + 1 + 1)) (k := ln + 1 + 1)) (by decide) (by decide)
  have t4 := t3.put (b := byB v 0)
  unfold f_X12_put
  rw [show FU = 999999995 + 1 + 1 + 1 + 1 + 1 from rfl, show (24 : Int32) = nI 24 from rfl, y_ap hb ht (by decide) (by omega), show nI 24 - (8 : Int32) = nI 16 by decide, y_ap b1 t1 (by decide) (by omega), show nI 16 - (8 : Int32) = nI 8 by decide, y_ap b2 t2 (by decide) (by omega), show nI 8 - (8 : Int32) = nI 0 by decide, y_ap b3 t3 (by decide) (by omega), u_X12_put_3]
  unfold b_X12_put_3
  rw [if_pos (by decide)]
  exact ⟨_, rfl, ((f.tr f).tr f).tr f, t4⟩
theorem tp4_lt {v : Int32} (ht : ∀ i, i < ln → tp i < 256) : ∀ i, i < ln + 4 → tp4 tp ln v i < 256 := by
  intro i hi
  unfold tp4
  by_cases e3 : i = ln + 3
  · subst e3; rw [up1_s]; exact byB_lt _ _
  · rw [up1_n e3]
    by_cases e2 : i = ln + 2
    · subst e2; rw [up1_s]; exact byB_lt _ _
    · rw [up1_n e2]
      by_cases e1 : i = ln + 1
      · subst e1; rw [up1_s]; exact byB_lt _ _
      · rw [up1_n e1]
        by_cases e0 : i = ln
        · subst e0; rw [up1_s]; exact byB_lt _ _
        · rw [up1_n e0]; exact ht i (by omega)
theorem c_feed {a b c d e : Int32} (hr : Rel0 w h L s s' τ tp ln fl fp M) : End w h L s τ M (f_X11_feed (some 8) a b c d e) (f_X12_feed (some 230) a b c d e) := by
  have hp := hr.1
  have hl := hp.1.lay
  obtain ⟨-, r2, r3, r4, r5, r6, r7, r8, r9, r10, r11, r12, r13⟩ := id hr
  by_cases h20 : ln + 20 ≤ 300
  · have tx : TapX tp ln M := ⟨r7, fun i hi => (r9 i hi).2.1⟩
    have fk : okA [44] = true ∧ okF [(43, 1)] = true := by decide
    have fk' : okA [233] = true ∧ okF [(230, 6)] = true := by decide
    obtain ⟨M1, x1, x2, x3⟩ := x_append (v := a) hp.1 tx (by omega)
    have B1 := hp.1.fx x2 fk.1 fk.2
    obtain ⟨M2, x4, x5, x6⟩ := x_append (v := b) B1 x3 (by omega)
    have B2 := B1.fx x5 fk.1 fk.2
    obtain ⟨M3, x7, x8, x9⟩ := x_append (v := c) B2 x6 (by omega)
    have B3 := B2.fx x8 fk.1 fk.2
    obtain ⟨M4, x10, x11, x12⟩ := x_append (v := d) B3 x9 (by omega)
    have B4 := B3.fx x11 fk.1 fk.2
    obtain ⟨M5, x13, x14, x15⟩ := x_append (v := e) B4 x12 (by omega)
    have B5 := B4.fx x14 fk.1 fk.2
    have frX : Fx [44] [(43, 1)] M M5 := (((x2.tr x5).tr x8).tr x11).tr x14
    have tm : TapM tp ln M5 := ⟨by rw [frX.i (by decide) (by decide)]; exact r8, fun i hi => by rw [frX.ib (by decide)]; exact (r9 i hi).2.2⟩
    obtain ⟨N1, y1, y2, y3⟩ := y_put (v := a) B5 tm (by omega)
    have C1 := B5.fx y2 fk'.1 fk'.2
    obtain ⟨N2, y4, y5, y6⟩ := y_put (v := b) C1 y3 (by omega)
    have C2 := C1.fx y5 fk'.1 fk'.2
    obtain ⟨N3, y7, y8, y9⟩ := y_put (v := c) C2 y6 (by omega)
    have C3 := C2.fx y8 fk'.1 fk'.2
    obtain ⟨N4, y10, y11, y12⟩ := y_put (v := d) C3 y9 (by omega)
    have C4 := C3.fx y11 fk'.1 fk'.2
    obtain ⟨N5, y13, y14, y15⟩ := y_put (v := e) C4 y12 (by omega)
    have C5 := C4.fx y14 fk'.1 fk'.2
    have frY : Fx [233] [(230, 6)] M5 N5 := (((y2.tr y5).tr y8).tr y11).tr y14
    have fr : Fx [44, 233] [(43, 1), (230, 6)] M N5 := (frX.mono (by decide) (by decide)).tr (frY.mono (by decide) (by decide))
    have hlt : ∀ i, i < ln → tp i < 256 := fun i hi => (r9 i hi).1
    have h5 := tp4_lt (v := e) (tp4_lt (v := d) (tp4_lt (v := c) (tp4_lt (v := b) (tp4_lt (v := a) hlt))))
    refine ⟨nI (ln + 4 + 4 + 4 + 4 + 4), M5, N5, s, s', _, ln + 4 + 4 + 4 + 4 + 4, fl, fp, ?_, ?_, ⟨hp.fx2 fr (by decide), r2, r3, r4.fx fr (by decide) (by decide) (by decide) (by decide), r5.fx fr (by decide), by omega, by rw [frY.i (by decide) (by decide)]; exact x15.1, y15.1, fun i hi => ⟨h5 i hi, by rw [frY.ib (by decide)]; exact x15.2 i hi, y15.2 i hi⟩, by rw [fr.i (by decide) (by decide)]; exact r10, by rw [fr.i (by decide) (by decide)]; exact r11, by rw [fr.i (by decide) (by decide)]; exact r12, by rw [fr.i (by decide) (by decide)]; exact r13⟩, fr.mono (by decide) (by decide), rfl⟩
    · unfold f_X11_feed
      rw [gR_t (ly_t8 hl), ly_r8_6 hl, gI_t (ly_t43 hl), r7, show (20 : Int32) = nI 20 from rfl, nI_add, if_pos (show nI (ln + 20) ≤ (300 : Int32) from nI_le (b := 300) h20 (by decide)), gR_t (ly_t8 hl), ly_r8_6 hl, cR_t (ly_t43 hl), x1, cA_s, gR_t (ly_t8 B1.lay), ly_r8_6 B1.lay, cR_t (ly_t43 B1.lay), x4, cA_s, gR_t (ly_t8 B2.lay), ly_r8_6 B2.lay, cR_t (ly_t43 B2.lay), x7, cA_s, gR_t (ly_t8 B3.lay), ly_r8_6 B3.lay, cR_t (ly_t43 B3.lay), x10, cA_s, gR_t (ly_t8 B4.lay), ly_r8_6 B4.lay, cR_t (ly_t43 B4.lay), x13, cA_s, gR_t (ly_t8 B5.lay), ly_r8_6 B5.lay, gI_t (ly_t43 B5.lay), x15.1]
    · unfold f_X12_feed
      rw [gI_t (ly_t230 B5.lay), tm.1, show (20 : Int32) = nI 20 from rfl, nI_add, if_pos (show nI (ln + 20) ≤ (300 : Int32) from nI_le (b := 300) h20 (by decide)), cR_t (ly_t230 B5.lay), y1, cA_s, cR_t (ly_t230 C1.lay), y4, cA_s, cR_t (ly_t230 C2.lay), y7, cA_s, cR_t (ly_t230 C3.lay), y10, cA_s, cR_t (ly_t230 C4.lay), y13, cA_s, gI_t (ly_t230 C5.lay), y15.1]
  · refine end_scr hr ⟨-1, M, M, ?_, ?_, Fx.rf⟩
    · unfold f_X11_feed
      rw [gR_t (ly_t8 hl), ly_r8_6 hl, gI_t (ly_t43 hl), r7, show (20 : Int32) = nI 20 from rfl, nI_add, if_neg (show ¬ nI (ln + 20) ≤ (300 : Int32) from nI_ge (a := 300) (by omega) (by omega))]
    · unfold f_X12_feed
      rw [gI_t (ly_t230 hl), r8, show (20 : Int32) = nI 20 from rfl, nI_add, if_neg (show ¬ nI (ln + 20) ≤ (300 : Int32) from nI_ge (a := 300) (by omega) (by omega))]
end FEED
