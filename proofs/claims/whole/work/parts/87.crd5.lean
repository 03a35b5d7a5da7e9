section
variable {T : Nat → Int32} {nA nK n p e k w s m : Nat} {R : RMem} {I I0 Q Q' : Mem} {J : Nat → Nat → Int64} {post : Int32 → Pool → Prop} {pst : Pool → Prop} {pr : Option Nat → Pool → Prop} {v x lo hi : Int32}
theorem v_21 (hk : k < nK) (hs : s < 6) {op : Int32} (ho : op = bI (s = 0)) (hx : x = 0 ∨ x = 1) (hT : TP T n I) (hK : TK T n I p) (hF : FK k I0 I) (hD : QD Q s I k) (h14 : Q 14 (48 + s) = x) (h16 : ∀ f, f < 3 → Q 16 (3 * (48 + s) + f) = -1) (h17 : Q 17 (48 + s) = 0) (h18 : Q 18 (48 + s) = -1) (hb : I 3 4 = bI (pnd Q true s = true)) (hl : I 3 5 = bI (pnd Q false s = true)) (hO : OS T n nA nK k s R J post I0 (kindS T n s (48 + s) Q p)) : wX4_readsStep_21 post (some 3) (some (2000 + 8 * k)) op x (cp nA nK R I J) := by
  unfold wX4_readsStep_21
  simp (disch := first | decide | omega) only [brT, brF, c_I, c_rc, c_pI, c_pZ, c_aI, c_sI, ca_I, ca_rc, ca_pI, cq_I, cq_rc, cq_pI, cq_R, cq_aR, cs_I, cs_rc, cs_pI, cs_pZ, f0_0, f0_1, f0_2, f0_3, f0_4, f0_5, f0_6, f0_7, f1_0, f3_0, f4_0, f4_1, f7_0, f7_1, f7_2, f7_3, f7_4, f7_5, f7_6, f7_7, f7_8, f7_9, f17_0, f17_1, f17_2, f17_3, f17_4, f17_5, f0_8, f0_8p, f7_10, f7_10p, g9, g9r, g9w, g11, g11r, g11w, g12, g12r, g12w, g13, g13r, g13w, g14, g14r, g14w, g15, g15r, g15w, g25, g25r, g25w, h5, h5w, h5z, h6, h6w, h6z, h8, h8w, h8z, h21, h21w, h21z, h22, h22w, h22z, h23, h23w, fl10, fl16, fl18, fl20, fl24, g11f, g12f, g13f, g14f, g15f, g25f, cN2, cN10, cN16, cN18, cN19, cN20, cN24, z01, z11, ix1, ix2, nI_add, nI_clamp, vin, true_and, and_true, or_true, true_or, v_isAt (w := 6) (by decide) hT hK, bI_br, hb]
  refine brc (fun e => ?_) fun e => ?_
  · have go : ¬ (Q 14 (48 + s) = 0 ∧ pnd Q true s = true) → wX4_readsStep_43 post (some 3) (some (2000 + 8 * k)) op x (cp nA nK R I J) := fun z => by
      rw [kS_2 (fun y => y.elim (fun y => by rw [e] at y; cases y) z)] at hO
      exact v_43 hk hs ho hx hT hK e hF hD h14 h16 h17 h18 hb hl hO
    refine brc (fun h0 => brc (fun h1 => ?_) fun h1 => go fun z => h1 z.2) fun h0 => go fun z => h0 (h14.symm.trans z.1)
    unfold kindS at hO
    rw [if_pos (.inr ⟨h14.trans h0, h1⟩)] at hO
    exact hO.1 p I rfl hF hK.2.1
  · unfold kindS at hO
    rw [if_pos (.inl (by simpa using e))] at hO
    exact hO.1 p I rfl hF hK.2.1
theorem ini_f (hs : s < 6) (hD : QD Q s I k) : QD (iniS (48 + s) Q) s I k ∧ (∀ f, f < 3 → iniS (48 + s) Q 16 (3 * (48 + s) + f) = -1) ∧ iniS (48 + s) Q 17 (48 + s) = 0 ∧ iniS (48 + s) Q 18 (48 + s) = -1 ∧ iniS (48 + s) Q 14 (48 + s) = 0 ∧ ∀ w, pnd (iniS (48 + s) Q) w s = pnd Q w s := by
  unfold iniS
  refine ⟨QD_Q hD ?_ ?_ ?_ fun j hj => ⟨?_, ?_, fun f hf => ?_, ?_, ?_⟩, fun f hf => ?_, ?_, ?_, ?_, fun w => pnd_cg fun j hj => ⟨?_, ?_⟩⟩
  · simp (disch := first | decide | omega) only [p2_ne]
  · simp (disch := first | decide | omega) only [p2_ne]
  · simp (disch := first | decide | omega) only [p2_ne]
  · simp (disch := first | decide | omega) only [p2_ne, p2_row]
  · simp (disch := first | decide | omega) only [p2_ne, p2_row]
  · simp (disch := first | decide | omega) only [p2_ne, p2_row]
  · simp (disch := first | decide | omega) only [p2_ne, p2_row]
  · simp (disch := first | decide | omega) only [p2_ne, p2_row]
  · rcases (show f = 0 ∨ f = 1 ∨ f = 2 by omega) with rfl | rfl | rfl
    · simp (disch := first | decide | omega) only [p2_ne, p2_row, p2_same, Nat.add_zero]
    · simp (disch := first | decide | omega) only [p2_ne, p2_row, p2_same]
    · simp (disch := first | decide | omega) only [p2_ne, p2_row, p2_same]
  · simp (disch := first | decide | omega) only [p2_ne, p2_row, p2_same]
  · simp (disch := first | decide | omega) only [p2_ne, p2_row, p2_same]
  · simp (disch := first | decide | omega) only [p2_ne, p2_row, p2_same]
  · simp (disch := first | decide | omega) only [p2_ne, p2_row]
  · simp (disch := first | decide | omega) only [p2_ne, p2_row]
theorem v_step (hk : k < nK) (hs : s < 6) {op : Int32} (ho : op = bI (s = 0)) (hT : TP T n I) (hK : TK T n I p) (hF : FK k I0 I) (hD : QD Q s I k) (hb : I 3 4 = bI (pnd Q true s = true)) (hl : I 3 5 = bI (pnd Q false s = true)) (hO : OS T n nA nK k s R J post I0 (stepS T n s Q p)) : wX4_readsStep post (some 3) (some (2000 + 8 * k)) op (cp nA nK R I J) := by
  obtain ⟨i1, i2, i3, i4, i5, i6⟩ := ini_f hs hD
  unfold wX4_readsStep
  simp (disch := first | decide | omega) only [brT, brF, c_I, c_rc, c_pI, c_pZ, c_aI, c_sI, ca_I, ca_rc, ca_pI, cq_I, cq_rc, cq_pI, cq_R, cq_aR, cs_I, cs_rc, cs_pI, cs_pZ, f0_0, f0_1, f0_2, f0_3, f0_4, f0_5, f0_6, f0_7, f1_0, f3_0, f4_0, f4_1, f7_0, f7_1, f7_2, f7_3, f7_4, f7_5, f7_6, f7_7, f7_8, f7_9, f17_0, f17_1, f17_2, f17_3, f17_4, f17_5, f0_8, f0_8p, f7_10, f7_10p, g9, g9r, g9w, g11, g11r, g11w, g12, g12r, g12w, g13, g13r, g13w, g14, g14r, g14w, g15, g15r, g15w, g25, g25r, g25w, h5, h5w, h5z, h6, h6w, h6z, h8, h8w, h8z, h21, h21w, h21z, h22, h22w, h22z, h23, h23w, fl10, fl16, fl18, fl20, fl24, g11f, g12f, g13f, g14f, g15f, g25f, cN2, cN10, cN16, cN18, cN19, cN20, cN24, z01, z11, ix1, ix2, nI_add, nI_clamp, vin, true_and, and_true, or_true, true_or, v_isAt (w := 7) (by decide) hT hK]
  rw [bI_br]
  unfold stepS at hO
  refine brc (fun e => ?_) fun e => ?_
  · rw [if_pos e] at hO
    rw [bI_t e]
    subst ho
    rw [bI_br]
    refine brc (fun h0 => ?_) fun h0 => ?_
    · rw [if_pos h0] at hO
      exact hO.1 p I rfl hF hK.2.1
    · rw [if_neg h0] at hO
      refine v_advW (w := 7) (by decide) e hT hK fun I1 b1 b2 => ?_
      have hpn : ∀ w, pnd (p2 (iniS (48 + s) Q) 14 (48 + s) 1) w s = pnd Q w s := fun w => by
        rw [← i6 w]
        exact pnd_cg fun j hj => ⟨by rw [p2_row (by omega)], by rw [p2_ne (by decide)]⟩
      refine v_21 hk hs rfl (.inr rfl) (TP_fk (k := k) hT (FK_rf b1)) b2 (FK_trans hF (FK_rf b1)) (QD_Q (QD_cg i1 b1.1) ?_ ?_ ?_ fun j hj => ⟨?_, ?_, fun f hf => ?_, ?_, ?_⟩) p2_same (fun f hf => ?_) ?_ ?_ (by rw [b1.2.1, hb, hpn]) (by rw [b1.2.2, hl, hpn]) hO
      · rw [p2_ne (by decide)]
      · rw [p2_ne (by decide)]
      · rw [p2_ne (by decide)]
      · rw [p2_row (by omega)]
      · rw [p2_ne (by decide)]
      · rw [p2_ne (by decide)]
      · rw [p2_ne (by decide)]
      · rw [p2_ne (by decide)]
      · rw [p2_ne (by decide)]; exact i2 f hf
      · rw [p2_ne (by decide)]; exact i3
      · rw [p2_ne (by decide)]; exact i4
  · rw [if_neg e] at hO
    rw [bI_f e]
    exact v_21 hk hs ho (.inl rfl) hT hK hF i1 i5 i2 i3 i4 (by rw [hb, i6]) (by rw [hl, i6]) hO
/-! what a step leaves of the question's head -/
def HD (Q Q' : Mem) : Prop := Q' 19 = Q 19 ∧ Q' 12 = Q 12
theorem HD_p {c j : Nat} (h : HD Q Q') (h1 : c ≠ 19) (h2 : c ≠ 12) : HD Q (p2 Q' c j v) := ⟨by rw [p2_ne (Ne.symm h1)]; exact h.1, by rw [p2_ne (Ne.symm h2)]; exact h.2⟩
theorem HD_rfl : HD Q Q := ⟨rfl, rfl⟩
theorem HD_trans {Q'' : Mem} (h : HD Q Q') (h' : HD Q' Q'') : HD Q Q'' := ⟨h'.1.trans h.1, h'.2.trans h.2⟩
theorem cond_hd {d p' : Nat} : ∀ j Q p, condS T n d j Q p = .inr (Q', p') → HD Q Q' := by
  intro j
  induction j with
  | zero => intro Q p h; unfold condS at h; cases h
  | succ j ih =>
    intro Q p h
    unfold condS at h
    split at h
    · cases h; exact HD_rfl
    · split at h
      · cases h
      · split at h
        · cases h
        · exact HD_trans (HD_p (HD_p HD_rfl (by decide) (by decide)) (by decide) (by decide)) (ih _ _ h)
theorem with_hd {d p' : Nat} (h : withS T n s d Q p = .inr (Q', p')) : HD Q Q' := by
  unfold withS at h
  split at h
  · split at h
    · cases h
    · split at h
      · cases h
      · cases h; exact HD_p HD_rfl (by decide) (by decide)
  · cases h; exact HD_rfl
theorem tail_hd {d p' : Nat} (h : tailS T n s d Q p = .inr (Q', p')) : HD Q Q' := by
  unfold tailS at h
  split at h
  · split at h
    · cases h
    · exact HD_trans (HD_p HD_rfl (by decide) (by decide)) (with_hd h)
  · exact with_hd h
theorem kind_hd {d p' : Nat} (h : kindS T n s d Q p = .inr (Q', p')) : HD Q Q' := by
  unfold kindS at h
  split at h
  · cases h
  · split at h
    · cases h
    · split at h
      · cases h
      · rename_i hc
        exact HD_trans (HD_trans (HD_p HD_rfl (by decide) (by decide)) (cond_hd _ _ _ hc)) (tail_hd h)
theorem ini_hd {d : Nat} : HD Q (iniS d Q) := by
  unfold iniS
  exact HD_p (HD_p (HD_p (HD_p (HD_p (HD_p HD_rfl (by decide) (by decide)) (by decide) (by decide)) (by decide) (by decide)) (by decide) (by decide)) (by decide) (by decide)) (by decide) (by decide)
theorem step_hd {p' : Nat} (h : stepS T n s Q p = .inr (Q', p')) : HD Q Q' := by
  unfold stepS at h
  split at h
  · split at h
    · cases h
    · exact HD_trans (HD_p ini_hd (by decide) (by decide)) (kind_hd h)
  · exact HD_trans ini_hd (kind_hd h)
/-- what reading the text leads to -/
def OR1 (nA nK k : Nat) (R : RMem) (J : Nat → Nat → Int64) (post : Int32 → Pool → Prop) (I0 : Mem) (res : Sum Nat Mem) : Prop := (∀ f I', res = .inl f → FK k I0 I' → I' 3 2 = nI f → post 0 (cp nA nK R I' J)) ∧ ∀ Q' I' m, res = .inr Q' → FK k I0 I' → Q' 13 8 = nI m → m ≤ 6 → QC Q' 8 m I' k → I' (2000 + 8 * k) 7 = Q' 0 32 → post 1 (cp nA nK R I' J)
theorem v_rspread (hk : k < nK) (hm : m ≤ 6) (hT : TP T n I) (hK : TK T n I p) (e : isWb T n p 4 = true) (hF : FK k I0 I) (hD : QD Q m I k) (h13 : Q 13 8 = nI m) (hO : OR1 nA nK k R J post I0 (spreadS T n Q p)) : wX4_readsSpread post (some 3) (some (2000 + 8 * k)) (cp nA nK R I J) := by
  have hTT : ∀ I', FK k I0 I' → TP T n I' := fun I' g => TP_cg hT ((g 1 (by decide) (by omega)).trans (hF 1 (by decide) (by omega)).symm) ((g 2 (by decide) (by omega)).trans (hF 2 (by decide) (by omega)).symm)
  unfold wX4_readsSpread
  unfold spreadS at hO
  simp (disch := first | decide | omega) only [brT, brF, c_I, c_rc, c_pI, c_pZ, c_aI, c_sI, ca_I, ca_rc, ca_pI, cq_I, cq_rc, cq_pI, cq_R, cq_aR, cs_I, cs_rc, cs_pI, cs_pZ, f0_0, f0_1, f0_2, f0_3, f0_4, f0_5, f0_6, f0_7, f1_0, f3_0, f4_0, f4_1, f7_0, f7_1, f7_2, f7_3, f7_4, f7_5, f7_6, f7_7, f7_8, f7_9, f17_0, f17_1, f17_2, f17_3, f17_4, f17_5, f0_8, f0_8p, f7_10, f7_10p, g9, g9r, g9w, g11, g11r, g11w, g12, g12r, g12w, g13, g13r, g13w, g14, g14r, g14w, g15, g15r, g15w, g25, g25r, g25w, h5, h5w, h5z, h6, h6w, h6z, h8, h8w, h8z, h21, h21w, h21z, h22, h22w, h22z, h23, h23w, fl10, fl16, fl18, fl20, fl24, g11f, g12f, g13f, g14f, g15f, g25f, cN2, cN10, cN16, cN18, cN19, cN20, cN24, z01, z11, ix1, ix2, nI_add, nI_clamp, vin, true_and, and_true, or_true, true_or]
  refine v_advW (w := 4) (by decide) e hT hK fun I1 b1 b2 => ?_
  have hF1 := FK_trans hF (FK_rf b1 (k := k))
  have hT1 := hTT I1 hF1
  have hD1 := QD_cg hD b1.1
  simp (disch := first | decide | omega) only [brT, brF, c_I, c_rc, c_pI, c_pZ, c_aI, c_sI, ca_I, ca_rc, ca_pI, cq_I, cq_rc, cq_pI, cq_R, cq_aR, cs_I, cs_rc, cs_pI, cs_pZ, f0_0, f0_1, f0_2, f0_3, f0_4, f0_5, f0_6, f0_7, f1_0, f3_0, f4_0, f4_1, f7_0, f7_1, f7_2, f7_3, f7_4, f7_5, f7_6, f7_7, f7_8, f7_9, f17_0, f17_1, f17_2, f17_3, f17_4, f17_5, f0_8, f0_8p, f7_10, f7_10p, g9, g9r, g9w, g11, g11r, g11w, g12, g12r, g12w, g13, g13r, g13w, g14, g14r, g14w, g15, g15r, g15w, g25, g25r, g25w, h5, h5w, h5z, h6, h6w, h6z, h8, h8w, h8z, h21, h21w, h21z, h22, h22w, h22z, h23, h23w, fl10, fl16, fl18, fl20, fl24, g11f, g12f, g13f, g14f, g15f, g25f, cN2, cN10, cN16, cN18, cN19, cN20, cN24, z01, z11, ix1, ix2, nI_add, nI_clamp, vin, true_and, and_true, or_true, true_or, v_field hT1 b2, p2_same]
  cases hf : fldS T n (skp T n (wep T n p)) with
  | none =>
    simp only [hf] at hO
    rw [brt (show oI none = -1 from rfl)]
    exact hO.1 _ _ rfl (FK_q hF1) (by rw [p2_ne (by omega)]; exact b2.2.1)
  | some f =>
    simp only [hf] at hO
    obtain ⟨hf3, hfw⟩ := fld_w hf
    rw [brf (show ¬ oI (some f) = -1 from nI_nm1 (by omega))]
    unfold wX3_note
    simp (disch := first | decide | omega) only [brT, brF, c_I, c_rc, c_pI, c_pZ, c_aI, c_sI, ca_I, ca_rc, ca_pI, cq_I, cq_rc, cq_pI, cq_R, cq_aR, cs_I, cs_rc, cs_pI, cs_pZ, f0_0, f0_1, f0_2, f0_3, f0_4, f0_5, f0_6, f0_7, f1_0, f3_0, f4_0, f4_1, f7_0, f7_1, f7_2, f7_3, f7_4, f7_5, f7_6, f7_7, f7_8, f7_9, f17_0, f17_1, f17_2, f17_3, f17_4, f17_5, f0_8, f0_8p, f7_10, f7_10p, g9, g9r, g9w, g11, g11r, g11w, g12, g12r, g12w, g13, g13r, g13w, g14, g14r, g14w, g15, g15r, g15w, g25, g25r, g25w, h5, h5w, h5z, h6, h6w, h6z, h8, h8w, h8z, h21, h21w, h21z, h22, h22w, h22z, h23, h23w, fl10, fl16, fl18, fl20, fl24, g11f, g12f, g13f, g14f, g15f, g25f, cN2, cN10, cN16, cN18, cN19, cN20, cN24, z01, z11, ix1, ix2, nI_add, nI_clamp, vin, true_and, and_true, or_true, true_or]
    have e7 : p2 I1 (2000 + 8 * k) 4 (oI (some f)) (2000 + 8 * k) 7 = Q 0 32 := by rw [p2_row (by decide)]; exact hD1.2.2.2.2.1
    rw [e7]
    show wX4_advance _ _ (cp nA nK R (p2 (p2 I1 (2000 + 8 * k) 4 (nI f)) (2000 + 8 * k) 7 (bitF (Q 0 32) f)) J)
    generalize hIa : p2 (p2 I1 (2000 + 8 * k) 4 (nI f)) (2000 + 8 * k) 7 (bitF (Q 0 32) f) = Ia
    have hFa : FK k I0 Ia := by rw [← hIa]; exact FK_q (FK_q hF1)
    have hra : Ia 3 = I1 3 := by rw [← hIa, p2_ne (by omega), p2_ne (by omega)]
    refine v_advW (w := 1 + f) (by omega) hfw (hTT Ia hFa) (TK_p b2 hra) fun I2 d1 d2 => ?_
    have hF2 := FK_trans hFa (FK_rf d1 (k := k))
    simp (disch := first | decide | omega) only [brT, brF, c_I, c_rc, c_pI, c_pZ, c_aI, c_sI, ca_I, ca_rc, ca_pI, cq_I, cq_rc, cq_pI, cq_R, cq_aR, cs_I, cs_rc, cs_pI, cs_pZ, f0_0, f0_1, f0_2, f0_3, f0_4, f0_5, f0_6, f0_7, f1_0, f3_0, f4_0, f4_1, f7_0, f7_1, f7_2, f7_3, f7_4, f7_5, f7_6, f7_7, f7_8, f7_9, f17_0, f17_1, f17_2, f17_3, f17_4, f17_5, f0_8, f0_8p, f7_10, f7_10p, g9, g9r, g9w, g11, g11r, g11w, g12, g12r, g12w, g13, g13r, g13w, g14, g14r, g14w, g15, g15r, g15w, g25, g25r, g25w, h5, h5w, h5z, h6, h6w, h6z, h8, h8w, h8z, h21, h21w, h21z, h22, h22w, h22z, h23, h23w, fl10, fl16, fl18, fl20, fl24, g11f, g12f, g13f, g14f, g15f, g25f, cN2, cN10, cN16, cN18, cN19, cN20, cN24, z01, z11, ix1, ix2, nI_add, nI_clamp, vin, true_and, and_true, or_true, true_or]
    refine v_number (hTT I2 hF2) d2 ?_
    simp (disch := first | decide | omega) only [brT, brF, c_I, c_rc, c_pI, c_pZ, c_aI, c_sI, ca_I, ca_rc, ca_pI, cq_I, cq_rc, cq_pI, cq_R, cq_aR, cs_I, cs_rc, cs_pI, cs_pZ, f0_0, f0_1, f0_2, f0_3, f0_4, f0_5, f0_6, f0_7, f1_0, f3_0, f4_0, f4_1, f7_0, f7_1, f7_2, f7_3, f7_4, f7_5, f7_6, f7_7, f7_8, f7_9, f17_0, f17_1, f17_2, f17_3, f17_4, f17_5, f0_8, f0_8p, f7_10, f7_10p, g9, g9r, g9w, g11, g11r, g11w, g12, g12r, g12w, g13, g13r, g13w, g14, g14r, g14w, g15, g15r, g15w, g25, g25r, g25w, h5, h5w, h5z, h6, h6w, h6z, h8, h8w, h8z, h21, h21w, h21z, h22, h22w, h22z, h23, h23w, fl10, fl16, fl18, fl20, fl24, g11f, g12f, g13f, g14f, g15f, g25f, cN2, cN10, cN16, cN18, cN19, cN20, cN24, z01, z11, ix1, ix2, nI_add, nI_clamp, vin, true_and, and_true, or_true, true_or, p2_same]
    cases hn1 : numS T n (skp T n (wep T n (skp T n (wep T n p)))) 2 30 with
    | none =>
      simp only [hn1] at hO
      rw [brt (show oN none = -1 from rfl)]
      exact hO.1 _ _ rfl (FK_q hF2) (by rw [p2_ne (by omega)]; exact d2.2.1)
    | some y =>
      simp only [hn1] at hO
      obtain ⟨y', hy1, _, hy2⟩ := num_nI (a := 2) (b := 30) (by decide) (by decide) hn1
      rw [brf (show ¬ oN (some y) = -1 by show ¬ y = -1; rw [hy1]; exact nI_nm1 (by omega))]
      show wX4_advance _ _ (cp nA nK R (p2 I2 (2000 + 8 * k) 5 y) J)
      have hrb : p2 I2 (2000 + 8 * k) 5 y 3 = I2 3 := p2_ne (by omega)
      refine v_advN hn1 (hTT _ (FK_q hF2)) (TK_p d2 hrb) fun I3 c1 c2 => ?_
      have hF3 := FK_trans (FK_q (j := 5) (v := y) hF2) (FK_rf c1 (k := k))
      simp (disch := first | decide | omega) only [brT, brF, c_I, c_rc, c_pI, c_pZ, c_aI, c_sI, ca_I, ca_rc, ca_pI, cq_I, cq_rc, cq_pI, cq_R, cq_aR, cs_I, cs_rc, cs_pI, cs_pZ, f0_0, f0_1, f0_2, f0_3, f0_4, f0_5, f0_6, f0_7, f1_0, f3_0, f4_0, f4_1, f7_0, f7_1, f7_2, f7_3, f7_4, f7_5, f7_6, f7_7, f7_8, f7_9, f17_0, f17_1, f17_2, f17_3, f17_4, f17_5, f0_8, f0_8p, f7_10, f7_10p, g9, g9r, g9w, g11, g11r, g11w, g12, g12r, g12w, g13, g13r, g13w, g14, g14r, g14w, g15, g15r, g15w, g25, g25r, g25w, h5, h5w, h5z, h6, h6w, h6z, h8, h8w, h8z, h21, h21w, h21z, h22, h22w, h22z, h23, h23w, fl10, fl16, fl18, fl20, fl24, g11f, g12f, g13f, g14f, g15f, g25f, cN2, cN10, cN16, cN18, cN19, cN20, cN24, z01, z11, ix1, ix2, nI_add, nI_clamp, vin, true_and, and_true, or_true, true_or, v_isAt (w := 5) (by decide) (hTT I3 hF3) c2, bI_br]
      refine brc (fun e5 => ?_) fun e5 => ?_
      · rw [if_neg (by rw [e5]; simp)] at hO
        refine v_advW (w := 5) (by decide) e5 (hTT I3 hF3) c2 fun I4 g1 g2 => ?_
        have hF4 := FK_trans hF3 (FK_rf g1 (k := k))
        simp (disch := first | decide | omega) only [brT, brF, c_I, c_rc, c_pI, c_pZ, c_aI, c_sI, ca_I, ca_rc, ca_pI, cq_I, cq_rc, cq_pI, cq_R, cq_aR, cs_I, cs_rc, cs_pI, cs_pZ, f0_0, f0_1, f0_2, f0_3, f0_4, f0_5, f0_6, f0_7, f1_0, f3_0, f4_0, f4_1, f7_0, f7_1, f7_2, f7_3, f7_4, f7_5, f7_6, f7_7, f7_8, f7_9, f17_0, f17_1, f17_2, f17_3, f17_4, f17_5, f0_8, f0_8p, f7_10, f7_10p, g9, g9r, g9w, g11, g11r, g11w, g12, g12r, g12w, g13, g13r, g13w, g14, g14r, g14w, g15, g15r, g15w, g25, g25r, g25w, h5, h5w, h5z, h6, h6w, h6z, h8, h8w, h8z, h21, h21w, h21z, h22, h22w, h22z, h23, h23w, fl10, fl16, fl18, fl20, fl24, g11f, g12f, g13f, g14f, g15f, g25f, cN2, cN10, cN16, cN18, cN19, cN20, cN24, z01, z11, ix1, ix2, nI_add, nI_clamp, vin, true_and, and_true, or_true, true_or]
        refine v_number (hTT I4 hF4) g2 ?_
        simp (disch := first | decide | omega) only [brT, brF, c_I, c_rc, c_pI, c_pZ, c_aI, c_sI, ca_I, ca_rc, ca_pI, cq_I, cq_rc, cq_pI, cq_R, cq_aR, cs_I, cs_rc, cs_pI, cs_pZ, f0_0, f0_1, f0_2, f0_3, f0_4, f0_5, f0_6, f0_7, f1_0, f3_0, f4_0, f4_1, f7_0, f7_1, f7_2, f7_3, f7_4, f7_5, f7_6, f7_7, f7_8, f7_9, f17_0, f17_1, f17_2, f17_3, f17_4, f17_5, f0_8, f0_8p, f7_10, f7_10p, g9, g9r, g9w, g11, g11r, g11w, g12, g12r, g12w, g13, g13r, g13w, g14, g14r, g14w, g15, g15r, g15w, g25, g25r, g25w, h5, h5w, h5z, h6, h6w, h6z, h8, h8w, h8z, h21, h21w, h21z, h22, h22w, h22z, h23, h23w, fl10, fl16, fl18, fl20, fl24, g11f, g12f, g13f, g14f, g15f, g25f, cN2, cN10, cN16, cN18, cN19, cN20, cN24, z01, z11, ix1, ix2, nI_add, nI_clamp, vin, true_and, and_true, or_true, true_or, p2_same]
        cases hn2 : numS T n (skp T n (wep T n (skp T n (dep T n (skp T n (wep T n (skp T n (wep T n p)))))))) 1 100000 with
        | none =>
          simp only [hn2] at hO
          rw [brt (show oN none = -1 from rfl)]
          exact hO.1 _ _ rfl (FK_q hF4) (by rw [p2_ne (by omega)]; exact g2.2.1)
        | some z =>
          simp only [hn2] at hO
          obtain ⟨z', hz1, _, hz2⟩ := num_nI (a := 1) (b := 100000) (by decide) (by decide) hn2
          rw [brf (show ¬ oN (some z) = -1 by show ¬ z = -1; rw [hz1]; exact nI_nm1 (by omega))]
          show wX4_advance _ _ (cp nA nK R (p2 I4 (2000 + 8 * k) 6 z) J)
          have hrc : p2 I4 (2000 + 8 * k) 6 z 3 = I4 3 := p2_ne (by omega)
          refine v_advN hn2 (hTT _ (FK_q hF4)) (TK_p g2 hrc) fun I5 k1 k2 => ?_
          have hF5 := FK_trans (FK_q (j := 6) (v := z) hF4) (FK_rf k1 (k := k))
          have hsl := srtS_lt (T := T) (n := n) (p := skp T n (dep T n (skp T n (wep T n (skp T n (dep T n (skp T n (wep T n (skp T n (wep T n p))))))))))
          simp (disch := first | decide | omega) only [brT, brF, c_I, c_rc, c_pI, c_pZ, c_aI, c_sI, ca_I, ca_rc, ca_pI, cq_I, cq_rc, cq_pI, cq_R, cq_aR, cs_I, cs_rc, cs_pI, cs_pZ, f0_0, f0_1, f0_2, f0_3, f0_4, f0_5, f0_6, f0_7, f1_0, f3_0, f4_0, f4_1, f7_0, f7_1, f7_2, f7_3, f7_4, f7_5, f7_6, f7_7, f7_8, f7_9, f17_0, f17_1, f17_2, f17_3, f17_4, f17_5, f0_8, f0_8p, f7_10, f7_10p, g9, g9r, g9w, g11, g11r, g11w, g12, g12r, g12w, g13, g13r, g13w, g14, g14r, g14w, g15, g15r, g15w, g25, g25r, g25w, h5, h5w, h5z, h6, h6w, h6z, h8, h8w, h8z, h21, h21w, h21z, h22, h22w, h22z, h23, h23w, fl10, fl16, fl18, fl20, fl24, g11f, g12f, g13f, g14f, g15f, g25f, cN2, cN10, cN16, cN18, cN19, cN20, cN24, z01, z11, ix1, ix2, nI_add, nI_clamp, vin, true_and, and_true, or_true, true_or, k2.1]
          have h0 : (0 : Int32) = nI 0 := rfl
          rw [h0, ieq (by omega) (by decide)]
          refine brc (fun hend => ?_) fun hend => ?_
          · have hge : ¬ skp T n (dep T n (skp T n (wep T n (skp T n (dep T n (skp T n (wep T n (skp T n (wep T n p))))))))) < n := fun hlt => by
              unfold srtS at hend
              rw [if_neg (by omega)] at hend
              split at hend
              · cases hend
              · split at hend
                · cases hend
                · split at hend <;> cases hend
            rw [if_neg hge] at hO
            -- the rows of the question now
            have hq : ∀ c, 2000 + 8 * k + 2 ≤ c → c < 2000 + 8 * k + 8 → I5 c = I c := fun c h1 h2 => by
              rw [k1.1 c (by omega), p2_ne (by omega), g1.1 c (by omega), c1.1 c (by omega), p2_ne (by omega), d1.1 c (by omega), ← hIa, p2_ne (by omega), p2_ne (by omega), b1.1 c (by omega)]
            have hq0 : I5 (2000 + 8 * k) = p2 (p2 (p2 (p2 I (2000 + 8 * k) 4 (nI f)) (2000 + 8 * k) 7 (bitF (Q 0 32) f)) (2000 + 8 * k) 5 y) (2000 + 8 * k) 6 z (2000 + 8 * k) := by
              rw [k1.1 _ (by omega)]
              funext j
              simp only [p2_at]
              rw [g1.1 _ (by omega), c1.1 _ (by omega)]
              simp only [p2_at]
              rw [d1.1 _ (by omega), ← hIa]
              simp only [p2_at]
              rw [b1.1 _ (by omega)]
            refine hO.2 _ I5 m rfl hF5 ?_ hm ⟨?_, ?_, ?_, ?_, fun _ => ⟨?_, ?_⟩, fun s hs => ?_⟩ ?_
            · simp (disch := first | decide | omega) only [p2_ne]; exact h13
            · rw [hq0]; simp (disch := first | decide | omega) only [p2_row]; exact hD.1
            · rw [hq0]
              rw [rk8_cg (Q := Q) fun j hj => by simp (disch := first | decide | omega) only [p2_ne]]
              simp (disch := first | decide | omega) only [p2_row]; exact hD.2.1
            · rw [hq0]; simp (disch := first | decide | omega) only [p2_row, p2_ne]; exact hD.2.2.1
            · rw [hq0]; simp (disch := first | decide | omega) only [p2_row, p2_ne, p2_same]
            · rw [hq0]; simp (disch := first | decide | omega) only [p2_row, p2_ne, p2_same]
            · rw [hq0]; simp (disch := first | decide | omega) only [p2_row, p2_ne, p2_same]
            · have := hD.2.2.2.2.2 s hs
              unfold SR1 SRp at this
              rw [hq (2000 + 8 * k + 2 + s) (by omega) (by omega), rk8_cg (Q := Q) fun j hj => by simp (disch := first | decide | omega) only [p2_ne]]
              simp (disch := first | decide | omega) only [p2_ne]
              exact this
            · rw [hq0]; simp (disch := first | decide | omega) only [p2_row, p2_ne, p2_same]
          · have hlt : skp T n (dep T n (skp T n (wep T n (skp T n (dep T n (skp T n (wep T n (skp T n (wep T n p))))))))) < n := by
              apply Decidable.byContradiction
              intro hc
              exact hend (by unfold srtS; rw [if_pos (by omega)])
            rw [if_pos hlt] at hO
            exact hO.1 _ I5 rfl hF5 k2.2.1
      · rw [if_pos (by simpa using e5)] at hO
        exact hO.1 _ I3 rfl hF3 c2.2.1
end
