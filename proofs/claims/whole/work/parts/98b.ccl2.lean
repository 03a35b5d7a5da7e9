section
variable {D D' : Mem} {nA nQ nE nT nw nc q a b s p k l ns fb pf m : Nat} {R : RMem} {I I' : Mem} {J : Nat → Nat → Int64} {t v w u x : Int32} {post : Int32 → Pool → Prop} {pst : Pool → Prop} {pox : String → Pool → Prop}
theorem ush_b (n : Nat) (hn : n < 32) (x : Int32) (i : Nat) : btt ((x.toUInt32 >>> ((nI n).toUInt32 &&& Int32.toUInt32 31)).toInt32) i = btt x (n + i) := by
  show (x.toUInt32 >>> ((nI n).toUInt32 &&& Int32.toUInt32 31)).toBitVec.getLsbD i = x.toUInt32.toBitVec.getLsbD (n + i)
  rw [UInt32.toBitVec_shiftRight]
  show (x.toUInt32.toBitVec >>> (((nI n).toUInt32 &&& Int32.toUInt32 31).toBitVec % 32).toNat).getLsbD i = _
  rw [ush_c n hn, BitVec.getLsbD_ushiftRight]
theorem ssh_c : ∀ n, n < 32 → ((nI n &&& 31).toBitVec.smod 32).toNat = n := by decide +kernel
theorem ssh_b (n : Nat) (hn : n < 32) (x : Int32) {i : Nat} (hi : i < 32) : btt (x >>> (nI n &&& 31)) i = if n + i < 32 then btt x (n + i) else btt x 31 := by
  unfold btt
  rw [Int32.toBitVec_shiftRight]
  show (x.toBitVec.sshiftRight ((nI n &&& 31).toBitVec.smod 32).toNat).getLsbD i = _
  rw [ssh_c n hn, BitVec.getLsbD_sshiftRight, BitVec.msb_eq_getLsbD_last]
  simp [hi]
theorem btt_ext {x y : Int32} (h : ∀ i, i < 32 → btt x i = btt y i) : x = y := Int32.toBitVec_inj.mp (BitVec.eq_of_getLsbD_eq (fun i hi => h i hi))
theorem btt_and (x y : Int32) (i : Nat) : btt (x &&& y) i = (btt x i && btt y i) := by unfold btt; rw [Int32.toBitVec_and, BitVec.getLsbD_and]
theorem btt_255 : ∀ i, i < 32 → btt 255 i = decide (i < 8) := by decide +kernel
theorem sh255 {n : Nat} (hn : n ≤ 24) (x : Int32) : ((x.toUInt32 >>> ((nI n).toUInt32 &&& Int32.toUInt32 31)).toInt32 &&& 255) = (x >>> (nI n &&& 31)) &&& 255 := by
  refine btt_ext fun i hi => ?_
  rw [btt_and, btt_and, btt_255 i hi, ush_b n (by omega), ssh_b n (by omega) x hi]
  by_cases h : i < 8
  · rw [if_pos (by omega)]
  · simp [h]
theorem a255 (x : Int32) : ¬ (x &&& 255) = -1 := fun h => by
  have h1 := congrArg (fun z => btt z 31) h
  simp only [btt_and] at h1
  rw [btt_255 31 (by decide)] at h1
  have h2 : btt (-1) 31 = true := by decide +kernel
  rw [h2] at h1
  simp at h1
/-- the tape's rows on both sides -/
def TPD (D I : Mem) (m : Nat) : Prop := I 1 1 = nI m ∧ D 0 27 = nI m ∧ ∀ i, i < m → I 2 i = D 26 i ∧ ¬ D 26 i = -1
def cb1 (I : Mem) (m : Nat) (x : Int32) : Mem := p2 (p2 I 2 m x) 1 1 (nI (m + 1))
theorem TPD_1 (h : TPD D I m) : TPD (pb1 D m v) (cb1 I m (v &&& 255)) (m + 1) := by
  unfold pb1 cb1
  refine ⟨p2_same, p2_same, fun i hi => ?_⟩
  rw [p2_ne (show (2 : Nat) ≠ 1 by decide), p2_ne (show (26 : Nat) ≠ 0 by decide)]
  by_cases e : i = m
  · subst e
    rw [p2_same, p2_same]
    exact ⟨rfl, a255 v⟩
  · rw [p2_row e, p2_row e]; exact h.2.2 i (by omega)
/-- D' and I' are D and I but for the tape -/
def TF (D I D' I' : Mem) : Prop := (∀ c, c ≠ 0 → c ≠ 26 → D' c = D c) ∧ (∀ k, k ≠ 27 → D' 0 k = D 0 k) ∧ ∀ c, c ≠ 1 → c ≠ 2 → I' c = I c
theorem TF_rfl : TF D I D I := ⟨fun _ _ _ => rfl, fun _ _ => rfl, fun _ _ _ => rfl⟩
theorem TF_1 {D0 I0 : Mem} (h : TF D0 I0 D I) : TF D0 I0 (pb1 D m v) (cb1 I m x) := by
  unfold pb1 cb1
  refine ⟨fun c a b => ?_, fun k a => ?_, fun c a b => ?_⟩
  · rw [p2_ne a, p2_ne b]; exact h.1 c a b
  · rw [p2_row a, p2_ne (by decide)]; exact h.2.1 k a
  · rw [p2_ne a, p2_ne b]; exact h.2.2 c a b
theorem v_put {D0 I0 : Mem} {nK : Nat} (hm : m + 4 ≤ 400) (h : TPD D I m) (hF : TF D0 I0 D I) (hp : ∀ I', TPD (pb4 D m v) I' (m + 4) → TF D0 I0 (pb4 D m v) I' → pst (cp nA nK R I' J)) : wX7_put pst (some 1) v (cp nA nK R I J) := by
  have e24 : ((v.toUInt32 >>> ((24 : Int32).toUInt32 &&& Int32.toUInt32 31)).toInt32 &&& 255) = (v >>> ((24 : Int32) &&& 31)) &&& 255 := sh255 (n := 24) (by decide) v
  have e16 : ((v.toUInt32 >>> ((16 : Int32).toUInt32 &&& Int32.toUInt32 31)).toInt32 &&& 255) = (v >>> ((16 : Int32) &&& 31)) &&& 255 := sh255 (n := 16) (by decide) v
  have e8 : ((v.toUInt32 >>> ((8 : Int32).toUInt32 &&& Int32.toUInt32 31)).toInt32 &&& 255) = (v >>> ((8 : Int32) &&& 31)) &&& 255 := sh255 (n := 8) (by decide) v
  have e0 : ((v.toUInt32 >>> ((0 : Int32).toUInt32 &&& Int32.toUInt32 31)).toInt32 &&& 255) = (v >>> ((0 : Int32) &&& 31)) &&& 255 := sh255 (n := 0) (by decide) v
  have one : ∀ (sh : Int32) (n : Nat) (D I : Mem), n < 400 → ¬ sh < 0 → I 1 1 = nI n → ((v.toUInt32 >>> (sh.toUInt32 &&& Int32.toUInt32 31)).toInt32 &&& 255) = (v >>> (sh &&& 31)) &&& 255 → ∀ j, wX7_put_3 pst j (some 1) v (sh + (-8)) (cp nA nK R (cb1 I n ((v >>> (sh &&& 31)) &&& 255)) J) → wX7_put_3 pst (j + 1) (some 1) v sh (cp nA nK R I J) := by
    intro sh n D I hn hs h1 he j hK
    have h400 : ¬ (400 : Int32) ≤ nI n := by rw [show (400 : Int32) = nI 400 from rfl, ile (by decide) (by omega)]; omega
    unfold wX7_put_3
    simp (disch := first | decide | omega) only [brf hs, brT, brF, c_I, c_rc, c_pI, c_pZ, c_aI, c_sI, ca_I, ca_rc, ca_pI, cq_I, cq_rc, cq_pI, cq_R, cq_aR, cs_I, cs_rc, cs_pI, cs_pZ, f0_0, f0_1, f0_2, f0_3, f0_4, f0_5, f0_6, f0_7, f1_0, f3_0, f4_0, f4_1, f7_0, f7_1, f7_2, f7_3, f7_4, f7_5, f7_6, f7_7, f7_8, f7_9, f17_0, f17_1, f17_2, f17_3, f17_4, f17_5, f0_8, f0_8p, f7_10, f7_10p, g9, g9r, g9w, g11, g11r, g11w, g12, g12r, g12w, g13, g13r, g13w, g14, g14r, g14w, g15, g15r, g15w, g25, g25r, g25w, h5, h5w, h5z, h6, h6w, h6z, h8, h8w, h8z, h21, h21w, h21z, h22, h22w, h22z, h23, h23w, fl10, fl16, fl18, fl20, fl24, g11f, g12f, g13f, g14f, g15f, g25f, cN2, cN10, cN16, cN18, cN19, cN20, cN24, z01, z11, ix1, ix2, nI_add, nI_clamp, vin, true_and, and_true, or_true, true_or, h1, brf h400, he, p2_ne]
    exact hK
  have t1 := TPD_1 (v := v >>> ((24 : Int32) &&& 31)) h
  have t2 := TPD_1 (v := v >>> ((16 : Int32) &&& 31)) t1
  have t3 := TPD_1 (v := v >>> ((8 : Int32) &&& 31)) t2
  have t4 := TPD_1 (v := v >>> ((0 : Int32) &&& 31)) t3
  unfold wX7_put
  refine ⟨5, one 24 m D I (by omega) (by decide) h.1 e24 4 (one 16 (m + 1) D _ (by omega) (by decide) t1.1 e16 3 (one 8 (m + 2) D _ (by omega) (by decide) t2.1 e8 2 (one 0 (m + 3) D _ (by omega) (by decide) t3.1 e0 1 ?_)))⟩
  unfold wX7_put_3
  rw [brt (by decide)]
  exact hp _ t4 (TF_1 (TF_1 (TF_1 (TF_1 hF))))
theorem CI_tf (hC : CI D nA nQ nE nT nw nc R I) (hm : m ≤ 400) (hT : TPD D' I' m) (hF : TF D I D' I') : CI D' nA nQ nE m nw nc R I' := by
  have hn := CB_ns hC.1
  have hq : ∀ q, q < nQ → AGQ D D' q := fun q _ => AGQ_r fun c hc => hF.1 c (by revert hc; simp; omega) (by revert hc; simp; omega)
  obtain ⟨⟨b1, b2, b3, b4, b5⟩, hS, hJ⟩ := hC
  obtain ⟨f1, f2, f3⟩ := hF
  refine ⟨⟨CBa_I (CBa_d b1 (f1 6 (by decide) (by decide)) (f1 7 (by decide) (by decide)) (f1 8 (by decide) (by decide)) (f1 9 (by decide) (by decide)) (f1 10 (by decide) (by decide)) (f2 4 (by decide)) (f2 1 (by decide)) (f2 5 (by decide))) (f3 4 (by decide) (by decide)) (fun c h1 h2 => f3 c (by omega) (by omega)), CBq_I (CBq_d b2 hq (f2 11 (by decide))) (by rw [f3 0 (by decide) (by decide)]) (fun c h1 => f3 c (by omega) (by omega)), ⟨hT.2.1, ⟨hT.1, hm, fun i hi => (hT.2.2 i hi).1⟩, fun i hi => (hT.2.2 i hi).2⟩, CBe_I (CBe_d b4 (f1 23 (by decide) (by decide)) (f1 24 (by decide) (by decide)) (f1 25 (by decide) (by decide)) (f2 22 (by decide))) (by rw [f3 0 (by decide) (by decide)]) (fun c h1 h2 => f3 c (by omega) (by omega)), ?_⟩, SWC_I (ag_SWC hq hn hS) (fun q h => by rw [ag_nsq (hq q h)]; exact hn q h) (fun c hc => f3 c (by omega) (by omega)), JCH_I (JCH_d hJ ⟨hq, f1 7 (by decide) (by decide), f1 8 (by decide) (by decide), f1 23 (by decide) (by decide), f1 24 (by decide) (by decide), f1 25 (by decide) (by decide), f2 1 (by decide), f2 2 (by decide)⟩ hn) (by rw [f3 0 (by decide) (by decide)]; exact ⟨rfl, rfl⟩) (fun c hc => f3 c (by omega) (by omega))⟩
  have := CBs_d b5 (D' := D') (f1 3 (by decide) (by decide)) (f2 1 (by decide)) (f2 2 (by decide)) (f2 30 (by decide)) (f1 14 (by decide) (by decide)) (f1 17 (by decide) (by decide))
  unfold CBs at this ⊢
  rw [f3 24 (by decide) (by decide), f3 0 (by decide) (by decide)]
  exact this
theorem d_feed {v1 v2 v3 v4 v5 : Int32} (hC : CI D nA nQ nE nT nw nc R I) (hp : ∀ I', nT + 20 ≤ 400 → CI (pb20 (p2 D 0 0 0) nT v1 v2 v3 v4 v5) nA nQ nE (nT + 20) nw nc R I' → post (nI (nT + 20)) (cp nA (nQ + 2) R I' J)) (hno : ¬ nT + 20 ≤ 400 → post (-1) (cp nA (nQ + 2) R I J)) : wX8_feed post (some 0) v1 v2 v3 v4 v5 (cp nA (nQ + 2) R I J) := by
  have hC1 := CI_tl hC (TL_00 (v := 0))
  obtain ⟨t1, t2, t3⟩ := hC1.1.2.2.1
  have h400 := t2.2.1
  have h0 : TPD (p2 D 0 0 0) I nT := ⟨t2.1, t1, fun i hi => ⟨t2.2.2 i hi, t3 i hi⟩⟩
  have e20 : nI nT + 20 = nI (nT + 20) := ix20 nT
  unfold wX8_feed wX7_hasRoomFor
  simp (disch := first | decide | omega) only [brT, brF, c_I, c_rc, c_pI, c_pZ, c_aI, c_sI, ca_I, ca_rc, ca_pI, cq_I, cq_rc, cq_pI, cq_R, cq_aR, cs_I, cs_rc, cs_pI, cs_pZ, f0_0, f0_1, f0_2, f0_3, f0_4, f0_5, f0_6, f0_7, f1_0, f3_0, f4_0, f4_1, f7_0, f7_1, f7_2, f7_3, f7_4, f7_5, f7_6, f7_7, f7_8, f7_9, f17_0, f17_1, f17_2, f17_3, f17_4, f17_5, f0_8, f0_8p, f7_10, f7_10p, g9, g9r, g9w, g11, g11r, g11w, g12, g12r, g12w, g13, g13r, g13w, g14, g14r, g14w, g15, g15r, g15w, g25, g25r, g25w, h5, h5w, h5z, h6, h6w, h6z, h8, h8w, h8z, h21, h21w, h21z, h22, h22w, h22z, h23, h23w, fl10, fl16, fl18, fl20, fl24, g11f, g12f, g13f, g14f, g15f, g25f, cN2, cN10, cN16, cN18, cN19, cN20, cN24, z01, z11, ix1, ix2, nI_add, nI_clamp, vin, true_and, and_true, or_true, true_or, t2.1, e20]
  rw [show (400 : Int32) = nI 400 from rfl, ilt (by decide) (by omega)]
  refine brc (fun h => ?_) fun h => ?_
  · exact hno (by omega)
  · simp (disch := first | decide | omega) only [brT, brF, c_I, c_rc, c_pI, c_pZ, c_aI, c_sI, ca_I, ca_rc, ca_pI, cq_I, cq_rc, cq_pI, cq_R, cq_aR, cs_I, cs_rc, cs_pI, cs_pZ, f0_0, f0_1, f0_2, f0_3, f0_4, f0_5, f0_6, f0_7, f1_0, f3_0, f4_0, f4_1, f7_0, f7_1, f7_2, f7_3, f7_4, f7_5, f7_6, f7_7, f7_8, f7_9, f17_0, f17_1, f17_2, f17_3, f17_4, f17_5, f0_8, f0_8p, f7_10, f7_10p, g9, g9r, g9w, g11, g11r, g11w, g12, g12r, g12w, g13, g13r, g13w, g14, g14r, g14w, g15, g15r, g15w, g25, g25r, g25w, h5, h5w, h5z, h6, h6w, h6z, h8, h8w, h8z, h21, h21w, h21z, h22, h22w, h22z, h23, h23w, fl10, fl16, fl18, fl20, fl24, g11f, g12f, g13f, g14f, g15f, g25f, cN2, cN10, cN16, cN18, cN19, cN20, cN24, z01, z11, ix1, ix2, nI_add, nI_clamp, vin, true_and, and_true, or_true, true_or, c10]
    refine v_put (by omega) h0 TF_rfl fun I1 a1 f1 => ?_
    simp (disch := first | decide | omega) only [brT, brF, c_I, c_rc, c_pI, c_pZ, c_aI, c_sI, ca_I, ca_rc, ca_pI, cq_I, cq_rc, cq_pI, cq_R, cq_aR, cs_I, cs_rc, cs_pI, cs_pZ, f0_0, f0_1, f0_2, f0_3, f0_4, f0_5, f0_6, f0_7, f1_0, f3_0, f4_0, f4_1, f7_0, f7_1, f7_2, f7_3, f7_4, f7_5, f7_6, f7_7, f7_8, f7_9, f17_0, f17_1, f17_2, f17_3, f17_4, f17_5, f0_8, f0_8p, f7_10, f7_10p, g9, g9r, g9w, g11, g11r, g11w, g12, g12r, g12w, g13, g13r, g13w, g14, g14r, g14w, g15, g15r, g15w, g25, g25r, g25w, h5, h5w, h5z, h6, h6w, h6z, h8, h8w, h8z, h21, h21w, h21z, h22, h22w, h22z, h23, h23w, fl10, fl16, fl18, fl20, fl24, g11f, g12f, g13f, g14f, g15f, g25f, cN2, cN10, cN16, cN18, cN19, cN20, cN24, z01, z11, ix1, ix2, nI_add, nI_clamp, vin, true_and, and_true, or_true, true_or]
    refine v_put (by omega) a1 f1 fun I2 a2 f2 => ?_
    simp (disch := first | decide | omega) only [brT, brF, c_I, c_rc, c_pI, c_pZ, c_aI, c_sI, ca_I, ca_rc, ca_pI, cq_I, cq_rc, cq_pI, cq_R, cq_aR, cs_I, cs_rc, cs_pI, cs_pZ, f0_0, f0_1, f0_2, f0_3, f0_4, f0_5, f0_6, f0_7, f1_0, f3_0, f4_0, f4_1, f7_0, f7_1, f7_2, f7_3, f7_4, f7_5, f7_6, f7_7, f7_8, f7_9, f17_0, f17_1, f17_2, f17_3, f17_4, f17_5, f0_8, f0_8p, f7_10, f7_10p, g9, g9r, g9w, g11, g11r, g11w, g12, g12r, g12w, g13, g13r, g13w, g14, g14r, g14w, g15, g15r, g15w, g25, g25r, g25w, h5, h5w, h5z, h6, h6w, h6z, h8, h8w, h8z, h21, h21w, h21z, h22, h22w, h22z, h23, h23w, fl10, fl16, fl18, fl20, fl24, g11f, g12f, g13f, g14f, g15f, g25f, cN2, cN10, cN16, cN18, cN19, cN20, cN24, z01, z11, ix1, ix2, nI_add, nI_clamp, vin, true_and, and_true, or_true, true_or]
    refine v_put (by omega) a2 f2 fun I3 a3 f3 => ?_
    simp (disch := first | decide | omega) only [brT, brF, c_I, c_rc, c_pI, c_pZ, c_aI, c_sI, ca_I, ca_rc, ca_pI, cq_I, cq_rc, cq_pI, cq_R, cq_aR, cs_I, cs_rc, cs_pI, cs_pZ, f0_0, f0_1, f0_2, f0_3, f0_4, f0_5, f0_6, f0_7, f1_0, f3_0, f4_0, f4_1, f7_0, f7_1, f7_2, f7_3, f7_4, f7_5, f7_6, f7_7, f7_8, f7_9, f17_0, f17_1, f17_2, f17_3, f17_4, f17_5, f0_8, f0_8p, f7_10, f7_10p, g9, g9r, g9w, g11, g11r, g11w, g12, g12r, g12w, g13, g13r, g13w, g14, g14r, g14w, g15, g15r, g15w, g25, g25r, g25w, h5, h5w, h5z, h6, h6w, h6z, h8, h8w, h8z, h21, h21w, h21z, h22, h22w, h22z, h23, h23w, fl10, fl16, fl18, fl20, fl24, g11f, g12f, g13f, g14f, g15f, g25f, cN2, cN10, cN16, cN18, cN19, cN20, cN24, z01, z11, ix1, ix2, nI_add, nI_clamp, vin, true_and, and_true, or_true, true_or]
    refine v_put (by omega) a3 f3 fun I4 a4 f4 => ?_
    simp (disch := first | decide | omega) only [brT, brF, c_I, c_rc, c_pI, c_pZ, c_aI, c_sI, ca_I, ca_rc, ca_pI, cq_I, cq_rc, cq_pI, cq_R, cq_aR, cs_I, cs_rc, cs_pI, cs_pZ, f0_0, f0_1, f0_2, f0_3, f0_4, f0_5, f0_6, f0_7, f1_0, f3_0, f4_0, f4_1, f7_0, f7_1, f7_2, f7_3, f7_4, f7_5, f7_6, f7_7, f7_8, f7_9, f17_0, f17_1, f17_2, f17_3, f17_4, f17_5, f0_8, f0_8p, f7_10, f7_10p, g9, g9r, g9w, g11, g11r, g11w, g12, g12r, g12w, g13, g13r, g13w, g14, g14r, g14w, g15, g15r, g15w, g25, g25r, g25w, h5, h5w, h5z, h6, h6w, h6z, h8, h8w, h8z, h21, h21w, h21z, h22, h22w, h22z, h23, h23w, fl10, fl16, fl18, fl20, fl24, g11f, g12f, g13f, g14f, g15f, g25f, cN2, cN10, cN16, cN18, cN19, cN20, cN24, z01, z11, ix1, ix2, nI_add, nI_clamp, vin, true_and, and_true, or_true, true_or]
    refine v_put (by omega) a4 f4 fun I5 a5 f5 => ?_
    simp (disch := first | decide | omega) only [brT, brF, c_I, c_rc, c_pI, c_pZ, c_aI, c_sI, ca_I, ca_rc, ca_pI, cq_I, cq_rc, cq_pI, cq_R, cq_aR, cs_I, cs_rc, cs_pI, cs_pZ, f0_0, f0_1, f0_2, f0_3, f0_4, f0_5, f0_6, f0_7, f1_0, f3_0, f4_0, f4_1, f7_0, f7_1, f7_2, f7_3, f7_4, f7_5, f7_6, f7_7, f7_8, f7_9, f17_0, f17_1, f17_2, f17_3, f17_4, f17_5, f0_8, f0_8p, f7_10, f7_10p, g9, g9r, g9w, g11, g11r, g11w, g12, g12r, g12w, g13, g13r, g13w, g14, g14r, g14w, g15, g15r, g15w, g25, g25r, g25w, h5, h5w, h5z, h6, h6w, h6z, h8, h8w, h8z, h21, h21w, h21z, h22, h22w, h22z, h23, h23w, fl10, fl16, fl18, fl20, fl24, g11f, g12f, g13f, g14f, g15f, g25f, cN2, cN10, cN16, cN18, cN19, cN20, cN24, z01, z11, ix1, ix2, nI_add, nI_clamp, vin, true_and, and_true, or_true, true_or, a5.1]
    exact hp I5 (by omega) (CI_tf hC1 (by omega) a5 f5)
theorem CBs_I (h : CBs D I) (h24 : I' 24 = I 24) (h11 : I' 0 11 = I 0 11) (h12 : I' 0 12 = I 0 12) (h13 : I' 0 13 = I 0 13) : CBs D I' := by unfold CBs at h ⊢; rw [h24, h11, h12, h13]; exact h
theorem CBt_I (h : CBt D nT I) (h1 : I' 1 = I 1) (h2 : I' 2 = I 2) : CBt D nT I' := ⟨h.1, TP_cg h.2.1 h1 h2, h.2.2⟩
theorem d_gap (hC : CI D nA nQ nE nT nw nc R I) (hp : ∀ I', 0 ≤ v ∧ v ≤ 100000 → CI (p2 (p2 D 0 0 0) 0 2 v) nA nQ nE nT nw (nc + 1) R I' → pst (cp nA (nQ + 2) R I' J)) (hno : ¬ (0 ≤ v ∧ v ≤ 100000) → pox "java/lang/IllegalArgumentException" (cp nA (nQ + 2) R I J)) : wX8_gap pox pst (some 0) v (cp nA (nQ + 2) R I J) := by
  have hC1 := CI_tl hC (TL_00 (v := 0))
  have hn := CB_ns hC1.1
  have hq : ∀ q, q < nQ → AGQ (p2 D 0 0 0) (p2 (p2 D 0 0 0) 0 2 v) q := fun q _ => AGQ_r fun c hc => p2_ne (by revert hc; simp; omega)
  obtain ⟨⟨b1, b2, b3, b4, b5⟩, hS, hJ⟩ := hC1
  have e14 : I 0 14 = nI nc := hJ.1
  unfold wX8_gap wX8_gap_10
  simp (disch := first | decide | omega) only [brT, brF, c_I, c_rc, c_pI, c_pZ, c_aI, c_sI, ca_I, ca_rc, ca_pI, cq_I, cq_rc, cq_pI, cq_R, cq_aR, cs_I, cs_rc, cs_pI, cs_pZ, f0_0, f0_1, f0_2, f0_3, f0_4, f0_5, f0_6, f0_7, f1_0, f3_0, f4_0, f4_1, f7_0, f7_1, f7_2, f7_3, f7_4, f7_5, f7_6, f7_7, f7_8, f7_9, f17_0, f17_1, f17_2, f17_3, f17_4, f17_5, f0_8, f0_8p, f7_10, f7_10p, g9, g9r, g9w, g11, g11r, g11w, g12, g12r, g12w, g13, g13r, g13w, g14, g14r, g14w, g15, g15r, g15w, g25, g25r, g25w, h5, h5w, h5z, h6, h6w, h6z, h8, h8w, h8z, h21, h21w, h21z, h22, h22w, h22z, h23, h23w, fl10, fl16, fl18, fl20, fl24, g11f, g12f, g13f, g14f, g15f, g25f, cN2, cN10, cN16, cN18, cN19, cN20, cN24, z01, z11, ix1, ix2, nI_add, nI_clamp, vin, true_and, and_true, or_true, true_or, p2_row, e14]
  refine brc (fun h => hno fun z => Int32.not_le.mpr h z.1) fun h => brc (fun h2 => ?_) fun h2 => hno fun z => h2 z.2
  have hc : ∀ c, c ≠ 0 → p2 (p2 I 0 12 v) 0 14 (nI (nc + 1)) c = I c := fun c hc => by rw [p2_ne hc, p2_ne hc]
  have h0 : ∀ k, k ≠ 12 → k ≠ 14 → p2 (p2 I 0 12 v) 0 14 (nI (nc + 1)) 0 k = I 0 k := fun k a b => by rw [p2_row b, p2_row a]
  refine hp _ ⟨Int32.not_lt.mp h, h2⟩ ⟨⟨CBa_I (CBa_d b1 (p2_ne (by decide)) (p2_ne (by decide)) (p2_ne (by decide)) (p2_ne (by decide)) (p2_ne (by decide)) (p2_row (by decide)) (p2_row (by decide)) (p2_row (by decide))) (hc 4 (by decide)) (fun c h1 h2 => hc c (by omega)), CBq_I (CBq_d b2 hq (p2_row (by decide))) (h0 9 (by decide) (by decide)) (fun c h1 => hc c (by omega)), CBt_I (CBt_d b3 (p2_ne (by decide)) (p2_row (by decide))) (hc 1 (by decide)) (hc 2 (by decide)), CBe_I (CBe_d b4 (p2_ne (by decide)) (p2_ne (by decide)) (p2_ne (by decide)) (p2_row (by decide))) (h0 10 (by decide) (by decide)) (fun c h1 h2 => hc c (by omega)), ?_⟩, SWC_I (ag_SWC hq hn hS) (fun q h => by rw [ag_nsq (hq q h)]; exact hn q h) (fun c h => hc c (by omega)), JCH_up hJ p2_same (h0 15 (by decide) (by decide))⟩
  obtain ⟨s1, s2, s3, s4, s5, s6⟩ := b5
  refine ⟨fun h hh => ?_, ?_, ?_, ?_, ?_, ?_⟩
  · rw [hc 24 (by decide), p2_ne (by decide)]; exact s1 h hh
  · rw [h0 11 (by decide) (by decide), p2_row (by decide)]; exact s2
  · rw [p2_row (by decide), p2_same, p2_same]
  · rw [h0 13 (by decide) (by decide), p2_row (by decide)]; exact s4
  · rw [p2_same]; exact h
  · unfold BZ at s6 ⊢; rw [p2_ne (by decide), p2_ne (show (17 : Nat) ≠ 0 by decide)]; exact s6
theorem d_ticks (hC : CI D nA nQ nE nT nw nc R I) (hp : ∀ I' nw', 0 ≤ v ∧ v ≤ 100000 → CI (p2 (p2 D 0 0 0) 0 1 (if D 0 1 + v ≤ 1000000 then D 0 1 + v else 1000000)) nA nQ nE nT nw' (nc + 1) R I' → post (if D 0 1 + v ≤ 1000000 then D 0 1 + v else 1000000) (cp nA (nQ + 2) R I' J)) (hno : ¬ (0 ≤ v ∧ v ≤ 100000) → pox "java/lang/IllegalArgumentException" (cp nA (nQ + 2) R I J)) : wX8_ticks pox post (some 0) v (cp nA (nQ + 2) R I J) := by
  have hC1 := CI_tl hC (TL_00 (v := 0))
  have hn := CB_ns hC1.1
  have h11 : I 0 11 = D 0 1 := hC.1.2.2.2.2.2.1
  have h01 : D 0 1 = nI nw := hC.1.1.2.2.1
  have hnw := hC.1.1.1.2.1
  obtain ⟨⟨b1, b2, b3, b4, b5⟩, hS, hJ⟩ := hC1
  have e14 : I 0 14 = nI nc := hJ.1
  unfold wX8_ticks wX8_ticks_10
  simp (disch := first | decide | omega) only [brT, brF, c_I, c_rc, c_pI, c_pZ, c_aI, c_sI, ca_I, ca_rc, ca_pI, cq_I, cq_rc, cq_pI, cq_R, cq_aR, cs_I, cs_rc, cs_pI, cs_pZ, f0_0, f0_1, f0_2, f0_3, f0_4, f0_5, f0_6, f0_7, f1_0, f3_0, f4_0, f4_1, f7_0, f7_1, f7_2, f7_3, f7_4, f7_5, f7_6, f7_7, f7_8, f7_9, f17_0, f17_1, f17_2, f17_3, f17_4, f17_5, f0_8, f0_8p, f7_10, f7_10p, g9, g9r, g9w, g11, g11r, g11w, g12, g12r, g12w, g13, g13r, g13w, g14, g14r, g14w, g15, g15r, g15w, g25, g25r, g25w, h5, h5w, h5z, h6, h6w, h6z, h8, h8w, h8z, h21, h21w, h21z, h22, h22w, h22z, h23, h23w, fl10, fl16, fl18, fl20, fl24, g11f, g12f, g13f, g14f, g15f, g25f, cN2, cN10, cN16, cN18, cN19, cN20, cN24, z01, z11, ix1, ix2, nI_add, nI_clamp, vin, true_and, and_true, or_true, true_or, p2_row, p2_same, e14, h11]
  refine brc (fun h => hno fun z => Int32.not_le.mpr h z.1) fun h => brc (fun h2 => ?_) fun h2 => hno fun z => h2 z.2
  obtain ⟨m, hm, rfl⟩ := nI_of h
  have hm2 := h2
  rw [show (100000 : Int32) = nI 100000 from rfl, ile hm (by decide)] at hm2
  rw [h01, nI_add] at hp ⊢
  obtain ⟨nw', hw1, hw2, hw3, hw4⟩ : ∃ nw', (if nI (nw + m) ≤ 1000000 then nI (nw + m) else 1000000) = nI nw' ∧ (if (1000000 : Int32) < nI (nw + m) then (1000000 : Int32) else nI (nw + m)) = nI nw' ∧ nw ≤ nw' ∧ nw' ≤ 1000000 := by
    have e1 : (nI (nw + m) ≤ (1000000 : Int32)) ↔ nw + m ≤ 1000000 := by rw [show (1000000 : Int32) = nI 1000000 from rfl, ile (by omega) (by decide)]
    have e2 : ((1000000 : Int32) < nI (nw + m)) ↔ 1000000 < nw + m := by rw [show (1000000 : Int32) = nI 1000000 from rfl, ilt (by decide) (by omega)]
    by_cases e : nw + m ≤ 1000000
    · exact ⟨nw + m, by rw [if_pos (e1.mpr e)], by rw [if_neg (fun z => by have := e2.mp z; omega)], by omega, e⟩
    · exact ⟨1000000, by rw [if_neg (fun z => e (e1.mp z))]; rfl, by rw [if_pos (e2.mpr (by omega))]; rfl, hnw, Nat.le_refl _⟩
  rw [hw1] at hp
  rw [hw2]
  have hq : ∀ q, q < nQ → AGQ (p2 D 0 0 0) (p2 (p2 D 0 0 0) 0 1 (nI nw')) q := fun q _ => AGQ_r fun c hc => p2_ne (by revert hc; simp; omega)
  have hc : ∀ c, c ≠ 0 → p2 (p2 I 0 11 (nI nw')) 0 14 (nI (nc + 1)) c = I c := fun c hc => by rw [p2_ne hc, p2_ne hc]
  have h0 : ∀ k, k ≠ 11 → k ≠ 14 → p2 (p2 I 0 11 (nI nw')) 0 14 (nI (nc + 1)) 0 k = I 0 k := fun k a b => by rw [p2_row b, p2_row a]
  refine hp _ nw' ⟨Int32.not_lt.mp h, h2⟩ ⟨⟨?_, CBq_I (CBq_d b2 hq (p2_row (by decide))) (h0 9 (by decide) (by decide)) (fun c h1 => hc c (by omega)), CBt_I (CBt_d b3 (p2_ne (by decide)) (p2_row (by decide))) (hc 1 (by decide)) (hc 2 (by decide)), CBe_I (CBe_d b4 (p2_ne (by decide)) (p2_ne (by decide)) (p2_ne (by decide)) (p2_row (by decide))) (h0 10 (by decide) (by decide)) (fun c h1 h2 => hc c (by omega)), ?_⟩, SWC_I (ag_SWC hq hn hS) (fun q h => by rw [ag_nsq (hq q h)]; exact hn q h) (fun c h => hc c (by omega)), JCH_up hJ p2_same (h0 15 (by decide) (by decide))⟩
  · refine CBa_I (I := I) ?_ (hc 4 (by decide)) (fun c h1 h2 => hc c (by omega))
    obtain ⟨a1, a2, a3, a4, a5, a6⟩ := b1
    have hx : CBa (p2 (p2 D 0 0 0) 0 1 ((p2 D 0 0 0) 0 1)) nA nw R I := CBa_d ⟨a1, a2, a3, a4, a5, a6⟩ (p2_ne (by decide)) (p2_ne (by decide)) (p2_ne (by decide)) (p2_ne (by decide)) (p2_ne (by decide)) (p2_row (by decide)) p2_same (p2_row (by decide))
    obtain ⟨c1, c2, c3, c4, c5, c6⟩ := hx
    refine ⟨⟨c1.1, hw4, fun i hi => ?_⟩, ?_, p2_same, fun i hi => ?_, fun k hk => ?_, ?_⟩
    · obtain ⟨x1, x2, x3, x4, x5⟩ := a1.2.2 i hi
      unfold tk td vv at *
      rw [p2_ne (show (8 : Nat) ≠ 0 by decide), p2_ne (show (9 : Nat) ≠ 0 by decide), p2_ne (show (7 : Nat) ≠ 0 by decide)]
      exact ⟨x1, x2, x3, by omega, x5⟩
    · rw [p2_row (by decide)]; exact a2
    · have := a4 i hi
      have hfam : fam (p2 (p2 D 0 0 0) 0 1 (nI nw')) i = fam (p2 D 0 0 0) i := by unfold fam alk; rw [p2_ne (show (6 : Nat) ≠ 0 by decide), p2_ne (show (7 : Nat) ≠ 0 by decide)]
      rw [hfam, p2_ne (show (6 : Nat) ≠ 0 by decide), p2_ne (show (7 : Nat) ≠ 0 by decide), p2_ne (show (8 : Nat) ≠ 0 by decide), p2_ne (show (9 : Nat) ≠ 0 by decide), p2_ne (show (10 : Nat) ≠ 0 by decide)]
      exact this
    · rw [ag_byT (p2_ne (by decide))]; exact a5 k hk
    · unfold LG at a6 ⊢
      rw [p2_row (by decide), p2_ne (show (8 : Nat) ≠ 0 by decide), p2_ne (show (9 : Nat) ≠ 0 by decide)]
      exact a6
  · obtain ⟨s1, s2, s3, s4, s5, s6⟩ := b5
    refine ⟨fun h hh => ?_, ?_, ?_, ?_, ?_, ?_⟩
    · rw [hc 24 (by decide), p2_ne (by decide)]; exact s1 h hh
    · rw [p2_row (by decide), p2_same, p2_same]
    · rw [h0 12 (by decide) (by decide), p2_row (by decide)]; exact s3
    · rw [h0 13 (by decide) (by decide), p2_row (by decide)]; exact s4
    · rw [p2_row (by decide)]; exact s5
    · unfold BZ at s6 ⊢; rw [p2_ne (by decide), p2_ne (show (17 : Nat) ≠ 0 by decide)]; exact s6
end
