section
variable {D D' : Mem} {nA nQ nE nT nw nc q a b s p k l ns fb pf m nK : Nat} {R : RMem} {I I' : Mem} {J : Nat → Nat → Int64} {t v w u x y : Int32} {post : Int32 → Pool → Prop} {pst : Pool → Prop} {pox : String → Pool → Prop}
theorem d_may (hC : CI D nA nQ nE nT nw nc R I) (hp : ∀ I', 0 ≤ v ∧ v ≤ 3 → 0 ≤ w ∧ w ≤ 7 → CI (p2 (p2 D 0 0 0) 3 v.toNatClampNeg w) nA nQ nE nT nw nc R I' → pst (cp nA (nQ + 2) R I' J)) (h1 : ¬ (0 ≤ v ∧ v ≤ 3) → pox "java/lang/IndexOutOfBoundsException" (cp nA (nQ + 2) R I J)) (h2 : 0 ≤ v ∧ v ≤ 3 → ¬ (0 ≤ w ∧ w ≤ 7) → pox "java/lang/IllegalArgumentException" (cp nA (nQ + 2) R I J)) : wX8_may pox pst (some 0) v w (cp nA (nQ + 2) R I J) := by
  have hC1 := CI_tl hC (TL_00 (v := 0))
  have hn := CB_ns hC1.1
  have e4 : (0 ≤ v ∧ v < 4) ↔ (0 ≤ v ∧ v ≤ 3) := by
    rw [Int32.lt_iff_toInt_lt, Int32.le_iff_toInt_le, Int32.le_iff_toInt_le]
    have a1 : (4 : Int32).toInt = 4 := by decide
    have a2 : (3 : Int32).toInt = 3 := by decide
    omega
  unfold wX8_may wX8_may_28
  rw [v_below, bI_br]
  refine brc (fun h => ?_) fun h => h1 fun z => h (e4.mpr z)
  have h3 := e4.mp h
  obtain ⟨m, hm, rfl⟩ := nI_of (Int32.not_lt.mpr h.1)
  have hm4 := h.2
  rw [show (4 : Int32) = nI 4 from rfl, ilt hm (by decide)] at hm4
  simp (disch := first | decide | omega) only [brT, brF, c_I, c_rc, c_pI, c_pZ, c_aI, c_sI, ca_I, ca_rc, ca_pI, cq_I, cq_rc, cq_pI, cq_R, cq_aR, cs_I, cs_rc, cs_pI, cs_pZ, f0_0, f0_1, f0_2, f0_3, f0_4, f0_5, f0_6, f0_7, f1_0, f3_0, f4_0, f4_1, f7_0, f7_1, f7_2, f7_3, f7_4, f7_5, f7_6, f7_7, f7_8, f7_9, f17_0, f17_1, f17_2, f17_3, f17_4, f17_5, f0_8, f0_8p, f7_10, f7_10p, g9, g9r, g9w, g11, g11r, g11w, g12, g12r, g12w, g13, g13r, g13w, g14, g14r, g14w, g15, g15r, g15w, g25, g25r, g25w, h5, h5w, h5z, h6, h6w, h6z, h8, h8w, h8z, h21, h21w, h21z, h22, h22w, h22z, h23, h23w, fl10, fl16, fl18, fl20, fl24, g11f, g12f, g13f, g14f, g15f, g25f, cN2, cN10, cN16, cN18, cN19, cN20, cN24, z01, z11, ix1, ix2, nI_add, nI_clamp, vin, true_and, and_true, or_true, true_or]
  refine brc (fun g => h2 h3 fun z => Int32.not_le.mpr g z.1) fun g => brc (fun g2 => ?_) fun g2 => h2 h3 fun z => g2 z.2
  rw [nI_clamp hm] at hp
  have hq : ∀ q, q < nQ → AGQ (p2 D 0 0 0) (p2 (p2 D 0 0 0) 3 m w) q := fun q _ => AGQ_r fun c hc => p2_ne (by revert hc; simp; omega)
  obtain ⟨⟨b1, b2, b3, b4, b5⟩, hS, hJ⟩ := hC1
  have hc : ∀ c, c ≠ 24 → p2 I 24 m w c = I c := fun c hc => p2_ne hc
  have h00 : p2 (p2 D 0 0 0) 3 m w 0 = p2 D 0 0 0 0 := p2_ne (by decide)
  refine hp _ h3 ⟨Int32.not_lt.mp g, g2⟩ ⟨⟨CBa_I (CBa_d b1 (p2_ne (by decide)) (p2_ne (by decide)) (p2_ne (by decide)) (p2_ne (by decide)) (p2_ne (by decide)) (congrFun h00 4) (congrFun h00 1) (congrFun h00 5)) (hc 4 (by decide)) (fun c h1 h2 => hc c (by omega)), CBq_I (CBq_d b2 hq (congrFun h00 11)) (congrFun (hc 0 (by decide)) 9) (fun c h1 => hc c (by omega)), CBt_I (CBt_d b3 (p2_ne (by decide)) (congrFun h00 27)) (hc 1 (by decide)) (hc 2 (by decide)), CBe_I (CBe_d b4 (p2_ne (by decide)) (p2_ne (by decide)) (p2_ne (by decide)) (congrFun h00 22)) (congrFun (hc 0 (by decide)) 10) (fun c h1 h2 => hc c (by omega)), ?_⟩, SWC_I (ag_SWC hq hn hS) (fun q h => by rw [ag_nsq (hq q h)]; exact hn q h) (fun c h => hc c (by omega)), JCH_I (JCH_d hJ ⟨hq, p2_ne (by decide), p2_ne (by decide), p2_ne (by decide), p2_ne (by decide), p2_ne (by decide), congrFun h00 1, congrFun h00 2⟩ hn) ⟨congrFun (hc 0 (by decide)) 14, congrFun (hc 0 (by decide)) 15⟩ (fun c h => hc c (by omega))⟩
  obtain ⟨s1, s2, s3, s4, s5, s6⟩ := b5
  refine ⟨fun h hh => ?_, ?_, ?_, ?_, ?_, ?_⟩
  · by_cases e : h = m
    · rw [e, p2_same, p2_same]
    · rw [p2_row e, p2_row e]; exact s1 h hh
  · rw [hc 0 (by decide), h00]; exact s2
  · rw [hc 0 (by decide), h00]; exact s3
  · rw [hc 0 (by decide), h00]; exact s4
  · rw [h00]; exact s5
  · unfold BZ at s6 ⊢; rw [p2_ne (by decide), p2_ne (show (17 : Nat) ≠ 3 by decide)]; exact s6
theorem d_exempt (hC : CI D nA nQ nE nT nw nc R I) (hp : ∀ I' q, q < nQ → v = nI q → (0 ≤ w ∧ w ≤ 30) ∧ 0 ≤ u ∧ u ≤ 1000000 → nE < 40 → CI (exM D nE v w u) nA nQ (nE + 1) nT nw (nc + 1) R I' → post (nI (nE + 1)) (cp nA (nQ + 2) R I' J)) (h40 : 0 ≤ v ∧ v < D 0 11 → (0 ≤ w ∧ w ≤ 30) ∧ 0 ≤ u ∧ u ≤ 1000000 → nE = 40 → post (-1) (cp nA (nQ + 2) R I J)) (h1 : ¬ (0 ≤ v ∧ v < D 0 11) → pox "java/lang/IndexOutOfBoundsException" (cp nA (nQ + 2) R I J)) (h2 : 0 ≤ v ∧ v < D 0 11 → ¬ ((0 ≤ w ∧ w ≤ 30) ∧ 0 ≤ u ∧ u ≤ 1000000) → pox "java/lang/IllegalArgumentException" (cp nA (nQ + 2) R I J)) : wX8_exempt pox post (some 0) v w u (cp nA (nQ + 2) R I J) := by
  have h8 := hC.1.2.1.1
  have h11 := hC.1.2.1.2.1
  unfold wX8_exempt wX8_exempt_25
  simp (disch := first | decide | omega) only [brT, brF, c_I, c_rc, c_pI, c_pZ, c_aI, c_sI, ca_I, ca_rc, ca_pI, cq_I, cq_rc, cq_pI, cq_R, cq_aR, cs_I, cs_rc, cs_pI, cs_pZ, f0_0, f0_1, f0_2, f0_3, f0_4, f0_5, f0_6, f0_7, f1_0, f3_0, f4_0, f4_1, f7_0, f7_1, f7_2, f7_3, f7_4, f7_5, f7_6, f7_7, f7_8, f7_9, f17_0, f17_1, f17_2, f17_3, f17_4, f17_5, f0_8, f0_8p, f7_10, f7_10p, g9, g9r, g9w, g11, g11r, g11w, g12, g12r, g12w, g13, g13r, g13w, g14, g14r, g14w, g15, g15r, g15w, g25, g25r, g25w, h5, h5w, h5z, h6, h6w, h6z, h8, h8w, h8z, h21, h21w, h21z, h22, h22w, h22z, h23, h23w, fl10, fl16, fl18, fl20, fl24, g11f, g12f, g13f, g14f, g15f, g25f, cN2, cN10, cN16, cN18, cN19, cN20, cN24, z01, z11, ix1, ix2, nI_add, nI_clamp, vin, true_and, and_true, or_true, true_or]
  refine v_qAt hC.1 h1 fun q hq e => ?_
  subst e
  have hv : 0 ≤ nI q ∧ nI q < D 0 11 := ⟨nI_pos' (by omega), by rw [h11, ilt (by omega) (by omega)]; exact hq⟩
  have e31 : (0 ≤ w ∧ w < 31) ↔ (0 ≤ w ∧ w ≤ 30) := by
    rw [Int32.lt_iff_toInt_lt, Int32.le_iff_toInt_le, Int32.le_iff_toInt_le]
    have a1 : (31 : Int32).toInt = 31 := by decide
    have a2 : (30 : Int32).toInt = 30 := by decide
    omega
  rw [v_below, bI_br]
  refine brc (fun h => ?_) fun h => h2 hv fun z => h (e31.mpr z.1)
  refine brc (fun g => h2 hv fun z => Int32.not_le.mpr g z.2.1) fun g => brc (fun g2 => ?_) fun g2 => h2 hv fun z => g2 z.2.2
  have hok : (0 ≤ w ∧ w ≤ 30) ∧ 0 ≤ u ∧ u ≤ 1000000 := ⟨e31.mp h, Int32.not_lt.mp g, g2⟩
  obtain ⟨x1, x2, x3, x4⟩ := hC.1.2.2.2.1
  obtain ⟨m, hm, rfl⟩ := nI_of (Int32.not_lt.mpr h.1)
  have hm31 := h.2
  rw [show (31 : Int32) = nI 31 from rfl, ilt hm (by decide)] at hm31
  have e14 : I 0 14 = nI nc := hC.2.2.1
  simp (disch := first | decide | omega) only [brT, brF, c_I, c_rc, c_pI, c_pZ, c_aI, c_sI, ca_I, ca_rc, ca_pI, cq_I, cq_rc, cq_pI, cq_R, cq_aR, cs_I, cs_rc, cs_pI, cs_pZ, f0_0, f0_1, f0_2, f0_3, f0_4, f0_5, f0_6, f0_7, f1_0, f3_0, f4_0, f4_1, f7_0, f7_1, f7_2, f7_3, f7_4, f7_5, f7_6, f7_7, f7_8, f7_9, f17_0, f17_1, f17_2, f17_3, f17_4, f17_5, f0_8, f0_8p, f7_10, f7_10p, g9, g9r, g9w, g11, g11r, g11w, g12, g12r, g12w, g13, g13r, g13w, g14, g14r, g14w, g15, g15r, g15w, g25, g25r, g25w, h5, h5w, h5z, h6, h6w, h6z, h8, h8w, h8z, h21, h21w, h21z, h22, h22w, h22z, h23, h23w, fl10, fl16, fl18, fl20, fl24, g11f, g12f, g13f, g14f, g15f, g25f, cN2, cN10, cN16, cN18, cN19, cN20, cN24, z01, z11, ix1, ix2, nI_add, nI_clamp, vin, true_and, and_true, or_true, true_or, x3]
  rw [show (40 : Int32) = nI 40 from rfl, ilt (by omega) (by decide)]
  refine brc (fun g3 => ?_) fun g3 => h40 hv hok (by omega)
  simp (disch := first | decide | omega) only [brT, brF, c_I, c_rc, c_pI, c_pZ, c_aI, c_sI, ca_I, ca_rc, ca_pI, cq_I, cq_rc, cq_pI, cq_R, cq_aR, cs_I, cs_rc, cs_pI, cs_pZ, f0_0, f0_1, f0_2, f0_3, f0_4, f0_5, f0_6, f0_7, f1_0, f3_0, f4_0, f4_1, f7_0, f7_1, f7_2, f7_3, f7_4, f7_5, f7_6, f7_7, f7_8, f7_9, f17_0, f17_1, f17_2, f17_3, f17_4, f17_5, f0_8, f0_8p, f7_10, f7_10p, g9, g9r, g9w, g11, g11r, g11w, g12, g12r, g12w, g13, g13r, g13w, g14, g14r, g14w, g15, g15r, g15w, g25, g25r, g25w, h5, h5w, h5z, h6, h6w, h6z, h8, h8w, h8z, h21, h21w, h21z, h22, h22w, h22z, h23, h23w, fl10, fl16, fl18, fl20, fl24, g11f, g12f, g13f, g14f, g15f, g25f, cN2, cN10, cN16, cN18, cN19, cN20, cN24, z01, z11, ix1, ix2, nI_add, nI_clamp, vin, true_and, and_true, or_true, true_or, p2_ne, p2_row, p2_same, x3, e14]
  have hC1 := CI_tl hC (TL_00 (v := 0))
  have hn := CB_ns hC1.1
  have ex : ∀ c, c ≠ 0 → c ≠ 23 → c ≠ 24 → c ≠ 25 → exM D nE (nI q) (nI m) u c = p2 D 0 0 0 c := fun c a b d e => by
    unfold exM
    rw [p2_ne a, p2_ne e, p2_ne d, p2_ne b]
  have ex0 : ∀ k, k ≠ 22 → exM D nE (nI q) (nI m) u 0 k = p2 D 0 0 0 0 k := fun k a => by
    unfold exM
    rw [p2_row a, p2_ne (by decide), p2_ne (by decide), p2_ne (by decide)]
  have e23 : exM D nE (nI q) (nI m) u 23 = p2 (p2 D 0 0 0) 23 nE (nI q) 23 := by unfold exM; rw [p2_ne (by decide), p2_ne (by decide), p2_ne (by decide)]
  have e24 : ∀ j, exM D nE (nI q) (nI m) u 24 j = if j = nE then nI m else p2 D 0 0 0 24 j := fun j => by
    unfold exM
    rw [p2_ne (show (24 : Nat) ≠ 0 by decide), p2_ne (show (24 : Nat) ≠ 25 by decide)]
    by_cases e : j = nE
    · rw [e, p2_same, if_pos rfl]
    · rw [p2_row e, if_neg e, p2_ne (by decide)]
  have e25 : ∀ j, exM D nE (nI q) (nI m) u 25 j = if j = nE then u else p2 D 0 0 0 25 j := fun j => by
    unfold exM
    rw [p2_ne (show (25 : Nat) ≠ 0 by decide)]
    by_cases e : j = nE
    · rw [e, p2_same, if_pos rfl]
    · rw [p2_row e, if_neg e, p2_ne (by decide), p2_ne (by decide)]
  have hq' : ∀ q', q' < nQ → AGQ (p2 D 0 0 0) (exM D nE (nI q) (nI m) u) q' := fun q' _ => AGQ_r fun c hc => ex c (by revert hc; simp; omega) (by revert hc; simp; omega) (by revert hc; simp; omega) (by revert hc; simp; omega)
  obtain ⟨⟨b1, b2, b3, b4, b5⟩, hS, hJ⟩ := hC1
  generalize hIn : (if I (87 + q) m < u then u else I (87 + q) m) = nv
  have hc : ∀ c, c ≠ 0 → c ≠ 87 + q → p2 (p2 (p2 I (87 + q) m nv) 0 10 (nI (nE + 1))) 0 14 (nI (nc + 1)) c = I c := fun c a b => by rw [p2_ne a, p2_ne a, p2_ne b]
  have h0 : ∀ k, k ≠ 10 → k ≠ 14 → p2 (p2 (p2 I (87 + q) m nv) 0 10 (nI (nE + 1))) 0 14 (nI (nc + 1)) 0 k = I 0 k := fun k a b => by rw [p2_row b, p2_row a, p2_ne (by omega)]
  refine hp _ q hq rfl hok g3 ⟨⟨CBa_I (CBa_d b1 (ex 6 (by decide) (by decide) (by decide) (by decide)) (ex 7 (by decide) (by decide) (by decide) (by decide)) (ex 8 (by decide) (by decide) (by decide) (by decide)) (ex 9 (by decide) (by decide) (by decide) (by decide)) (ex 10 (by decide) (by decide) (by decide) (by decide)) (ex0 4 (by decide)) (ex0 1 (by decide)) (ex0 5 (by decide))) (hc 4 (by decide) (by omega)) (fun c h1 h2 => hc c (by omega) (by omega)), CBq_I (CBq_d b2 hq' (ex0 11 (by decide))) (h0 9 (by decide) (by decide)) (fun c h1 => hc c (by omega) (by omega)), CBt_I (CBt_d b3 (ex 26 (by decide) (by decide) (by decide) (by decide)) (ex0 27 (by decide))) (hc 1 (by decide) (by omega)) (hc 2 (by decide) (by omega)), ⟨?_, by omega, ?_, fun q' w' hq1 hw1 => ?_⟩, ?_⟩, SWC_I (ag_SWC hq' hn hS) (fun q h => by rw [ag_nsq (hq' q h)]; exact hn q h) (fun c h => hc c (by omega) (by omega)), JCH_up hJ p2_same (h0 15 (by decide) (by decide))⟩
  · unfold exM; rw [p2_same]
  · rw [p2_row (by decide), p2_same]
  · rw [p2_ne (by omega), p2_ne (by omega), e23]
    obtain ⟨z1, z2⟩ := x4 q' w' hq1 hw1
    have d23 : ∀ j, p2 (p2 D 0 0 0) 23 nE (nI q) 23 j = if j = nE then nI q else D 23 j := fun j => by
      by_cases e : j = nE
      · rw [e, p2_same, if_pos rfl]
      · rw [p2_row e, if_neg e, p2_ne (by decide)]
    have d24 : ∀ j, p2 D 0 0 (0 : Int32) 24 j = D 24 j := fun j => by rw [p2_ne (by decide)]
    have d25 : ∀ j, p2 D 0 0 (0 : Int32) 25 j = D 25 j := fun j => by rw [p2_ne (by decide)]
    by_cases e : q' = q ∧ w' = m
    · obtain ⟨rfl, rfl⟩ := e
      rw [p2_same]
      have hle : I (87 + q') w' ≤ nv ∧ u ≤ nv ∧ (nv = u ∨ nv = I (87 + q') w') := by
        rw [← hIn]
        by_cases c : I (87 + q') w' < u
        · rw [if_pos c]; exact ⟨Int32.le_of_lt c, Int32.le_refl _, .inl rfl⟩
        · rw [if_neg c]; exact ⟨Int32.le_refl _, Int32.not_lt.mp c, .inr rfl⟩
      refine ⟨fun k hk k1 k2 => ?_, ?_⟩
      · rw [d23] at k1
        rw [e24] at k2
        rw [e25]
        by_cases ek : k = nE
        · rw [if_pos ek]; exact hle.2.1
        · rw [if_neg ek] at k1 k2 ⊢
          rw [d24] at k2
          rw [d25]
          exact Int32.le_trans (z1 k (by omega) k1 k2) hle.1
      · rcases hle.2.2 with c | c
        · exact .inr ⟨nE, by omega, by rw [d23, if_pos rfl], by rw [e24, if_pos rfl], by rw [e25, if_pos rfl]; exact c⟩
        · rcases z2 with z2 | ⟨k, k0, k1, k2, k3⟩
          · exact .inl (c.trans z2)
          · have ek : k ≠ nE := by omega
            exact .inr ⟨k, by omega, by rw [d23, if_neg ek]; exact k1, by rw [e24, if_neg ek, d24]; exact k2, by rw [e25, if_neg ek, d25, c]; exact k3⟩
    · have hI : p2 I (87 + q) m nv (87 + q') w' = I (87 + q') w' := by
        by_cases e1 : q' = q
        · rw [e1, p2_row (fun z => e ⟨e1, z⟩)]
        · rw [p2_ne (by omega)]
      rw [hI]
      refine ⟨fun k hk k1 k2 => ?_, ?_⟩
      · rw [d23] at k1
        rw [e24] at k2
        rw [e25]
        by_cases ek : k = nE
        · rw [if_pos ek, ieq (by omega) (by omega)] at k1
          rw [if_pos ek, ieq (by omega) (by omega)] at k2
          exact absurd ⟨k1.symm, k2.symm⟩ e
        · rw [if_neg ek] at k1 k2 ⊢
          rw [d24] at k2
          rw [d25]
          exact z1 k (by omega) k1 k2
      · rcases z2 with z2 | ⟨k, k0, k1, k2, k3⟩
        · exact .inl z2
        · have ek : k ≠ nE := by omega
          exact .inr ⟨k, by omega, by rw [d23, if_neg ek]; exact k1, by rw [e24, if_neg ek, d24]; exact k2, by rw [e25, if_neg ek, d25]; exact k3⟩
  · exact CBs_I (CBs_d b5 (ex 3 (by decide) (by decide) (by decide) (by decide)) (ex0 1 (by decide)) (ex0 2 (by decide)) (ex0 30 (by decide)) (ex 14 (by decide) (by decide) (by decide) (by decide)) (ex 17 (by decide) (by decide) (by decide) (by decide))) (hc 24 (by decide) (by omega)) (h0 11 (by decide) (by decide)) (h0 12 (by decide) (by decide)) (h0 13 (by decide) (by decide))
theorem v_took {kd : Int32} (hA : nA ≤ 250) (hAC : AC D nA R I) (h4 : I 4 2 = nI nA) (hd : ∀ a, a < nA → smA D a kd w x y u → (∀ c, c < a → ¬ smA D c kd w x y u) → post 1 (cp nA nK R (p2 (p2 I (1000 + a) 7 (D 10 a + 1)) 4 3 (I 4 3 + 1)) J)) (hn : (∀ a, a < nA → ¬ smA D a kd w x y u) → post 0 (cp nA nK R I J)) : wX2_tookDouble post (some 4) kd w x y u (cp nA nK R I J) := by
  have key : ∀ k i, nA = i + k → (∀ c, c < i → ¬ smA D c kd w x y u) → wX2_tookDouble_3 post (k + 1) (some 4) kd w x y u (nI i) (cp nA nK R I J) := by
    intro k
    induction k with
    | zero =>
      intro i hi h
      unfold wX2_tookDouble_3
      simp (disch := first | decide | omega) only [brT, brF, c_I, c_rc, c_pI, c_pZ, c_aI, c_sI, ca_I, ca_rc, ca_pI, cq_I, cq_rc, cq_pI, cq_R, cq_aR, cs_I, cs_rc, cs_pI, cs_pZ, f0_0, f0_1, f0_2, f0_3, f0_4, f0_5, f0_6, f0_7, f1_0, f3_0, f4_0, f4_1, f7_0, f7_1, f7_2, f7_3, f7_4, f7_5, f7_6, f7_7, f7_8, f7_9, f17_0, f17_1, f17_2, f17_3, f17_4, f17_5, f0_8, f0_8p, f7_10, f7_10p, g9, g9r, g9w, g11, g11r, g11w, g12, g12r, g12w, g13, g13r, g13w, g14, g14r, g14w, g15, g15r, g15w, g25, g25r, g25w, h5, h5w, h5z, h6, h6w, h6z, h8, h8w, h8z, h21, h21w, h21z, h22, h22w, h22z, h23, h23w, fl10, fl16, fl18, fl20, fl24, g11f, g12f, g13f, g14f, g15f, g25f, cN2, cN10, cN16, cN18, cN19, cN20, cN24, z01, z11, ix1, ix2, nI_add, nI_clamp, vin, true_and, and_true, or_true, true_or, h4, ile, brt (show nA ≤ i by omega)]
      exact hn fun a ha => h a (by omega)
    | succ k ih =>
      intro i hi h
      have hiA : i < nA := by omega
      obtain ⟨e5, f0, f1, f2, f5, f6, f7, _⟩ := hAC i hiA
      have g0 : I (1000 + i) 2 = D 7 (3 * i) := f2 0 (by decide)
      have g1 : I (1000 + i) 3 = D 7 (3 * i + 1) := f2 1 (by decide)
      have g2 : I (1000 + i) 4 = D 7 (3 * i + 2) := f2 2 (by decide)
      unfold wX2_tookDouble_3 wX2_tookDouble_91
      simp (disch := first | decide | omega) only [brT, brF, c_I, c_rc, c_pI, c_pZ, c_aI, c_sI, ca_I, ca_rc, ca_pI, cq_I, cq_rc, cq_pI, cq_R, cq_aR, cs_I, cs_rc, cs_pI, cs_pZ, f0_0, f0_1, f0_2, f0_3, f0_4, f0_5, f0_6, f0_7, f1_0, f3_0, f4_0, f4_1, f7_0, f7_1, f7_2, f7_3, f7_4, f7_5, f7_6, f7_7, f7_8, f7_9, f17_0, f17_1, f17_2, f17_3, f17_4, f17_5, f0_8, f0_8p, f7_10, f7_10p, g9, g9r, g9w, g11, g11r, g11w, g12, g12r, g12w, g13, g13r, g13w, g14, g14r, g14w, g15, g15r, g15w, g25, g25r, g25w, h5, h5w, h5z, h6, h6w, h6z, h8, h8w, h8z, h21, h21w, h21z, h22, h22w, h22z, h23, h23w, fl10, fl16, fl18, fl20, fl24, g11f, g12f, g13f, g14f, g15f, g25f, cN2, cN10, cN16, cN18, cN19, cN20, cN24, z01, z11, ix1, ix2, nI_add, nI_clamp, vin, true_and, and_true, or_true, true_or, h4, ile, brf (show ¬ nA ≤ i by omega), e5, f1, g0, g1, g2, f5, f7, p2_ne]
      have hnext : ¬ smA D i kd w x y u → wX2_tookDouble_3 post (k + 1) (some 4) kd w x y u (nI (i + 1)) (cp nA nK R I J) := fun z => ih (i + 1) (by omega) fun c hc => by
        by_cases e : c = i
        · rw [e]; exact z
        · exact h c (by omega)
      refine brc (fun k5 => brc (fun k1 => brc (fun k2 => brc (fun k3 => brc (fun k4 => ?_) fun z => ?_) fun z => ?_) fun z => ?_) fun z => ?_) fun z => ?_
      · exact hd i hiA ⟨k1, k2, k3, k4, k5⟩ h
      · exact hnext fun q => z q.2.2.2.1
      · exact hnext fun q => z q.2.2.1
      · exact hnext fun q => z q.2.1
      · exact hnext fun q => z q.1
      · exact hnext fun q => z q.2.2.2.2
  unfold wX2_tookDouble
  exact ⟨_, key nA 0 (by omega) fun c hc => by omega⟩
end
