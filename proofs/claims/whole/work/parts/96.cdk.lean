section
variable {D : Mem} {nA nQ nE nT nw nc q a : Nat} {R R' : RMem} {I I' : Mem} {J : Nat → Nat → Int64} {post : Int32 → Pool → Prop} {pst : Pool → Prop} {pr : Option Nat → Pool → Prop} {pox : String → Pool → Prop} {v w t n i : Int32}
theorem JVd_cg (h : JVd D nA nE nQ I) (h17 : I' 17 = I 17) (h19 : I' 19 = I 19) (h20 : I' 20 = I 20) : JVd D nA nE nQ I' := by
  unfold JVd PR19 at h ⊢
  rw [h17, h19, h20]
  exact h
theorem v_joinFinds (hnc : nc ≤ 1000) (hC : CI D nA nQ nE nT nw nc R I) (hp : ∀ R' I', FRA R I R' I' → CI D nA nQ nE nT nw nc R' I' → JVd D nA nE nQ I' → pst (cp nA (nQ + 2) R' I' J)) : wX8_joinFinds pst (some 0) (cp nA (nQ + 2) R I J) := by
  have hC0 := hC
  have h14 := hC.2.2.1
  unfold wX8_joinFinds
  simp (disch := first | decide | omega) only [brT, brF, c_I, c_rc, c_pI, c_pZ, c_aI, c_sI, ca_I, ca_rc, ca_pI, cq_I, cq_rc, cq_pI, cq_R, cq_aR, cs_I, cs_rc, cs_pI, cs_pZ, f0_0, f0_1, f0_2, f0_3, f0_4, f0_5, f0_6, f0_7, f1_0, f3_0, f4_0, f4_1, f7_0, f7_1, f7_2, f7_3, f7_4, f7_5, f7_6, f7_7, f7_8, f7_9, f17_0, f17_1, f17_2, f17_3, f17_4, f17_5, f0_8, f0_8p, f7_10, f7_10p, g9, g9r, g9w, g11, g11r, g11w, g12, g12r, g12w, g13, g13r, g13w, g14, g14r, g14w, g15, g15r, g15w, g25, g25r, g25w, h5, h5w, h5z, h6, h6w, h6z, h8, h8w, h8z, h21, h21w, h21z, h22, h22w, h22z, h23, h23w, fl10, fl16, fl18, fl20, fl24, g11f, g12f, g13f, g14f, g15f, g25f, cN2, cN10, cN16, cN18, cN19, cN20, cN24, z01, z11, ix1, ix2, nI_add, nI_clamp, vin, true_and, and_true, or_true, true_or]
  refine brc (fun h => ?_) fun hne => ?_
  · refine hp R I FRA_rfl hC0 ?_
    rcases hC.2.2.2 with z | ⟨j, z1, z2, z3⟩
    · rw [z, h14] at h; exact absurd h.symm (nI_nm1 (by omega))
    · rw [z2, h14, ieq (by omega) (by omega)] at h; exact z3 h
  · refine v_cclear fun R1 I1 b1 b2 b3 b4 b5 b6 => ?_
    have h00 : I1 0 = I 0 := b1.1 0 (by omega)
    have hC1 := CI_j hC0 hne b1
    have h8 := hC0.1.2.1.1
    have key : ∀ k q R2 I2, nQ = q + k → CI D nA nQ nE nT nw nc R2 I2 → I2 0 = I 0 → FRA R I R2 I2 → (∀ x, x < 250 → I2 18 x = nI (wtf D nA nE (D 0 1) q x)) → I2 17 6 = nI (sfl D nA (D 0 1) q) → I2 17 7 = 0 → (∀ x, x < 250 → I2 19 x = nI x ∧ I2 20 x = 0) → ((∀ v, v < 31 → R2 21 v = none) ∧ ∀ v, v < 16 → R2 22 v = none) → wX8_joinFinds_21 pst (k + 1) (some 0) (nI q) (cp nA (nQ + 2) R2 I2 J) := by
      intro k
      induction k with
      | zero =>
        intro q R2 I2 hq c1 c2 c3 c4 c5 c6 c7 c8
        have e : q = nQ := by omega
        subst e
        obtain ⟨⟨⟨a1, a2, a3, a4, a5, a6⟩, hq', ht', he', ⟨s1, s2, s3, s4, s5, s6⟩⟩, hS, hJ⟩ := id c1
        have hA := a1.1
        have e9 : I2 0 9 = nI q := hq'.2.2.2.2.2.2
        unfold wX8_joinFinds_21 wX1_join
        simp (disch := first | decide | omega) only [brT, brF, c_I, c_rc, c_pI, c_pZ, c_aI, c_sI, ca_I, ca_rc, ca_pI, cq_I, cq_rc, cq_pI, cq_R, cq_aR, cs_I, cs_rc, cs_pI, cs_pZ, f0_0, f0_1, f0_2, f0_3, f0_4, f0_5, f0_6, f0_7, f1_0, f3_0, f4_0, f4_1, f7_0, f7_1, f7_2, f7_3, f7_4, f7_5, f7_6, f7_7, f7_8, f7_9, f17_0, f17_1, f17_2, f17_3, f17_4, f17_5, f0_8, f0_8p, f7_10, f7_10p, g9, g9r, g9w, g11, g11r, g11w, g12, g12r, g12w, g13, g13r, g13w, g14, g14r, g14w, g15, g15r, g15w, g25, g25r, g25w, h5, h5w, h5z, h6, h6w, h6z, h8, h8w, h8z, h21, h21w, h21z, h22, h22w, h22z, h23, h23w, fl10, fl16, fl18, fl20, fl24, g11f, g12f, g13f, g14f, g15f, g25f, cN2, cN10, cN16, cN18, cN19, cN20, cN24, z01, z11, ix1, ix2, nI_add, nI_clamp, vin, true_and, and_true, or_true, true_or, e9, ile, brt (Nat.le_refl q), s3]
        have hne2 : I2 0 15 ≠ I2 0 14 := by rw [c2]; exact hne
        refine ⟨_, v_join2 (wt := wtf D nA nE (D 0 1) q) a1 rfl (fun x _ => wtf_8 h8) (R0 := R2) (I0 := I2) (fun R3 I3 P d rt H d1 d2 d3 d4 d5 d6 d7 d8 d9 d10 => ?_) nA 0 R2 I2 id (fun _ => 0) id 0 (by omega) a4 a5 a6.1 c4 ⟨fun _ _ => rfl, fun _ _ _ => rfl⟩ rfl rfl rfl (fun x hx => (c7 x hx).1) (fun x hx => ⟨hx, hx, rfl, rfl, fun _ => ⟨rfl, rfl⟩, fun z => absurd rfl z, Nat.le_refl _⟩) (by omega) (fun x y _ _ e => by have e : x = y := e; rw [e]; exact cw_rfl) (fun j k h1 h2 => by omega) (fun x _ h => h) ⟨fun v hv => c8.1 v hv, fun v hv => c8.2 v hv⟩⟩
        refine ⟨_, v_join93 (wt := wtf D nA nE (D 0 1) q) (rt := rt) (d := d) (H := H) hA (fun x _ => wtf_8 h8) (R0 := R2) (I0 := I2) (fun I4 P4 g1 g2 g3 g4 g5 g6 => ?_) (by omega) nA 0 I3 P (by omega) (by rw [d1.1 4 (by omega)]; exact a6.1) (fun x hx => by rw [d3]; exact c4 x hx) d1 (by rw [d2]) (by rw [d2, c6]; rfl) (fun r hr => by rw [d4, (c7 r hr).2]; rfl) d5 d6⟩
        simp (disch := first | decide | omega) only [brT, brF, c_I, c_rc, c_pI, c_pZ, c_aI, c_sI, ca_I, ca_rc, ca_pI, cq_I, cq_rc, cq_pI, cq_R, cq_aR, cs_I, cs_rc, cs_pI, cs_pZ, f0_0, f0_1, f0_2, f0_3, f0_4, f0_5, f0_6, f0_7, f1_0, f3_0, f4_0, f4_1, f7_0, f7_1, f7_2, f7_3, f7_4, f7_5, f7_6, f7_7, f7_8, f7_9, f17_0, f17_1, f17_2, f17_3, f17_4, f17_5, f0_8, f0_8p, f7_10, f7_10p, g9, g9r, g9w, g11, g11r, g11w, g12, g12r, g12w, g13, g13r, g13w, g14, g14r, g14w, g15, g15r, g15w, g25, g25r, g25w, h5, h5w, h5z, h6, h6w, h6z, h8, h8w, h8z, h21, h21w, h21z, h22, h22w, h22z, h23, h23w, fl10, fl16, fl18, fl20, fl24, g11f, g12f, g13f, g14f, g15f, g25f, cN2, cN10, cN16, cN18, cN19, cN20, cN24, z01, z11, ix1, ix2, nI_add, nI_clamp, vin, true_and, and_true, or_true, true_or]
        have hrr : ∀ x, x < 250 → rt (rt x) = rt x := fun x hx => ((g6 (rt x) (g6 x hx).2.1).2.2.2.2.1 (g6 x hx).2.2.2.1).1
        have e14 : I4 0 14 = nI nc := by rw [g1.1 0 (by omega)]; exact hJ.1
        have hjv : JVd D nA nE q (p2 I4 0 15 (I4 0 14)) := by
          refine JVd_cg (I := I4) ⟨by rw [g2, c5], ?_, P4, d, rt, H, by omega, g5, g6, fun i hi => ?_⟩ (p2_ne (by decide)) (p2_ne (by decide)) (p2_ne (by decide))
          · rw [g3, csn_rt a1 rfl s5 d8 d9 d10 hrr]
          · have hl := L_lt hi
            rw [g4 _ (g6 _ (by omega)).2.1, jw a1 rfl s5 d8 d9 hi]
        have hC4 := CI_j c1 hne2 g1
        refine hp R3 _ (FRA_trans c3 (FRA_trans (FRA_j g1) ⟨fun c h1 _ _ _ => p2_ne h1, fun k hk => p2_row (by omega), fun _ _ _ _ _ => rfl⟩)) ⟨CB_fr hC4.1 ⟨fun c h1 _ _ _ => p2_ne h1, fun k hk => p2_row (by omega), fun _ _ _ _ _ => rfl⟩, SWC_cg hC4.2.1 (CB_ns hC4.1) (p2_ne (by decide)) (p2_ne (by decide)) (fun c h1 h2 => p2_ne (by omega)) rfl rfl, ?_, .inr ⟨nc, Nat.le_refl _, ?_, fun _ => hjv⟩⟩ hjv
        · rw [p2_row (by decide)]; exact e14
        · rw [p2_same]; exact e14
      | succ k ih =>
        intro q R2 I2 hq c1 c2 c3 c4 c5 c6 c7 c8
        have hqn : q < nQ := by omega
        have hq' := c1.1.2.1
        have e9 : I2 0 9 = nI nQ := hq'.2.2.2.2.2.2
        have e23 := hq'.2.2.2.1 q hqn
        unfold wX8_joinFinds_21
        simp (disch := first | decide | omega) only [brT, brF, c_I, c_rc, c_pI, c_pZ, c_aI, c_sI, ca_I, ca_rc, ca_pI, cq_I, cq_rc, cq_pI, cq_R, cq_aR, cs_I, cs_rc, cs_pI, cs_pZ, f0_0, f0_1, f0_2, f0_3, f0_4, f0_5, f0_6, f0_7, f1_0, f3_0, f4_0, f4_1, f7_0, f7_1, f7_2, f7_3, f7_4, f7_5, f7_6, f7_7, f7_8, f7_9, f17_0, f17_1, f17_2, f17_3, f17_4, f17_5, f0_8, f0_8p, f7_10, f7_10p, g9, g9r, g9w, g11, g11r, g11w, g12, g12r, g12w, g13, g13r, g13w, g14, g14r, g14w, g15, g15r, g15w, g25, g25r, g25w, h5, h5w, h5z, h6, h6w, h6z, h8, h8w, h8z, h21, h21w, h21z, h22, h22w, h22z, h23, h23w, fl10, fl16, fl18, fl20, fl24, g11f, g12f, g13f, g14f, g15f, g25f, cN2, cN10, cN16, cN18, cN19, cN20, cN24, z01, z11, ix1, ix2, nI_add, nI_clamp, vin, true_and, and_true, or_true, true_or, e9, ile, brf (show ¬ nQ ≤ q by omega), e23]
        exact v_gather hqn (R0 := R) (I0 := I) c1 (by rw [c2]; exact hne) c3 c4 c5 c6 c7 c8 fun R3 I3 d1 d2 d3 d4 d5 d6 d7 d8 => ih (q + 1) R3 I3 (by omega) d1 (d2.trans c2) d3 d4 d5 d6 d7 d8
    refine ⟨_, key nQ 0 R1 I1 (by omega) hC1 h00 (FRA_j b1) (fun x hx => ?_) (by rw [b2]; rfl) b3 (fun x hx => (b4 x hx).2) ⟨b5, b6⟩⟩
    rw [(b4 x hx).1]
    unfold wtf
    split <;> rfl
theorem d_cases (hnc : nc ≤ 1000) (hC : CI D nA nQ nE nT nw nc R I) (hp : ∀ R' I', CI D nA nQ nE nT nw nc R' I' → post (nI (csn (EL D (AL D D nA nE (D 0 1) nQ)) (AL D D nA nE (D 0 1) nQ).length)) (cp nA (nQ + 2) R' I' J)) : wX8_cases post (some 0) (cp nA (nQ + 2) R I J) := by
  unfold wX8_cases
  simp (disch := first | decide | omega) only [brT, brF, c_I, c_rc, c_pI, c_pZ, c_aI, c_sI, ca_I, ca_rc, ca_pI, cq_I, cq_rc, cq_pI, cq_R, cq_aR, cs_I, cs_rc, cs_pI, cs_pZ, f0_0, f0_1, f0_2, f0_3, f0_4, f0_5, f0_6, f0_7, f1_0, f3_0, f4_0, f4_1, f7_0, f7_1, f7_2, f7_3, f7_4, f7_5, f7_6, f7_7, f7_8, f7_9, f17_0, f17_1, f17_2, f17_3, f17_4, f17_5, f0_8, f0_8p, f7_10, f7_10p, g9, g9r, g9w, g11, g11r, g11w, g12, g12r, g12w, g13, g13r, g13w, g14, g14r, g14w, g15, g15r, g15w, g25, g25r, g25w, h5, h5w, h5z, h6, h6w, h6z, h8, h8w, h8z, h21, h21w, h21z, h22, h22w, h22z, h23, h23w, fl10, fl16, fl18, fl20, fl24, g11f, g12f, g13f, g14f, g15f, g25f, cN2, cN10, cN16, cN18, cN19, cN20, cN24, z01, z11, ix1, ix2, nI_add, nI_clamp, vin, true_and, and_true, or_true, true_or]
  refine v_joinFinds hnc hC fun R' I' b1 b2 b3 => ?_
  simp (disch := first | decide | omega) only [brT, brF, c_I, c_rc, c_pI, c_pZ, c_aI, c_sI, ca_I, ca_rc, ca_pI, cq_I, cq_rc, cq_pI, cq_R, cq_aR, cs_I, cs_rc, cs_pI, cs_pZ, f0_0, f0_1, f0_2, f0_3, f0_4, f0_5, f0_6, f0_7, f1_0, f3_0, f4_0, f4_1, f7_0, f7_1, f7_2, f7_3, f7_4, f7_5, f7_6, f7_7, f7_8, f7_9, f17_0, f17_1, f17_2, f17_3, f17_4, f17_5, f0_8, f0_8p, f7_10, f7_10p, g9, g9r, g9w, g11, g11r, g11w, g12, g12r, g12w, g13, g13r, g13w, g14, g14r, g14w, g15, g15r, g15w, g25, g25r, g25w, h5, h5w, h5z, h6, h6w, h6z, h8, h8w, h8z, h21, h21w, h21z, h22, h22w, h22z, h23, h23w, fl10, fl16, fl18, fl20, fl24, g11f, g12f, g13f, g14f, g15f, g25f, cN2, cN10, cN16, cN18, cN19, cN20, cN24, z01, z11, ix1, ix2, nI_add, nI_clamp, vin, true_and, and_true, or_true, true_or, b3.2.1]
  exact hp R' I' b2
theorem v_aAt (hC : CB D nA nQ nE nT nw R I) (hB : ¬ (0 ≤ v ∧ v < D 0 4) → pox "java/lang/IndexOutOfBoundsException" (cp nA (nQ + 2) R I J)) (hp : ∀ a, a < nA → v = nI a → pr (some (1000 + a)) (cp nA (nQ + 2) R I J)) : wX8_actAt pox pr (some 0) v (cp nA (nQ + 2) R I J) := by
  obtain ⟨⟨a1, a2, a3, a4, a5, a6⟩, _⟩ := hC
  have hA := a1.1
  unfold wX8_actAt
  simp (disch := first | decide | omega) only [brT, brF, c_I, c_rc, c_pI, c_pZ, c_aI, c_sI, ca_I, ca_rc, ca_pI, cq_I, cq_rc, cq_pI, cq_R, cq_aR, cs_I, cs_rc, cs_pI, cs_pZ, f0_0, f0_1, f0_2, f0_3, f0_4, f0_5, f0_6, f0_7, f1_0, f3_0, f4_0, f4_1, f7_0, f7_1, f7_2, f7_3, f7_4, f7_5, f7_6, f7_7, f7_8, f7_9, f17_0, f17_1, f17_2, f17_3, f17_4, f17_5, f0_8, f0_8p, f7_10, f7_10p, g9, g9r, g9w, g11, g11r, g11w, g12, g12r, g12w, g13, g13r, g13w, g14, g14r, g14w, g15, g15r, g15w, g25, g25r, g25w, h5, h5w, h5z, h6, h6w, h6z, h8, h8w, h8z, h21, h21w, h21z, h22, h22w, h22z, h23, h23w, fl10, fl16, fl18, fl20, fl24, g11f, g12f, g13f, g14f, g15f, g25f, cN2, cN10, cN16, cN18, cN19, cN20, cN24, z01, z11, ix1, ix2, nI_add, nI_clamp, vin, true_and, and_true, or_true, true_or, v_lactAt a6.1 hA]
  rw [a2] at hB
  by_cases h : 0 ≤ v ∧ v < nI nA
  · rw [if_pos h]
    obtain ⟨m, hm, rfl⟩ := nI_of (Int32.not_lt.mpr h.1)
    have h2 := h.2
    rw [ilt hm (by omega)] at h2
    rw [nI_clamp hm, (a4 m h2).1, brf (by simp)]
    exact hp m h2 rfl
  · rw [if_neg h]
    exact hB h
theorem d_look (hC : CI D nA nQ nE nT nw nc R I) (hB : ¬ (0 ≤ v ∧ v < D 0 4) → pox "java/lang/IndexOutOfBoundsException" (cp nA (nQ + 2) R I J)) (hp : ∀ a, a < nA → v = nI a → if 0 ≤ w.toInt ∧ w.toInt ≤ 6 then post (lkv D a w.toInt) (cp nA (nQ + 2) R I J) else pox "java/util/NoSuchElementException" (cp nA (nQ + 2) R I J)) : wX8_look pox post (some 0) v w (cp nA (nQ + 2) R I J) := by
  unfold wX8_look
  simp (disch := first | decide | omega) only [brT, brF, c_I, c_rc, c_pI, c_pZ, c_aI, c_sI, ca_I, ca_rc, ca_pI, cq_I, cq_rc, cq_pI, cq_R, cq_aR, cs_I, cs_rc, cs_pI, cs_pZ, f0_0, f0_1, f0_2, f0_3, f0_4, f0_5, f0_6, f0_7, f1_0, f3_0, f4_0, f4_1, f7_0, f7_1, f7_2, f7_3, f7_4, f7_5, f7_6, f7_7, f7_8, f7_9, f17_0, f17_1, f17_2, f17_3, f17_4, f17_5, f0_8, f0_8p, f7_10, f7_10p, g9, g9r, g9w, g11, g11r, g11w, g12, g12r, g12w, g13, g13r, g13w, g14, g14r, g14w, g15, g15r, g15w, g25, g25r, g25w, h5, h5w, h5z, h6, h6w, h6z, h8, h8w, h8z, h21, h21w, h21z, h22, h22w, h22z, h23, h23w, fl10, fl16, fl18, fl20, fl24, g11f, g12f, g13f, g14f, g15f, g25f, cN2, cN10, cN16, cN18, cN19, cN20, cN24, z01, z11, ix1, ix2, nI_add, nI_clamp, vin, true_and, and_true, or_true, true_or]
  refine v_aAt hC.1 hB fun a ha e => ?_
  have hA := hC.1.1.1.1
  obtain ⟨_, f0, f1, f2, f5, f6, f7, _⟩ := hC.1.1.2.2.2.1 a ha
  have g0 : I (1000 + a) 2 = D 7 (3 * a) := f2 0 (by decide)
  have g1 : I (1000 + a) 3 = D 7 (3 * a + 1) := f2 1 (by decide)
  have g2 : I (1000 + a) 4 = D 7 (3 * a + 2) := f2 2 (by decide)
  have hp' := hp a ha e
  unfold lkv at hp'
  simp (disch := first | decide | omega) only [brT, brF, c_I, c_rc, c_pI, c_pZ, c_aI, c_sI, ca_I, ca_rc, ca_pI, cq_I, cq_rc, cq_pI, cq_R, cq_aR, cs_I, cs_rc, cs_pI, cs_pZ, f0_0, f0_1, f0_2, f0_3, f0_4, f0_5, f0_6, f0_7, f1_0, f3_0, f4_0, f4_1, f7_0, f7_1, f7_2, f7_3, f7_4, f7_5, f7_6, f7_7, f7_8, f7_9, f17_0, f17_1, f17_2, f17_3, f17_4, f17_5, f0_8, f0_8p, f7_10, f7_10p, g9, g9r, g9w, g11, g11r, g11w, g12, g12r, g12w, g13, g13r, g13w, g14, g14r, g14w, g15, g15r, g15w, g25, g25r, g25w, h5, h5w, h5z, h6, h6w, h6z, h8, h8w, h8z, h21, h21w, h21z, h22, h22w, h22z, h23, h23w, fl10, fl16, fl18, fl20, fl24, g11f, g12f, g13f, g14f, g15f, g25f, cN2, cN10, cN16, cN18, cN19, cN20, cN24, z01, z11, ix1, ix2, nI_add, nI_clamp, vin, true_and, and_true, or_true, true_or, f1, g0, g1, g2, f5, f6, f7]
  refine brc (fun h => ?_) fun h => ?_
  · rw [if_neg (by omega)] at hp'; exact hp'
  · rw [if_pos (by omega)] at hp'
    refine brc (fun h0 => ?_) fun h0 => ?_
    · rw [if_pos h0] at hp'; exact hp'
    rw [if_neg h0] at hp'
    refine brc (fun h1 => ?_) fun h1 => ?_
    · rw [if_pos h1] at hp'; exact hp'
    rw [if_neg h1] at hp'
    refine brc (fun h2 => ?_) fun h2 => ?_
    · rw [if_pos h2] at hp'; exact hp'
    rw [if_neg h2] at hp'
    refine brc (fun h3 => ?_) fun h3 => ?_
    · rw [if_pos h3] at hp'; exact hp'
    rw [if_neg h3] at hp'
    refine brc (fun h4 => ?_) fun h4 => ?_
    · rw [if_pos h4] at hp'; exact hp'
    rw [if_neg h4] at hp'
    refine brc (fun h5 => ?_) fun h5 => ?_
    · rw [if_pos h5] at hp'; exact hp'
    rw [if_neg h5] at hp'
    exact hp'
theorem d_count (hnc : nc ≤ 1000) (hC : CI D nA nQ nE nT nw nc R I) (hp : ∀ R' I', CI D nA nQ nE nT nw nc R' I' → post (cv D D nA nQ v.toInt) (cp nA (nQ + 2) R' I' J)) : wX8_count post (some 0) v (cp nA (nQ + 2) R I J) := by
  obtain ⟨⟨⟨a1, a2, a3, a4, a5, a6⟩, hq', ht', he', ⟨s1, s2, s3, s4, s5, s6⟩⟩, hS, hJ⟩ := id hC
  have hp' := hp R I hC
  have e9 : I 0 9 = nI nQ := hq'.2.2.2.2.2.2
  unfold wX8_count
  simp (disch := first | decide | omega) only [brT, brF, c_I, c_rc, c_pI, c_pZ, c_aI, c_sI, ca_I, ca_rc, ca_pI, cq_I, cq_rc, cq_pI, cq_R, cq_aR, cs_I, cs_rc, cs_pI, cs_pZ, f0_0, f0_1, f0_2, f0_3, f0_4, f0_5, f0_6, f0_7, f1_0, f3_0, f4_0, f4_1, f7_0, f7_1, f7_2, f7_3, f7_4, f7_5, f7_6, f7_7, f7_8, f7_9, f17_0, f17_1, f17_2, f17_3, f17_4, f17_5, f0_8, f0_8p, f7_10, f7_10p, g9, g9r, g9w, g11, g11r, g11w, g12, g12r, g12w, g13, g13r, g13w, g14, g14r, g14w, g15, g15r, g15w, g25, g25r, g25w, h5, h5w, h5z, h6, h6w, h6z, h8, h8w, h8z, h21, h21w, h21z, h22, h22w, h22z, h23, h23w, fl10, fl16, fl18, fl20, fl24, g11f, g12f, g13f, g14f, g15f, g25f, cN2, cN10, cN16, cN18, cN19, cN20, cN24, z01, z11, ix1, ix2, nI_add, nI_clamp, vin, true_and, and_true, or_true, true_or, s2, a6.1, a6.2.1, a6.2.2, e9, he'.2.2.1, s3]
  unfold cv at hp' hp
  rw [a2, hq'.2.1, he'.1] at hp'
  refine brc (fun h => ?_) fun h => ?_
  · rw [if_neg (by omega), if_neg (by omega), if_neg (by omega), if_neg (by omega), if_neg (by omega), if_neg (by omega), if_neg (by omega), if_neg (by omega)] at hp'; exact hp'
  refine brc (fun h0 => ?_) fun h0 => ?_
  · rw [if_pos h0] at hp'; exact hp'
  rw [if_neg h0] at hp'
  refine brc (fun h1 => ?_) fun h1 => ?_
  · rw [if_pos h1] at hp'; exact hp'
  rw [if_neg h1] at hp'
  refine brc (fun h2 => ?_) fun h2 => ?_
  · rw [if_pos h2] at hp'; exact hp'
  rw [if_neg h2] at hp'
  refine brc (fun h3 => ?_) fun h3 => ?_
  · rw [if_pos h3] at hp'; exact hp'
  rw [if_neg h3] at hp'
  refine brc (fun h4 => ?_) fun h4 => ?_
  · rw [if_pos h4] at hp'; exact hp'
  rw [if_neg h4] at hp'
  refine brc (fun h5 => ?_) fun h5 => ?_
  · rw [if_pos h5] at hp'; exact hp'
  rw [if_neg h5] at hp'
  refine brc (fun h6 => ?_) fun h6 => ?_
  · rw [if_pos h6] at hp'; exact hp'
  refine v_joinFinds hnc hC fun R' I' b1 b2 b3 => ?_
  simp (disch := first | decide | omega) only [brT, brF, c_I, c_rc, c_pI, c_pZ, c_aI, c_sI, ca_I, ca_rc, ca_pI, cq_I, cq_rc, cq_pI, cq_R, cq_aR, cs_I, cs_rc, cs_pI, cs_pZ, f0_0, f0_1, f0_2, f0_3, f0_4, f0_5, f0_6, f0_7, f1_0, f3_0, f4_0, f4_1, f7_0, f7_1, f7_2, f7_3, f7_4, f7_5, f7_6, f7_7, f7_8, f7_9, f17_0, f17_1, f17_2, f17_3, f17_4, f17_5, f0_8, f0_8p, f7_10, f7_10p, g9, g9r, g9w, g11, g11r, g11w, g12, g12r, g12w, g13, g13r, g13w, g14, g14r, g14w, g15, g15r, g15w, g25, g25r, g25w, h5, h5w, h5z, h6, h6w, h6z, h8, h8w, h8z, h21, h21w, h21z, h22, h22w, h22z, h23, h23w, fl10, fl16, fl18, fl20, fl24, g11f, g12f, g13f, g14f, g15f, g25f, cN2, cN10, cN16, cN18, cN19, cN20, cN24, z01, z11, ix1, ix2, nI_add, nI_clamp, vin, true_and, and_true, or_true, true_or, b3.1]
  have := hp R' I' b2
  rw [if_neg h0, if_neg h1, if_neg h2, if_neg h3, if_neg h4, if_neg h5, if_neg h6, if_pos (by omega)] at this
  exact this
theorem d_joined (hnc : nc ≤ 1000) (hC : CI D nA nQ nE nT nw nc R I) (hB : ¬ ((0 ≤ v ∧ v < D 0 11) ∧ 0 ≤ w ∧ w < D 0 4) → pox "java/lang/IndexOutOfBoundsException" (cp nA (nQ + 2) R I J)) (hp : ∀ q a R' I', q < nQ → a < nA → v = nI q → w = nI a → CI D nA nQ nE nT nw nc R' I' → post (nI (jsm (EL D (AL D D nA nE (D 0 1) nQ)) (AL D D nA nE (D 0 1) nQ) q a (AL D D nA nE (D 0 1) nQ).length)) (cp nA (nQ + 2) R' I' J)) : wX8_joined pox post (some 0) v w (cp nA (nQ + 2) R I J) := by
  have h11 : I 0 11 = D 0 1 := hC.1.2.2.2.2.2.1
  have hA := hC.1.1.1.1
  have h8 := hC.1.2.1.1
  unfold wX8_joined
  simp (disch := first | decide | omega) only [brT, brF, c_I, c_rc, c_pI, c_pZ, c_aI, c_sI, ca_I, ca_rc, ca_pI, cq_I, cq_rc, cq_pI, cq_R, cq_aR, cs_I, cs_rc, cs_pI, cs_pZ, f0_0, f0_1, f0_2, f0_3, f0_4, f0_5, f0_6, f0_7, f1_0, f3_0, f4_0, f4_1, f7_0, f7_1, f7_2, f7_3, f7_4, f7_5, f7_6, f7_7, f7_8, f7_9, f17_0, f17_1, f17_2, f17_3, f17_4, f17_5, f0_8, f0_8p, f7_10, f7_10p, g9, g9r, g9w, g11, g11r, g11w, g12, g12r, g12w, g13, g13r, g13w, g14, g14r, g14w, g15, g15r, g15w, g25, g25r, g25w, h5, h5w, h5z, h6, h6w, h6z, h8, h8w, h8z, h21, h21w, h21z, h22, h22w, h22z, h23, h23w, fl10, fl16, fl18, fl20, fl24, g11f, g12f, g13f, g14f, g15f, g25f, cN2, cN10, cN16, cN18, cN19, cN20, cN24, z01, z11, ix1, ix2, nI_add, nI_clamp, vin, true_and, and_true, or_true, true_or]
  refine v_qAt hC.1 (fun z => hB fun y => z y.1) fun q hq e => ?_
  simp (disch := first | decide | omega) only [brT, brF, c_I, c_rc, c_pI, c_pZ, c_aI, c_sI, ca_I, ca_rc, ca_pI, cq_I, cq_rc, cq_pI, cq_R, cq_aR, cs_I, cs_rc, cs_pI, cs_pZ, f0_0, f0_1, f0_2, f0_3, f0_4, f0_5, f0_6, f0_7, f1_0, f3_0, f4_0, f4_1, f7_0, f7_1, f7_2, f7_3, f7_4, f7_5, f7_6, f7_7, f7_8, f7_9, f17_0, f17_1, f17_2, f17_3, f17_4, f17_5, f0_8, f0_8p, f7_10, f7_10p, g9, g9r, g9w, g11, g11r, g11w, g12, g12r, g12w, g13, g13r, g13w, g14, g14r, g14w, g15, g15r, g15w, g25, g25r, g25w, h5, h5w, h5z, h6, h6w, h6z, h8, h8w, h8z, h21, h21w, h21z, h22, h22w, h22z, h23, h23w, fl10, fl16, fl18, fl20, fl24, g11f, g12f, g13f, g14f, g15f, g25f, cN2, cN10, cN16, cN18, cN19, cN20, cN24, z01, z11, ix1, ix2, nI_add, nI_clamp, vin, true_and, and_true, or_true, true_or]
  refine v_aAt hC.1 (fun z => hB fun y => z y.2) fun a ha e2 => ?_
  subst e
  subst e2
  simp (disch := first | decide | omega) only [brT, brF, c_I, c_rc, c_pI, c_pZ, c_aI, c_sI, ca_I, ca_rc, ca_pI, cq_I, cq_rc, cq_pI, cq_R, cq_aR, cs_I, cs_rc, cs_pI, cs_pZ, f0_0, f0_1, f0_2, f0_3, f0_4, f0_5, f0_6, f0_7, f1_0, f3_0, f4_0, f4_1, f7_0, f7_1, f7_2, f7_3, f7_4, f7_5, f7_6, f7_7, f7_8, f7_9, f17_0, f17_1, f17_2, f17_3, f17_4, f17_5, f0_8, f0_8p, f7_10, f7_10p, g9, g9r, g9w, g11, g11r, g11w, g12, g12r, g12w, g13, g13r, g13w, g14, g14r, g14w, g15, g15r, g15w, g25, g25r, g25w, h5, h5w, h5z, h6, h6w, h6z, h8, h8w, h8z, h21, h21w, h21z, h22, h22w, h22z, h23, h23w, fl10, fl16, fl18, fl20, fl24, g11f, g12f, g13f, g14f, g15f, g25f, cN2, cN10, cN16, cN18, cN19, cN20, cN24, z01, z11, ix1, ix2, nI_add, nI_clamp, vin, true_and, and_true, or_true, true_or, h11]
  refine v_sweepOf hC (fun z => absurd ⟨nI_pos' (by omega), by rw [hC.1.2.1.2.1, ilt (by omega) (by omega)]; exact hq⟩ z) fun q' R1 I1 hq' e b1 b2 b3 => ?_
  rw [ieq (by omega) (by omega)] at e
  subst e
  have hFl := FL_250 (D := D) (t := D 0 1) (q := q) hA
  simp (disch := first | decide | omega) only [brT, brF, c_I, c_rc, c_pI, c_pZ, c_aI, c_sI, ca_I, ca_rc, ca_pI, cq_I, cq_rc, cq_pI, cq_R, cq_aR, cs_I, cs_rc, cs_pI, cs_pZ, f0_0, f0_1, f0_2, f0_3, f0_4, f0_5, f0_6, f0_7, f1_0, f3_0, f4_0, f4_1, f7_0, f7_1, f7_2, f7_3, f7_4, f7_5, f7_6, f7_7, f7_8, f7_9, f17_0, f17_1, f17_2, f17_3, f17_4, f17_5, f0_8, f0_8p, f7_10, f7_10p, g9, g9r, g9w, g11, g11r, g11w, g12, g12r, g12w, g13, g13r, g13w, g14, g14r, g14w, g15, g15r, g15w, g25, g25r, g25w, h5, h5w, h5z, h6, h6w, h6z, h8, h8w, h8z, h21, h21w, h21z, h22, h22w, h22z, h23, h23w, fl10, fl16, fl18, fl20, fl24, g11f, g12f, g13f, g14f, g15f, g25f, cN2, cN10, cN16, cN18, cN19, cN20, cN24, z01, z11, ix1, ix2, nI_add, nI_clamp, vin, true_and, and_true, or_true, true_or]
  refine v_isFind hA b2.1.1.2.2.2.1 b3.2.2.2.2.2.2 hFl (fun x hx => FL_lt hx) ha ?_
  rw [bI_br]
  have hz : (q, a) ∉ AL D D nA nE (D 0 1) nQ → post 0 (cp nA (nQ + 2) R1 I1 J) := fun z => by
    have := hp q a R1 I1 hq ha rfl rfl b2
    rw [jsm_out z _ (Nat.le_refl _)] at this
    exact this
  refine brc (fun g => ?_) fun g => hz fun z => g (FL_mem.mpr ⟨ha, (AL_mem.mp z).2.2.1⟩)
  simp (disch := first | decide | omega) only [brT, brF, c_I, c_rc, c_pI, c_pZ, c_aI, c_sI, ca_I, ca_rc, ca_pI, cq_I, cq_rc, cq_pI, cq_R, cq_aR, cs_I, cs_rc, cs_pI, cs_pZ, f0_0, f0_1, f0_2, f0_3, f0_4, f0_5, f0_6, f0_7, f1_0, f3_0, f4_0, f4_1, f7_0, f7_1, f7_2, f7_3, f7_4, f7_5, f7_6, f7_7, f7_8, f7_9, f17_0, f17_1, f17_2, f17_3, f17_4, f17_5, f0_8, f0_8p, f7_10, f7_10p, g9, g9r, g9w, g11, g11r, g11w, g12, g12r, g12w, g13, g13r, g13w, g14, g14r, g14w, g15, g15r, g15w, g25, g25r, g25w, h5, h5w, h5z, h6, h6w, h6z, h8, h8w, h8z, h21, h21w, h21z, h22, h22w, h22z, h23, h23w, fl10, fl16, fl18, fl20, fl24, g11f, g12f, g13f, g14f, g15f, g25f, cN2, cN10, cN16, cN18, cN19, cN20, cN24, z01, z11, ix1, ix2, nI_add, nI_clamp, vin, true_and, and_true, or_true, true_or]
  rw [v_isEx b2.1 (by omega) ha, bI_br]
  refine brc (fun g2 => hz fun z => (AL_mem.mp z).2.2.2 g2) fun g2 => ?_
  simp (disch := first | decide | omega) only [brT, brF, c_I, c_rc, c_pI, c_pZ, c_aI, c_sI, ca_I, ca_rc, ca_pI, cq_I, cq_rc, cq_pI, cq_R, cq_aR, cs_I, cs_rc, cs_pI, cs_pZ, f0_0, f0_1, f0_2, f0_3, f0_4, f0_5, f0_6, f0_7, f1_0, f3_0, f4_0, f4_1, f7_0, f7_1, f7_2, f7_3, f7_4, f7_5, f7_6, f7_7, f7_8, f7_9, f17_0, f17_1, f17_2, f17_3, f17_4, f17_5, f0_8, f0_8p, f7_10, f7_10p, g9, g9r, g9w, g11, g11r, g11w, g12, g12r, g12w, g13, g13r, g13w, g14, g14r, g14w, g15, g15r, g15w, g25, g25r, g25w, h5, h5w, h5z, h6, h6w, h6z, h8, h8w, h8z, h21, h21w, h21z, h22, h22w, h22z, h23, h23w, fl10, fl16, fl18, fl20, fl24, g11f, g12f, g13f, g14f, g15f, g25f, cN2, cN10, cN16, cN18, cN19, cN20, cN24, z01, z11, ix1, ix2, nI_add, nI_clamp, vin, true_and, and_true, or_true, true_or]
  refine v_joinFinds hnc b2 fun R2 I2 c1 c2 c3 => ?_
  obtain ⟨k, hk, ek⟩ := L_ix (AL_mem.mpr ⟨hq, ha, (FL_mem.mp g).2, g2⟩ : (q, a) ∈ AL D D nA nE (D 0 1) nQ)
  obtain ⟨_, e0, _⟩ := c2.1.1.2.2.2.1 a ha
  obtain ⟨j1, j2, P, d, rt, H, j3, j4, j5, j6⟩ := id c3
  have hjk := j6 k hk
  rw [ek] at hjk
  have hjk : I2 20 (rt a) = _ := hjk
  unfold wX1_findsBeside
  simp (disch := first | decide | omega) only [brT, brF, c_I, c_rc, c_pI, c_pZ, c_aI, c_sI, ca_I, ca_rc, ca_pI, cq_I, cq_rc, cq_pI, cq_R, cq_aR, cs_I, cs_rc, cs_pI, cs_pZ, f0_0, f0_1, f0_2, f0_3, f0_4, f0_5, f0_6, f0_7, f1_0, f3_0, f4_0, f4_1, f7_0, f7_1, f7_2, f7_3, f7_4, f7_5, f7_6, f7_7, f7_8, f7_9, f17_0, f17_1, f17_2, f17_3, f17_4, f17_5, f0_8, f0_8p, f7_10, f7_10p, g9, g9r, g9w, g11, g11r, g11w, g12, g12r, g12w, g13, g13r, g13w, g14, g14r, g14w, g15, g15r, g15w, g25, g25r, g25w, h5, h5w, h5z, h6, h6w, h6z, h8, h8w, h8z, h21, h21w, h21z, h22, h22w, h22z, h23, h23w, fl10, fl16, fl18, fl20, fl24, g11f, g12f, g13f, g14f, g15f, g25f, cN2, cN10, cN16, cN18, cN19, cN20, cN24, z01, z11, ix1, ix2, nI_add, nI_clamp, vin, true_and, and_true, or_true, true_or, e0]
  refine v_root j3 j4 j5 (show a < 250 by omega) fun I3 P3 d1 d2 d3 d4 => ?_
  have hra := (j5 a (by omega)).2.1
  have e20 : I3 20 (rt a) = I2 20 (rt a) := by rw [d1 20 (by decide)]
  simp (disch := first | decide | omega) only [brT, brF, c_I, c_rc, c_pI, c_pZ, c_aI, c_sI, ca_I, ca_rc, ca_pI, cq_I, cq_rc, cq_pI, cq_R, cq_aR, cs_I, cs_rc, cs_pI, cs_pZ, f0_0, f0_1, f0_2, f0_3, f0_4, f0_5, f0_6, f0_7, f1_0, f3_0, f4_0, f4_1, f7_0, f7_1, f7_2, f7_3, f7_4, f7_5, f7_6, f7_7, f7_8, f7_9, f17_0, f17_1, f17_2, f17_3, f17_4, f17_5, f0_8, f0_8p, f7_10, f7_10p, g9, g9r, g9w, g11, g11r, g11w, g12, g12r, g12w, g13, g13r, g13w, g14, g14r, g14w, g15, g15r, g15w, g25, g25r, g25w, h5, h5w, h5z, h6, h6w, h6z, h8, h8w, h8z, h21, h21w, h21z, h22, h22w, h22z, h23, h23w, fl10, fl16, fl18, fl20, fl24, g11f, g12f, g13f, g14f, g15f, g25f, cN2, cN10, cN16, cN18, cN19, cN20, cN24, z01, z11, ix1, ix2, nI_add, nI_clamp, vin, true_and, and_true, or_true, true_or, e20, hjk]
  have hfin := jsm_in (E := EL D (AL D D nA nE (D 0 1) nQ)) (AL_nd (D := D) (nA := nA) (nE := nE) (t := D 0 1) nQ) hk ek _ (Nat.le_refl _)
  rw [if_pos hk] at hfin
  have hJV3 : JVd D nA nE nQ I3 := ⟨by rw [d1 17 (by decide)]; exact j1, by rw [d1 17 (by decide)]; exact j2, P3, d, rt, H, j3, d2, d3, fun i hi => by rw [d1 20 (by decide)]; exact j6 i hi⟩
  have hfa : FRA R2 I2 R2 I3 := ⟨fun c _ _ _ h4 => d1 c (by omega), fun k _ => by rw [d1 0 (by decide)], fun _ _ _ _ _ => rfl⟩
  have := hp q a R2 I3 hq ha rfl rfl ⟨CB_fr c2.1 hfa, SWC_cg c2.2.1 (CB_ns c2.1) (d1 7 (by decide)) (d1 10 (by decide)) (fun c h1 h2 => d1 c (by omega)) rfl rfl, by rw [d1 0 (by decide)]; exact c2.2.2.1, by rw [d1 0 (by decide)]; exact c2.2.2.2.imp id (fun ⟨j, z1, z2, _⟩ => ⟨j, z1, z2, fun _ => hJV3⟩)⟩
  rw [hfin] at this
  exact this
end
