section
variable {D : Mem} {nA nQ nE nT nw nc q a : Nat} {R R' : RMem} {I I' : Mem} {J : Nat → Nat → Int64} {post : Int32 → Pool → Prop} {pst : Pool → Prop} {pr : Option Nat → Pool → Prop} {pox : String → Pool → Prop} {v w t n i : Int32}
theorem SWC_cg (h : SWC D nA nQ R I) (hQ : ∀ q, q < nQ → nsq D q ≤ 6) (h7 : I' 7 = I 7) (h10 : I' 10 = I 10) (h26 : ∀ c, 26 ≤ c → c < 32 → I' c = I c) (r7 : R' 7 = R 7) (r8 : R' 8 = R 8) : SWC D nA nQ R' I' := by
  unfold SWC at h ⊢
  rw [h7]
  refine ⟨h.1, h.2.imp id ?_⟩
  rintro ⟨q, h1, h2, h3⟩
  refine ⟨q, h1, h2, fun z => ?_⟩
  obtain ⟨s1, s2, s3, s4, s5, s6, s7, s8⟩ := h3 z
  refine ⟨by rw [h7]; exact s1, by rw [h7], by rw [h7]; exact s3, by rw [r7]; exact s4, fun s a b => by rw [h10]; exact s5 s a b, fun s a b => ?_, by rw [h7]; exact s7, fun j hj => by rw [r8]; exact s8 j hj⟩
  have := rk_le (D := D) (q := q) s
  have := hQ q h1
  rw [h26 _ (by omega) (by omega)]
  exact s6 s a b
theorem CB_ns (h : CB D nA nQ nE nT nw R I) : ∀ q, q < nQ → nsq D q ≤ 6 := fun q hq => by
  obtain ⟨fb, pf, l, h1, _⟩ := h.2.1.2.2.1 q hq
  exact h1.1.2.2.2.1
theorem JCH_cg (h : JCH D nA nE nQ nc I) (hne : I 0 15 ≠ I 0 14) (h14 : I' 0 14 = I 0 14) (h15 : I' 0 15 = I 0 15) : JCH D nA nE nQ nc I' := by
  unfold JCH at h ⊢
  rw [h14, h15]
  refine ⟨h.1, h.2.imp id ?_⟩
  rintro ⟨j, h1, h2, _⟩
  exact ⟨j, h1, h2, fun e => absurd (by rw [h2, h.1, e]) hne⟩
theorem CI_j (h : CI D nA nQ nE nT nw nc R I) (hne : I 0 15 ≠ I 0 14) (hf : FRJ R I R' I') : CI D nA nQ nE nT nw nc R' I' := ⟨CB_fr h.1 (FRA_j hf), SWC_cg h.2.1 (CB_ns h.1) (hf.1 7 (by omega)) (hf.1 10 (by omega)) (fun c h1 h2 => hf.1 c (by omega)) (hf.2 7 (by decide) (by decide)) (hf.2 8 (by decide) (by decide)), JCH_cg h.2.2 hne (by rw [hf.1 0 (by omega)]) (by rw [hf.1 0 (by omega)])⟩
/-! clear -/
theorem v_cclear (hp : ∀ R' I', FRJ R I R' I' → I' 17 6 = 0 → I' 17 7 = 0 → (∀ x, x < 250 → I' 18 x = 0 ∧ I' 19 x = nI x ∧ I' 20 x = 0) → (∀ v, v < 31 → R' 21 v = none) → (∀ v, v < 16 → R' 22 v = none) → pst (cp nA (nQ + 2) R' I' J)) : wX1_clear pst (some 17) (cp nA (nQ + 2) R I J) := by
  unfold wX1_clear
  simp (disch := first | decide | omega) only [brT, brF, c_I, c_rc, c_pI, c_pZ, c_aI, c_sI, ca_I, ca_rc, ca_pI, cq_I, cq_rc, cq_pI, cq_R, cq_aR, cs_I, cs_rc, cs_pI, cs_pZ, f0_0, f0_1, f0_2, f0_3, f0_4, f0_5, f0_6, f0_7, f1_0, f3_0, f4_0, f4_1, f7_0, f7_1, f7_2, f7_3, f7_4, f7_5, f7_6, f7_7, f7_8, f7_9, f17_0, f17_1, f17_2, f17_3, f17_4, f17_5, f0_8, f0_8p, f7_10, f7_10p, g9, g9r, g9w, g11, g11r, g11w, g12, g12r, g12w, g13, g13r, g13w, g14, g14r, g14w, g15, g15r, g15w, g25, g25r, g25w, h5, h5w, h5z, h6, h6w, h6z, h8, h8w, h8z, h21, h21w, h21z, h22, h22w, h22z, h23, h23w, fl10, fl16, fl18, fl20, fl24, g11f, g12f, g13f, g14f, g15f, g25f, cN2, cN10, cN16, cN18, cN19, cN20, cN24, z01, z11, ix1, ix2, nI_add, nI_clamp, vin, true_and, and_true, or_true, true_or]
  generalize hIa : rowF (rowF (p2 (p2 I 17 6 0) 17 7 0) 18 250 0) 20 250 0 = Ia
  have ha : ∀ c, ¬ (17 ≤ c ∧ c ≤ 20) → Ia c = I c := fun c hc => by rw [← hIa, rowF_ne (by omega), rowF_ne (by omega), p2_ne (by omega), p2_ne (by omega)]
  have h6 : Ia 17 6 = 0 := by rw [← hIa, rowF_ne (by decide), rowF_ne (by decide), p2_row (by decide), p2_same]
  have h7 : Ia 17 7 = 0 := by rw [← hIa, rowF_ne (by decide), rowF_ne (by decide), p2_same]
  have h18 : ∀ x, x < 250 → Ia 18 x = 0 := fun x hx => by rw [← hIa, rowF_ne (by decide), rowF_at hx]
  have h20 : ∀ x, x < 250 → Ia 20 x = 0 := fun x hx => by rw [← hIa, rowF_at hx]
  have k71 : ∀ Ib, (∀ c, c ≠ 19 → Ib c = Ia c) → (∀ x, x < 250 → Ib 19 x = nI x) → ∀ k m R1, 16 = m + k → (∀ c, c ≠ 21 → c ≠ 22 → R1 c = R c) → (∀ v, v < 31 → R1 21 v = none) → (∀ v, v < m → R1 22 v = none) → wX1_clear_71 pst (k + 1) (some 17) (nI m) (cp nA (nQ + 2) R1 Ib J) := by
    intro Ib hb h19 k
    induction k with
    | zero =>
      intro m R1 hm r1 r2 r3
      have e : m = 16 := by omega
      subst e
      unfold wX1_clear_71
      rw [brt (by decide)]
      exact hp R1 Ib ⟨fun c hc => (hb c (by omega)).trans (ha c hc), r1⟩ (by rw [hb 17 (by decide)]; exact h6) (by rw [hb 17 (by decide)]; exact h7) (fun x hx => ⟨by rw [hb 18 (by decide)]; exact h18 x hx, h19 x hx, by rw [hb 20 (by decide)]; exact h20 x hx⟩) r2 r3
    | succ k ih =>
      intro m R1 hm r1 r2 r3
      have h16 : ¬ (16 : Int32) ≤ nI m := by rw [show (16 : Int32) = nI 16 from rfl, ile (by decide) (by omega)]; omega
      unfold wX1_clear_71
      simp (disch := first | decide | omega) only [brf h16, brT, brF, c_I, c_rc, c_pI, c_pZ, c_aI, c_sI, ca_I, ca_rc, ca_pI, cq_I, cq_rc, cq_pI, cq_R, cq_aR, cs_I, cs_rc, cs_pI, cs_pZ, f0_0, f0_1, f0_2, f0_3, f0_4, f0_5, f0_6, f0_7, f1_0, f3_0, f4_0, f4_1, f7_0, f7_1, f7_2, f7_3, f7_4, f7_5, f7_6, f7_7, f7_8, f7_9, f17_0, f17_1, f17_2, f17_3, f17_4, f17_5, f0_8, f0_8p, f7_10, f7_10p, g9, g9r, g9w, g11, g11r, g11w, g12, g12r, g12w, g13, g13r, g13w, g14, g14r, g14w, g15, g15r, g15w, g25, g25r, g25w, h5, h5w, h5z, h6, h6w, h6z, h8, h8w, h8z, h21, h21w, h21z, h22, h22w, h22z, h23, h23w, fl10, fl16, fl18, fl20, fl24, g11f, g12f, g13f, g14f, g15f, g25f, cN2, cN10, cN16, cN18, cN19, cN20, cN24, z01, z11, ix1, ix2, nI_add, nI_clamp, vin, true_and, and_true, or_true, true_or]
      refine ih (m + 1) _ (by omega) (fun c a b => by rw [p2_ne b]; exact r1 c a b) (fun v hv => by rw [p2_ne (by decide)]; exact r2 v hv) fun v hv => ?_
      by_cases e : v = m
      · rw [e, p2_same]
      · rw [p2_row e]; exact r3 v (by omega)
  have k50 : ∀ Ib, (∀ c, c ≠ 19 → Ib c = Ia c) → (∀ x, x < 250 → Ib 19 x = nI x) → ∀ k m R1, 31 = m + k → (∀ c, c ≠ 21 → c ≠ 22 → R1 c = R c) → (∀ v, v < m → R1 21 v = none) → wX1_clear_50 pst (k + 1) (some 17) (nI m) (cp nA (nQ + 2) R1 Ib J) := by
    intro Ib hb h19 k
    induction k with
    | zero =>
      intro m R1 hm r1 r2
      have e : m = 31 := by omega
      subst e
      unfold wX1_clear_50
      rw [brt (by decide)]
      exact ⟨_, k71 Ib hb h19 16 0 R1 (by omega) r1 r2 fun v hv => by omega⟩
    | succ k ih =>
      intro m R1 hm r1 r2
      have h31 : ¬ (31 : Int32) ≤ nI m := by rw [show (31 : Int32) = nI 31 from rfl, ile (by decide) (by omega)]; omega
      unfold wX1_clear_50
      simp (disch := first | decide | omega) only [brf h31, brT, brF, c_I, c_rc, c_pI, c_pZ, c_aI, c_sI, ca_I, ca_rc, ca_pI, cq_I, cq_rc, cq_pI, cq_R, cq_aR, cs_I, cs_rc, cs_pI, cs_pZ, f0_0, f0_1, f0_2, f0_3, f0_4, f0_5, f0_6, f0_7, f1_0, f3_0, f4_0, f4_1, f7_0, f7_1, f7_2, f7_3, f7_4, f7_5, f7_6, f7_7, f7_8, f7_9, f17_0, f17_1, f17_2, f17_3, f17_4, f17_5, f0_8, f0_8p, f7_10, f7_10p, g9, g9r, g9w, g11, g11r, g11w, g12, g12r, g12w, g13, g13r, g13w, g14, g14r, g14w, g15, g15r, g15w, g25, g25r, g25w, h5, h5w, h5z, h6, h6w, h6z, h8, h8w, h8z, h21, h21w, h21z, h22, h22w, h22z, h23, h23w, fl10, fl16, fl18, fl20, fl24, g11f, g12f, g13f, g14f, g15f, g25f, cN2, cN10, cN16, cN18, cN19, cN20, cN24, z01, z11, ix1, ix2, nI_add, nI_clamp, vin, true_and, and_true, or_true, true_or]
      refine ih (m + 1) _ (by omega) (fun c a b => by rw [p2_ne a]; exact r1 c a b) fun v hv => ?_
      by_cases e : v = m
      · rw [e, p2_same]
      · rw [p2_row e]; exact r2 v (by omega)
  have k28 : ∀ k m Ib, 250 = m + k → (∀ c, c ≠ 19 → Ib c = Ia c) → (∀ x, x < m → Ib 19 x = nI x) → wX1_clear_28 pst (k + 1) (some 17) (nI m) (cp nA (nQ + 2) R Ib J) := by
    intro k
    induction k with
    | zero =>
      intro m Ib hm hb h19
      have e : m = 250 := by omega
      subst e
      unfold wX1_clear_28
      rw [brt (by decide)]
      exact ⟨_, k50 Ib hb h19 31 0 R (by omega) (fun _ _ _ => rfl) fun v hv => by omega⟩
    | succ k ih =>
      intro m Ib hm hb h19
      have h250 : ¬ (250 : Int32) ≤ nI m := by rw [show (250 : Int32) = nI 250 from rfl, ile (by decide) (by omega)]; omega
      unfold wX1_clear_28
      simp (disch := first | decide | omega) only [brf h250, brT, brF, c_I, c_rc, c_pI, c_pZ, c_aI, c_sI, ca_I, ca_rc, ca_pI, cq_I, cq_rc, cq_pI, cq_R, cq_aR, cs_I, cs_rc, cs_pI, cs_pZ, f0_0, f0_1, f0_2, f0_3, f0_4, f0_5, f0_6, f0_7, f1_0, f3_0, f4_0, f4_1, f7_0, f7_1, f7_2, f7_3, f7_4, f7_5, f7_6, f7_7, f7_8, f7_9, f17_0, f17_1, f17_2, f17_3, f17_4, f17_5, f0_8, f0_8p, f7_10, f7_10p, g9, g9r, g9w, g11, g11r, g11w, g12, g12r, g12w, g13, g13r, g13w, g14, g14r, g14w, g15, g15r, g15w, g25, g25r, g25w, h5, h5w, h5z, h6, h6w, h6z, h8, h8w, h8z, h21, h21w, h21z, h22, h22w, h22z, h23, h23w, fl10, fl16, fl18, fl20, fl24, g11f, g12f, g13f, g14f, g15f, g25f, cN2, cN10, cN16, cN18, cN19, cN20, cN24, z01, z11, ix1, ix2, nI_add, nI_clamp, vin, true_and, and_true, or_true, true_or]
      refine ih (m + 1) _ (by omega) (fun c hc => by rw [p2_ne hc]; exact hb c hc) fun x hx => ?_
      by_cases e : x = m
      · rw [e, p2_same]
      · rw [p2_row e]; exact h19 x (by omega)
  exact ⟨_, k28 250 0 Ia (by omega) (fun _ _ => rfl) fun x hx => by omega⟩
/-- weights behind q questions and m finds of the next -/
noncomputable def gwt (D : Mem) (nA nE : Nat) (t : Int32) (q m x : Nat) : Nat := wtf D nA nE t q x + @ite _ (∃ k, k < m ∧ (FL D nA t q nA).getD k 0 = x ∧ ¬ EXQ D nE q x) (Classical.propDecidable _) 1 0
theorem FL_nd : (FL D nA t q nA).Nodup := by
  have hb : (byT D nA).Nodup := (byT_bef nA).imp fun h e => by
    rw [e] at h
    rcases h with h | h
    · exact Int32.lt_irrefl h
    · exact Nat.lt_irrefl _ h.2
  exact hb.sublist List.filter_sublist
theorem FL_inj {k m : Nat} (hk : k < (FL D nA t q nA).length) (hm : m < (FL D nA t q nA).length) (e : (FL D nA t q nA).getD k 0 = (FL D nA t q nA).getD m 0) : k = m := by
  rw [getD_lt hk, getD_lt hm] at e
  apply Decidable.byContradiction
  intro hne
  by_cases h : k < m
  · exact List.pairwise_iff_getElem.mp (FL_nd (D := D) (nA := nA) (t := t) (q := q)) k m hk hm h e
  · exact List.pairwise_iff_getElem.mp (FL_nd (D := D) (nA := nA) (t := t) (q := q)) m k hm hk (by omega) e.symm
theorem gwt_end {x : Nat} : gwt D nA nE t q (FL D nA t q nA).length x = wtf D nA nE t (q + 1) x := by
  unfold gwt wtf
  by_cases hx : x < nA
  · rw [if_pos hx, if_pos hx]
    have e : (∃ k, k < (FL D nA t q nA).length ∧ (FL D nA t q nA).getD k 0 = x ∧ ¬ EXQ D nE q x) ↔ FD D nA t q x ∧ ¬ EXQ D nE q x := by
      constructor
      · rintro ⟨k, h1, h2, h3⟩
        have : (FL D nA t q nA).getD k 0 ∈ FL D nA t q nA := by rw [getD_lt h1]; exact List.getElem_mem h1
        rw [h2] at this
        exact ⟨(FL_mem.mp this).2, h3⟩
      · rintro ⟨h1, h2⟩
        obtain ⟨k, hk, e⟩ := List.getElem_of_mem (FL_mem.mpr ⟨hx, h1⟩)
        exact ⟨k, hk, by rw [getD_lt hk]; exact e, h2⟩
    by_cases h : FD D nA t q x ∧ ¬ EXQ D nE q x
    · rw [if_pos (e.mpr h), cnt_t (p := fun q => FD D nA t q x ∧ ¬ EXQ D nE q x) h]
    · rw [if_neg (fun z => h (e.mp z)), cnt_f (p := fun q => FD D nA t q x ∧ ¬ EXQ D nE q x) h, Nat.add_zero]
  · rw [if_neg hx, if_neg hx, if_neg, Nat.add_zero]
    rintro ⟨k, h1, h2, _⟩
    have := FL_get (D := D) (nA := nA) (t := t) (q := q) h1
    omega
theorem v_gather (hq : q < nQ) {R0 : RMem} {I0 : Mem} (hC : CI D nA nQ nE nT nw nc R I) (hne : I 0 15 ≠ I 0 14) (hF : FRA R0 I0 R I) (h18 : ∀ x, x < 250 → I 18 x = nI (wtf D nA nE (D 0 1) q x)) (h6 : I 17 6 = nI (sfl D nA (D 0 1) q)) (h7 : I 17 7 = 0) (h19 : ∀ x, x < 250 → I 19 x = nI x ∧ I 20 x = 0) (h21 : (∀ v, v < 31 → R 21 v = none) ∧ ∀ v, v < 16 → R 22 v = none) (hp : ∀ R' I', CI D nA nQ nE nT nw nc R' I' → I' 0 = I 0 → FRA R0 I0 R' I' → (∀ x, x < 250 → I' 18 x = nI (wtf D nA nE (D 0 1) (q + 1) x)) → I' 17 6 = nI (sfl D nA (D 0 1) (q + 1)) → I' 17 7 = 0 → (∀ x, x < 250 → I' 19 x = nI x ∧ I' 20 x = 0) → ((∀ v, v < 31 → R' 21 v = none) ∧ ∀ v, v < 16 → R' 22 v = none) → pst (cp nA (nQ + 2) R' I' J)) : wX8_gatherFinds pst (some 0) (some (2000 + 8 * (1 + q))) (nI q) (cp nA (nQ + 2) R I J) := by
  have h11 : I 0 11 = D 0 1 := hC.1.2.2.2.2.2.1
  unfold wX8_gatherFinds
  rw [brf (by simp)]
  simp (disch := first | decide | omega) only [brT, brF, c_I, c_rc, c_pI, c_pZ, c_aI, c_sI, ca_I, ca_rc, ca_pI, cq_I, cq_rc, cq_pI, cq_R, cq_aR, cs_I, cs_rc, cs_pI, cs_pZ, f0_0, f0_1, f0_2, f0_3, f0_4, f0_5, f0_6, f0_7, f1_0, f3_0, f4_0, f4_1, f7_0, f7_1, f7_2, f7_3, f7_4, f7_5, f7_6, f7_7, f7_8, f7_9, f17_0, f17_1, f17_2, f17_3, f17_4, f17_5, f0_8, f0_8p, f7_10, f7_10p, g9, g9r, g9w, g11, g11r, g11w, g12, g12r, g12w, g13, g13r, g13w, g14, g14r, g14w, g15, g15r, g15w, g25, g25r, g25w, h5, h5w, h5z, h6, h6w, h6z, h8, h8w, h8z, h21, h21w, h21z, h22, h22w, h22z, h23, h23w, fl10, fl16, fl18, fl20, fl24, g11f, g12f, g13f, g14f, g15f, g25f, cN2, cN10, cN16, cN18, cN19, cN20, cN24, z01, z11, ix1, ix2, nI_add, nI_clamp, vin, true_and, and_true, or_true, true_or, h11]
  refine v_goQ hC hq fun R1 I1 b1 b2 b3 => ?_
  have hA := b2.1.1.1.1
  have h8 := b2.1.2.1.1
  have hFl := FL_250 (D := D) (t := D 0 1) (q := q) hA
  have hND := b3.2.2.2.2.2.2
  have hI1 : ∀ c, c = 0 ∨ (17 ≤ c ∧ c ≤ 20) → I1 c = I c := fun c hc => b1.1 c (by omega) (by unfold sw; omega)
  have key : ∀ k m I2, (FL D nA (D 0 1) q nA).length = m + k → (∀ c, c ≠ 17 → c ≠ 18 → I2 c = I1 c) → I2 17 7 = 0 → I2 17 6 = nI (sfl D nA (D 0 1) q + m) → (∀ x, x < 250 → I2 18 x = nI (gwt D nA nE (D 0 1) q m x)) → wX8_gatherFinds_20 pst (k + 1) (some 0) (nI q) (nI m) (cp nA (nQ + 2) R1 I2 J) := by
    intro k
    induction k with
    | zero =>
      intro m I2 hm c1 c2 c3 c4
      have e : (FL D nA (D 0 1) q nA).length = m := by omega
      have hne1 : I1 0 15 ≠ I1 0 14 := by rw [hI1 0 (by omega)]; exact hne
      have hfj : FRJ R1 I1 R1 I2 := ⟨fun c hc => c1 c (by omega) (by omega), fun _ _ _ => rfl⟩
      unfold wX8_gatherFinds_20
      have e15 : I2 7 15 = nI (FL D nA (D 0 1) q nA).length := by rw [c1 7 (by decide) (by decide)]; exact hND.1
      simp (disch := first | decide | omega) only [brT, brF, c_I, c_rc, c_pI, c_pZ, c_aI, c_sI, ca_I, ca_rc, ca_pI, cq_I, cq_rc, cq_pI, cq_R, cq_aR, cs_I, cs_rc, cs_pI, cs_pZ, f0_0, f0_1, f0_2, f0_3, f0_4, f0_5, f0_6, f0_7, f1_0, f3_0, f4_0, f4_1, f7_0, f7_1, f7_2, f7_3, f7_4, f7_5, f7_6, f7_7, f7_8, f7_9, f17_0, f17_1, f17_2, f17_3, f17_4, f17_5, f0_8, f0_8p, f7_10, f7_10p, g9, g9r, g9w, g11, g11r, g11w, g12, g12r, g12w, g13, g13r, g13w, g14, g14r, g14w, g15, g15r, g15w, g25, g25r, g25w, h5, h5w, h5z, h6, h6w, h6z, h8, h8w, h8z, h21, h21w, h21z, h22, h22w, h22z, h23, h23w, fl10, fl16, fl18, fl20, fl24, g11f, g12f, g13f, g14f, g15f, g25f, cN2, cN10, cN16, cN18, cN19, cN20, cN24, z01, z11, ix1, ix2, nI_add, nI_clamp, vin, true_and, and_true, or_true, true_or, e15, ile, brt (show (FL D nA (D 0 1) q nA).length ≤ m by omega)]
      refine hp R1 I2 (CI_j b2 hne1 hfj) ((c1 0 (by decide) (by decide)).trans (hI1 0 (by omega))) (FRA_trans hF (FRA_trans (FRA_g b1) (FRA_j hfj))) (fun x hx => ?_) ?_ c2 (fun x hx => ?_) ⟨fun v hv => ?_, fun v hv => ?_⟩
      · rw [c4 x hx, ← e, gwt_end]
      · rw [c3, ← e]; rfl
      · rw [c1 19 (by decide) (by decide), c1 20 (by decide) (by decide), hI1 19 (by omega), hI1 20 (by omega)]; exact h19 x hx
      · rw [b1.2 21 (by decide) (by decide)]; exact h21.1 v hv
      · rw [b1.2 22 (by decide) (by decide)]; exact h21.2 v hv
    | succ k ih =>
      intro m I2 hm c1 c2 c3 c4
      have hml : m < (FL D nA (D 0 1) q nA).length := by omega
      have hfa := FL_get (D := D) (nA := nA) (t := D 0 1) (q := q) hml
      have hfj : FRJ R1 I1 R1 I2 := ⟨fun c hc => c1 c (by omega) (by omega), fun _ _ _ => rfl⟩
      have hCB2 := CB_fr b2.1 (FRA_j hfj)
      obtain ⟨_, e0, _⟩ := hCB2.1.2.2.2.1 _ hfa
      have e15 : I2 7 15 = nI (FL D nA (D 0 1) q nA).length := by rw [c1 7 (by decide) (by decide)]; exact hND.1
      have hND2 : NDs (FL D nA (D 0 1) q nA) R1 I2 := ⟨e15, hND.2⟩
      unfold wX8_gatherFinds_20 wX8_gatherFinds_62
      simp (disch := first | decide | omega) only [brT, brF, c_I, c_rc, c_pI, c_pZ, c_aI, c_sI, ca_I, ca_rc, ca_pI, cq_I, cq_rc, cq_pI, cq_R, cq_aR, cs_I, cs_rc, cs_pI, cs_pZ, f0_0, f0_1, f0_2, f0_3, f0_4, f0_5, f0_6, f0_7, f1_0, f3_0, f4_0, f4_1, f7_0, f7_1, f7_2, f7_3, f7_4, f7_5, f7_6, f7_7, f7_8, f7_9, f17_0, f17_1, f17_2, f17_3, f17_4, f17_5, f0_8, f0_8p, f7_10, f7_10p, g9, g9r, g9w, g11, g11r, g11w, g12, g12r, g12w, g13, g13r, g13w, g14, g14r, g14w, g15, g15r, g15w, g25, g25r, g25w, h5, h5w, h5z, h6, h6w, h6z, h8, h8w, h8z, h21, h21w, h21z, h22, h22w, h22z, h23, h23w, fl10, fl16, fl18, fl20, fl24, g11f, g12f, g13f, g14f, g15f, g25f, cN2, cN10, cN16, cN18, cN19, cN20, cN24, z01, z11, ix1, ix2, nI_add, nI_clamp, vin, true_and, and_true, or_true, true_or, e15, ile, brf (show ¬ (FL D nA (D 0 1) q nA).length ≤ m by omega), v_findAt_n hND2 hFl hml]
      rw [brf (by simp), v_isEx hCB2 (by omega) hfa]
      unfold wX1_add
      simp (disch := first | decide | omega) only [brT, brF, c_I, c_rc, c_pI, c_pZ, c_aI, c_sI, ca_I, ca_rc, ca_pI, cq_I, cq_rc, cq_pI, cq_R, cq_aR, cs_I, cs_rc, cs_pI, cs_pZ, f0_0, f0_1, f0_2, f0_3, f0_4, f0_5, f0_6, f0_7, f1_0, f3_0, f4_0, f4_1, f7_0, f7_1, f7_2, f7_3, f7_4, f7_5, f7_6, f7_7, f7_8, f7_9, f17_0, f17_1, f17_2, f17_3, f17_4, f17_5, f0_8, f0_8p, f7_10, f7_10p, g9, g9r, g9w, g11, g11r, g11w, g12, g12r, g12w, g13, g13r, g13w, g14, g14r, g14w, g15, g15r, g15w, g25, g25r, g25w, h5, h5w, h5z, h6, h6w, h6z, h8, h8w, h8z, h21, h21w, h21z, h22, h22w, h22z, h23, h23w, fl10, fl16, fl18, fl20, fl24, g11f, g12f, g13f, g14f, g15f, g25f, cN2, cN10, cN16, cN18, cN19, cN20, cN24, z01, z11, ix1, ix2, nI_add, nI_clamp, vin, true_and, and_true, or_true, true_or, c3, p2_ne, e0]
      rw [bI_br]
      have hold : ∀ x, x < 250 → ¬ ((FL D nA (D 0 1) q nA).getD m 0 = x ∧ ¬ EXQ D nE q x) → gwt D nA nE (D 0 1) q (m + 1) x = gwt D nA nE (D 0 1) q m x := fun x hx hn => by
        unfold gwt
        have e : (∃ k, k < m + 1 ∧ (FL D nA (D 0 1) q nA).getD k 0 = x ∧ ¬ EXQ D nE q x) = (∃ k, k < m ∧ (FL D nA (D 0 1) q nA).getD k 0 = x ∧ ¬ EXQ D nE q x) := propext ⟨fun ⟨k, h1, h2⟩ => by
          by_cases e : k = m
          · subst e; exact absurd h2 hn
          · exact ⟨k, by omega, h2⟩, fun ⟨k, h1, h2⟩ => ⟨k, by omega, h2⟩⟩
        rw [e]
      refine brc (fun hex => ?_) fun hex => ?_
      · refine ih (m + 1) _ (by omega) (fun c h1 h2 => by rw [p2_ne h1]; exact c1 c h1 h2) (by rw [p2_row (by decide)]; exact c2) (by rw [p2_same]; rfl) fun x hx => ?_
        rw [p2_ne (by decide), c4 x hx, hold x hx (fun z => z.2 (z.1 ▸ hex))]
      · simp (disch := first | decide | omega) only [brT, brF, c_I, c_rc, c_pI, c_pZ, c_aI, c_sI, ca_I, ca_rc, ca_pI, cq_I, cq_rc, cq_pI, cq_R, cq_aR, cs_I, cs_rc, cs_pI, cs_pZ, f0_0, f0_1, f0_2, f0_3, f0_4, f0_5, f0_6, f0_7, f1_0, f3_0, f4_0, f4_1, f7_0, f7_1, f7_2, f7_3, f7_4, f7_5, f7_6, f7_7, f7_8, f7_9, f17_0, f17_1, f17_2, f17_3, f17_4, f17_5, f0_8, f0_8p, f7_10, f7_10p, g9, g9r, g9w, g11, g11r, g11w, g12, g12r, g12w, g13, g13r, g13w, g14, g14r, g14w, g15, g15r, g15w, g25, g25r, g25w, h5, h5w, h5z, h6, h6w, h6z, h8, h8w, h8z, h21, h21w, h21z, h22, h22w, h22z, h23, h23w, fl10, fl16, fl18, fl20, fl24, g11f, g12f, g13f, g14f, g15f, g25f, cN2, cN10, cN16, cN18, cN19, cN20, cN24, z01, z11, ix1, ix2, nI_add, nI_clamp, vin, true_and, and_true, or_true, true_or, c4 _ (show (FL D nA (D 0 1) q nA).getD m 0 < 250 by omega), p2_ne]
        refine ih (m + 1) _ (by omega) (fun c h1 h2 => by rw [p2_ne h2, p2_ne h1]; exact c1 c h1 h2) (by rw [p2_ne (by decide), p2_row (by decide)]; exact c2) (by rw [p2_ne (by decide), p2_same]; rfl) fun x hx => ?_
        by_cases e : x = (FL D nA (D 0 1) q nA).getD m 0
        · subst e
          rw [p2_same]
          have g1 : gwt D nA nE (D 0 1) q (m + 1) ((FL D nA (D 0 1) q nA).getD m 0) = wtf D nA nE (D 0 1) q ((FL D nA (D 0 1) q nA).getD m 0) + 1 := by
            unfold gwt
            rw [if_pos ⟨m, by omega, rfl, hex⟩]
          have g0 : gwt D nA nE (D 0 1) q m ((FL D nA (D 0 1) q nA).getD m 0) = wtf D nA nE (D 0 1) q ((FL D nA (D 0 1) q nA).getD m 0) := by
            unfold gwt
            rw [if_neg, Nat.add_zero]
            rintro ⟨k, k1, k2, _⟩
            have := FL_inj (show k < _ by omega) hml k2
            omega
          rw [g1, g0]
        · rw [p2_row e, p2_ne (by decide), c4 x hx, hold x hx (fun z => e z.1.symm)]
  refine ⟨_, key (FL D nA (D 0 1) q nA).length 0 I1 (by omega) (fun _ _ _ => rfl) (by rw [hI1 17 (by omega)]; exact h7) (by rw [hI1 17 (by omega)]; exact h6) fun x hx => ?_⟩
  rw [hI1 18 (by omega), h18 x hx]
  unfold gwt
  rw [if_neg (by rintro ⟨k, h, _⟩; omega), Nat.add_zero]
end
