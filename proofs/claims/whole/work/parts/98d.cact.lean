section
variable {D D' : Mem} {nA nQ nE nT nw nc q a b s p k l ns fb pf m nK : Nat} {R : RMem} {I I' : Mem} {J : Nat → Nat → Int64} {t v w u x y : Int32} {post : Int32 → Pool → Prop} {pst : Pool → Prop} {pox : String → Pool → Prop}
theorem CI_dbl (hC : CI D nA nQ nE nT nw nc R I) (ha : a < nA) : CI (dbM D a) nA nQ nE nT nw nc R (p2 (p2 I (1000 + a) 7 (D 10 a + 1)) 4 3 (I 4 3 + 1)) := by
  have hC1 := CI_tl hC (TL_00 (v := 0))
  have hn := CB_ns hC1.1
  have hA := hC.1.1.1.1
  have d1 : ∀ c, c ≠ 0 → c ≠ 10 → dbM D a c = p2 D 0 0 0 c := fun c h1 h2 => by unfold dbM; rw [p2_ne h1, p2_ne h2]
  have d0 : ∀ k, k ≠ 5 → dbM D a 0 k = p2 D 0 0 0 0 k := fun k h => by unfold dbM; rw [p2_row h, p2_ne (by decide)]
  have hq : ∀ q, q < nQ → AGQ (p2 D 0 0 0) (dbM D a) q := fun q _ => AGQ_r fun c hc => d1 c (by revert hc; simp; omega) (by revert hc; simp; omega)
  obtain ⟨⟨b1, b2, b3, b4, b5⟩, hS, hJ⟩ := hC1
  have hc : ∀ c, c ≠ 4 → c ≠ 1000 + a → p2 (p2 I (1000 + a) 7 (D 10 a + 1)) 4 3 (I 4 3 + 1) c = I c := fun c h1 h2 => by rw [p2_ne h1, p2_ne h2]
  refine ⟨⟨?_, CBq_I (CBq_d b2 hq (d0 11 (by decide))) (congrFun (hc 0 (by decide) (by omega)) 9) (fun c h1 => hc c (by omega) (by omega)), CBt_I (CBt_d b3 (d1 26 (by decide) (by decide)) (d0 27 (by decide))) (hc 1 (by decide) (by omega)) (hc 2 (by decide) (by omega)), CBe_I (CBe_d b4 (d1 23 (by decide) (by decide)) (d1 24 (by decide) (by decide)) (d1 25 (by decide) (by decide)) (d0 22 (by decide))) (congrFun (hc 0 (by decide) (by omega)) 10) (fun c h1 h2 => hc c (by omega) (by omega)), CBs_I (CBs_d b5 (d1 3 (by decide) (by decide)) (d0 1 (by decide)) (d0 2 (by decide)) (d0 30 (by decide)) (d1 14 (by decide) (by decide)) (d1 17 (by decide) (by decide))) (hc 24 (by decide) (by omega)) (congrFun (hc 0 (by decide) (by omega)) 11) (congrFun (hc 0 (by decide) (by omega)) 12) (congrFun (hc 0 (by decide) (by omega)) 13)⟩, SWC_I (ag_SWC hq hn hS) (fun q h => by rw [ag_nsq (hq q h)]; exact hn q h) (fun c h => hc c (by omega) (by omega)), JCH_I (JCH_d hJ ⟨hq, d1 7 (by decide) (by decide), d1 8 (by decide) (by decide), d1 23 (by decide) (by decide), d1 24 (by decide) (by decide), d1 25 (by decide) (by decide), d0 1 (by decide), d0 2 (by decide)⟩ hn) ⟨congrFun (hc 0 (by decide) (by omega)) 14, congrFun (hc 0 (by decide) (by omega)) 15⟩ (fun c h => hc c (by omega) (by omega))⟩
  obtain ⟨a1, a2, a3, a4, a5, a6⟩ := b1
  have hfam : ∀ i, fam (dbM D a) i = fam (p2 D 0 0 0) i := fun i => by unfold fam alk; rw [d1 6 (by decide) (by decide), d1 7 (by decide) (by decide)]
  refine ⟨?_, (d0 4 (by decide)).trans a2, (d0 1 (by decide)).trans a3, fun i hi => ?_, fun k hk => ?_, ?_⟩
  · unfold WA tk td vv at a1 ⊢; rw [d1 7 (by decide) (by decide), d1 8 (by decide) (by decide), d1 9 (by decide) (by decide)]; exact a1
  · obtain ⟨e5, f0, f1, f2, f5, f6, f7, f8⟩ := a4 i hi
    rw [d1 6 (by decide) (by decide), d1 7 (by decide) (by decide), d1 8 (by decide) (by decide), d1 9 (by decide) (by decide), hfam]
    by_cases e : i = a
    · subst e
      rw [p2_ne (show 1000 + i ≠ 4 by omega)]
      have h7 : ∀ j, j ≠ 7 → p2 I (1000 + i) 7 (D 10 i + 1) (1000 + i) j = I (1000 + i) j := fun j hj => p2_row hj
      rw [h7 0 (by decide), h7 1 (by decide), h7 5 (by decide), h7 6 (by decide), h7 8 (by decide), p2_same]
      refine ⟨e5, f0, f1, fun f hf => by rw [h7 (2 + f) (by omega)]; exact f2 f hf, f5, f6, ?_, f8⟩
      unfold dbM
      rw [p2_ne (by decide), p2_same]
    · rw [hc (1000 + i) (by omega) (by omega)]
      refine ⟨e5, f0, f1, f2, f5, f6, ?_, f8⟩
      unfold dbM
      rw [p2_ne (by decide), p2_row e]
      exact f7
  · rw [ag_byT (d1 8 (by decide) (by decide))]; exact a5 k hk
  · obtain ⟨l1, l2, l3⟩ := a6
    unfold LG
    rw [d1 8 (by decide) (by decide), d1 9 (by decide) (by decide)]
    refine ⟨by rw [p2_row (by decide), p2_ne (by omega)]; exact l1, ?_, by rw [p2_row (by decide), p2_ne (by omega)]; exact l3⟩
    rw [p2_same, l2]
    unfold dbM
    rw [p2_same, p2_row (by decide)]
theorem v_family (hA : nA < 250) (hAC : AC D nA R I) (h4 : I 4 2 = nI nA) (f0 : I (1000 + nA) 0 = nI nA) (f1 : I (1000 + nA) 1 = D 6 nA) (f2 : ∀ f, f < 3 → I (1000 + nA) (2 + f) = D 7 (3 * nA + f)) (hp : post (nI (fam D nA)) (cp (nA + 1) nK R I J)) : wX2_familyOf post (some 4) (some (1000 + nA)) (cp (nA + 1) nK R I J) := by
  have key : ∀ k i, nA = i + k → fam D nA = lst1 (alk D nA) k i → wX2_familyOf_2 post (k + 1) (some 4) (some (1000 + nA)) (nI i) (cp (nA + 1) nK R I J) := by
    intro k
    induction k with
    | zero =>
      intro i hi h
      unfold wX2_familyOf_2
      simp (disch := first | decide | omega) only [brT, brF, c_I, c_rc, c_pI, c_pZ, c_aI, c_sI, ca_I, ca_rc, ca_pI, cq_I, cq_rc, cq_pI, cq_R, cq_aR, cs_I, cs_rc, cs_pI, cs_pZ, f0_0, f0_1, f0_2, f0_3, f0_4, f0_5, f0_6, f0_7, f1_0, f3_0, f4_0, f4_1, f7_0, f7_1, f7_2, f7_3, f7_4, f7_5, f7_6, f7_7, f7_8, f7_9, f17_0, f17_1, f17_2, f17_3, f17_4, f17_5, f0_8, f0_8p, f7_10, f7_10p, g9, g9r, g9w, g11, g11r, g11w, g12, g12r, g12w, g13, g13r, g13w, g14, g14r, g14w, g15, g15r, g15w, g25, g25r, g25w, h5, h5w, h5z, h6, h6w, h6z, h8, h8w, h8z, h21, h21w, h21z, h22, h22w, h22z, h23, h23w, fl10, fl16, fl18, fl20, fl24, g11f, g12f, g13f, g14f, g15f, g25f, cN2, cN10, cN16, cN18, cN19, cN20, cN24, z01, z11, ix1, ix2, nI_add, nI_clamp, vin, true_and, and_true, or_true, true_or, h4, ile, brt (show nA ≤ i by omega), f0]
      rw [h] at hp
      unfold lst1 at hp
      have e : nI nA = nI i := congrArg nI (by omega)
      rw [e]
      exact hp
    | succ k ih =>
      intro i hi h
      obtain ⟨e5, _, g1, g2, _⟩ := hAC i (by omega)
      have z0 : I (1000 + i) 2 = D 7 (3 * i) := g2 0 (by decide)
      have z1 : I (1000 + i) 3 = D 7 (3 * i + 1) := g2 1 (by decide)
      have y0 : I (1000 + nA) 2 = D 7 (3 * nA) := f2 0 (by decide)
      have y1 : I (1000 + nA) 3 = D 7 (3 * nA + 1) := f2 1 (by decide)
      unfold wX2_familyOf_2
      simp (disch := first | decide | omega) only [brT, brF, c_I, c_rc, c_pI, c_pZ, c_aI, c_sI, ca_I, ca_rc, ca_pI, cq_I, cq_rc, cq_pI, cq_R, cq_aR, cs_I, cs_rc, cs_pI, cs_pZ, f0_0, f0_1, f0_2, f0_3, f0_4, f0_5, f0_6, f0_7, f1_0, f3_0, f4_0, f4_1, f7_0, f7_1, f7_2, f7_3, f7_4, f7_5, f7_6, f7_7, f7_8, f7_9, f17_0, f17_1, f17_2, f17_3, f17_4, f17_5, f0_8, f0_8p, f7_10, f7_10p, g9, g9r, g9w, g11, g11r, g11w, g12, g12r, g12w, g13, g13r, g13w, g14, g14r, g14w, g15, g15r, g15w, g25, g25r, g25w, h5, h5w, h5z, h6, h6w, h6z, h8, h8w, h8z, h21, h21w, h21z, h22, h22w, h22z, h23, h23w, fl10, fl16, fl18, fl20, fl24, g11f, g12f, g13f, g14f, g15f, g25f, cN2, cN10, cN16, cN18, cN19, cN20, cN24, z01, z11, ix1, ix2, nI_add, nI_clamp, vin, true_and, and_true, or_true, true_or, h4, ile, brf (show ¬ nA ≤ i by omega), e5]
      rw [v_alike (show nA + 1 ≤ 250 by omega) (show i < nA + 1 by omega) (show nA < nA + 1 by omega), g1, z0, z1, f1, y0, y1, bI_br]
      unfold lst1 at h
      refine brc (fun g => ?_) fun g => ?_
      · rw [if_pos (show alk D nA i from g)] at h
        rw [h] at hp
        exact hp
      · rw [if_neg (show ¬ alk D nA i from g)] at h
        exact ih (i + 1) (by omega) h
  unfold wX2_familyOf
  exact ⟨_, key nA 0 (by omega) rfl⟩
theorem v_add (hA : nA < 250) (hAC : AC D nA R I) (hBT : BT D nA R) (h4 : I 4 2 = nI nA) (f0 : I (1000 + nA) 0 = nI nA) (f1 : I (1000 + nA) 1 = D 6 nA) (f2 : ∀ f, f < 3 → I (1000 + nA) (2 + f) = D 7 (3 * nA + f)) (f5 : I (1000 + nA) 5 = D 8 nA) (f6 : I (1000 + nA) 6 = D 9 nA) (f7 : I (1000 + nA) 7 = D 10 nA) (hp : ∀ R' I', AC D (nA + 1) R' I' → BT D (nA + 1) R' → I' 4 2 = nI (nA + 1) → I' 4 3 = I 4 3 → I' 4 4 = (if D 8 nA < D 9 nA then I 4 4 + 1 else I 4 4) → (∀ c, c ≠ 4 → c ≠ 1000 + nA → I' c = I c) → (∀ c, c ≠ 5 → c ≠ 6 → R' c = R c) → pst (cp (nA + 1) nK R' I' J)) : wX2_add pst (some 4) (some (1000 + nA)) (cp (nA + 1) nK R I J) := by
  have h250 : nI nA < 250 := by rw [show (250 : Int32) = nI 250 from rfl, ilt (by omega) (by decide)]; exact hA
  have hlen : (byT D nA).length = nA := byT_len nA
  -- the acts' rows, once the family is set
  have main : ∀ I2 : Mem, (∀ c, c ≠ 4 → c ≠ 1000 + nA → I2 c = I c) → I2 4 2 = nI nA → I2 4 3 = I 4 3 → I2 4 4 = (if D 8 nA < D 9 nA then I 4 4 + 1 else I 4 4) → (∀ j, j ≠ 8 → I2 (1000 + nA) j = I (1000 + nA) j) → I2 (1000 + nA) 8 = nI (fam D nA) → wX2_add_41 pst (some 4) (some (1000 + nA)) (cp (nA + 1) nK R I2 J) := by
    intro I2 c1 c2 c3 c4 c5 c6
    have e5 : I2 (1000 + nA) 5 = D 8 nA := by rw [c5 5 (by decide)]; exact f5
    have key : ∀ to R2, to ≤ nA → (∀ c, c ≠ 5 → c ≠ 6 → R2 c = R c) → (R2 5 = p2 R 5 nA (some (1000 + nA)) 5) → (∀ j, j < to → R2 6 j = some (1000 + (byT D nA).getD j 0)) → (∀ j, to < j → j ≤ nA → R2 6 j = some (1000 + (byT D nA).getD (j - 1) 0)) → (∀ j, to ≤ j → j < nA → D 8 nA < D 8 ((byT D nA).getD j 0)) → wX2_add_56 pst (to + 1) (some 4) (some (1000 + nA)) (nI to) (cp (nA + 1) nK R2 I2 J) := by
      have stop : ∀ to R2, to ≤ nA → (∀ c, c ≠ 5 → c ≠ 6 → R2 c = R c) → (R2 5 = p2 R 5 nA (some (1000 + nA)) 5) → (∀ j, j < to → R2 6 j = some (1000 + (byT D nA).getD j 0)) → (∀ j, to < j → j ≤ nA → R2 6 j = some (1000 + (byT D nA).getD (j - 1) 0)) → (∀ j, to ≤ j → j < nA → D 8 nA < D 8 ((byT D nA).getD j 0)) → (to = 0 ∨ D 8 ((byT D nA).getD (to - 1) 0) ≤ D 8 nA) → wX2_add_98 pst (some 4) (some (1000 + nA)) (nI to) (cp (nA + 1) nK R2 I2 J) := by
        intro to R2 hto r1 r2 r3 r4 r5 r6
        have hins : byT D (nA + 1) = (byT D nA).take to ++ nA :: (byT D nA).drop to := by
          show insT D nA (byT D nA) = _
          exact insT_at (byT_srt nA) (by omega) (fun j h1 h2 => r5 j h1 (by omega)) r6
        unfold wX2_add_98
        simp (disch := first | decide | omega) only [brT, brF, c_I, c_rc, c_pI, c_pZ, c_aI, c_sI, ca_I, ca_rc, ca_pI, cq_I, cq_rc, cq_pI, cq_R, cq_aR, cs_I, cs_rc, cs_pI, cs_pZ, f0_0, f0_1, f0_2, f0_3, f0_4, f0_5, f0_6, f0_7, f1_0, f3_0, f4_0, f4_1, f7_0, f7_1, f7_2, f7_3, f7_4, f7_5, f7_6, f7_7, f7_8, f7_9, f17_0, f17_1, f17_2, f17_3, f17_4, f17_5, f0_8, f0_8p, f7_10, f7_10p, g9, g9r, g9w, g11, g11r, g11w, g12, g12r, g12w, g13, g13r, g13w, g14, g14r, g14w, g15, g15r, g15w, g25, g25r, g25w, h5, h5w, h5z, h6, h6w, h6z, h8, h8w, h8z, h21, h21w, h21z, h22, h22w, h22z, h23, h23w, fl10, fl16, fl18, fl20, fl24, g11f, g12f, g13f, g14f, g15f, g25f, cN2, cN10, cN16, cN18, cN19, cN20, cN24, z01, z11, ix1, ix2, nI_add, nI_clamp, vin, true_and, and_true, or_true, true_or, c2]
        refine hp _ _ (fun i hi => ?_) (fun j hj => ?_) (by rw [p2_same]) (by rw [p2_row (by decide)]; exact c3) (by rw [p2_row (by decide)]; exact c4) (fun c h1 h2 => by rw [p2_ne h1]; exact c1 c h1 h2) (fun c h1 h2 => by rw [p2_ne h2]; exact r1 c h1 h2)
        · rw [p2_ne (show (5 : Nat) ≠ 6 by decide), r2, p2_ne (show 1000 + i ≠ 4 by omega)]
          by_cases e : i = nA
          · subst e
            rw [p2_same, c5 0 (by decide), c5 1 (by decide), c5 5 (by decide), c5 6 (by decide), c5 7 (by decide)]
            exact ⟨rfl, f0, f1, fun f hf => by rw [c5 (2 + f) (by omega)]; exact f2 f hf, f5, f6, f7, c6⟩
          · rw [p2_row e, c1 (1000 + i) (by omega) (by omega)]
            exact hAC i (by omega)
        · rw [hins, ins_get (by omega) j]
          by_cases e : j = to
          · rw [e, p2_same, if_neg (by omega), if_pos rfl]
          · rw [p2_row e]
            by_cases e2 : j < to
            · rw [if_pos e2]; exact r3 j e2
            · rw [if_neg e2, if_neg e]; exact r4 j (by omega) (by omega)
      intro to
      induction to with
      | zero =>
        intro R2 hto r1 r2 r3 r4 r5
        unfold wX2_add_56
        rw [brt (by decide)]
        exact stop 0 R2 hto r1 r2 r3 r4 r5 (.inl rfl)
      | succ to ih =>
        intro R2 hto r1 r2 r3 r4 r5
        have hb := byT_lt (D := D) (show to < nA by omega)
        have e6 := r3 to (by omega)
        obtain ⟨_, _, _, _, g5, _⟩ := hAC _ hb
        have g5' : I2 (1000 + (byT D nA).getD to 0) 5 = D 8 ((byT D nA).getD to 0) := by rw [c1 _ (by omega) (by omega)]; exact g5
        unfold wX2_add_56
        simp (disch := first | decide | omega) only [brT, brF, c_I, c_rc, c_pI, c_pZ, c_aI, c_sI, ca_I, ca_rc, ca_pI, cq_I, cq_rc, cq_pI, cq_R, cq_aR, cs_I, cs_rc, cs_pI, cs_pZ, f0_0, f0_1, f0_2, f0_3, f0_4, f0_5, f0_6, f0_7, f1_0, f3_0, f4_0, f4_1, f7_0, f7_1, f7_2, f7_3, f7_4, f7_5, f7_6, f7_7, f7_8, f7_9, f17_0, f17_1, f17_2, f17_3, f17_4, f17_5, f0_8, f0_8p, f7_10, f7_10p, g9, g9r, g9w, g11, g11r, g11w, g12, g12r, g12w, g13, g13r, g13w, g14, g14r, g14w, g15, g15r, g15w, g25, g25r, g25w, h5, h5w, h5z, h6, h6w, h6z, h8, h8w, h8z, h21, h21w, h21z, h22, h22w, h22z, h23, h23w, fl10, fl16, fl18, fl20, fl24, g11f, g12f, g13f, g14f, g15f, g25f, cN2, cN10, cN16, cN18, cN19, cN20, cN24, z01, z11, ix1, ix2, nI_add, nI_clamp, vin, true_and, and_true, or_true, true_or, lle0, brf (show ¬ to + 1 ≤ 0 by omega), ixs, ixm, Nat.add_sub_cancel, e6, g5', e5]
        refine brc (fun h => stop (to + 1) R2 hto r1 r2 r3 r4 r5 (.inr (by rw [Nat.add_sub_cancel]; exact h))) fun h => ?_
        refine ih _ (by omega) (fun c h1 h2 => by rw [p2_ne h2]; exact r1 c h1 h2) (by rw [p2_ne (by decide)]; exact r2) (fun j hj => by rw [p2_row (by omega)]; exact r3 j (by omega)) (fun j h1 h2 => ?_) (fun j h1 h2 => ?_)
        · by_cases e : j = to + 1
          · rw [e, p2_same, Nat.add_sub_cancel]
          · rw [p2_row e]; exact r4 j (by omega) h2
        · by_cases e : j = to
          · rw [e]; exact Int32.not_le.mp h
          · exact r5 j (by omega) h2
    unfold wX2_add_41
    simp (disch := first | decide | omega) only [brT, brF, c_I, c_rc, c_pI, c_pZ, c_aI, c_sI, ca_I, ca_rc, ca_pI, cq_I, cq_rc, cq_pI, cq_R, cq_aR, cs_I, cs_rc, cs_pI, cs_pZ, f0_0, f0_1, f0_2, f0_3, f0_4, f0_5, f0_6, f0_7, f1_0, f3_0, f4_0, f4_1, f7_0, f7_1, f7_2, f7_3, f7_4, f7_5, f7_6, f7_7, f7_8, f7_9, f17_0, f17_1, f17_2, f17_3, f17_4, f17_5, f0_8, f0_8p, f7_10, f7_10p, g9, g9r, g9w, g11, g11r, g11w, g12, g12r, g12w, g13, g13r, g13w, g14, g14r, g14w, g15, g15r, g15w, g25, g25r, g25w, h5, h5w, h5z, h6, h6w, h6z, h8, h8w, h8z, h21, h21w, h21z, h22, h22w, h22z, h23, h23w, fl10, fl16, fl18, fl20, fl24, g11f, g12f, g13f, g14f, g15f, g25f, cN2, cN10, cN16, cN18, cN19, cN20, cN24, z01, z11, ix1, ix2, nI_add, nI_clamp, vin, true_and, and_true, or_true, true_or, c2]
    refine ⟨_, key nA _ (Nat.le_refl _) (fun c h1 h2 => by rw [p2_ne h1]) rfl (fun j hj => by rw [p2_ne (by decide)]; exact hBT j hj) (fun j h1 h2 => by omega) (fun j h1 h2 => by omega)⟩
  unfold wX2_add
  simp (disch := first | decide | omega) only [brT, brF, c_I, c_rc, c_pI, c_pZ, c_aI, c_sI, ca_I, ca_rc, ca_pI, cq_I, cq_rc, cq_pI, cq_R, cq_aR, cs_I, cs_rc, cs_pI, cs_pZ, f0_0, f0_1, f0_2, f0_3, f0_4, f0_5, f0_6, f0_7, f1_0, f3_0, f4_0, f4_1, f7_0, f7_1, f7_2, f7_3, f7_4, f7_5, f7_6, f7_7, f7_8, f7_9, f17_0, f17_1, f17_2, f17_3, f17_4, f17_5, f0_8, f0_8p, f7_10, f7_10p, g9, g9r, g9w, g11, g11r, g11w, g12, g12r, g12w, g13, g13r, g13w, g14, g14r, g14w, g15, g15r, g15w, g25, g25r, g25w, h5, h5w, h5z, h6, h6w, h6z, h8, h8w, h8z, h21, h21w, h21z, h22, h22w, h22z, h23, h23w, fl10, fl16, fl18, fl20, fl24, g11f, g12f, g13f, g14f, g15f, g25f, cN2, cN10, cN16, cN18, cN19, cN20, cN24, z01, z11, ix1, ix2, nI_add, nI_clamp, vin, true_and, and_true, or_true, true_or, h4, brt h250]
  refine v_family hA hAC h4 f0 f1 f2 ?_
  have g6 : p2 I (1000 + nA) 8 (nI (fam D nA)) (1000 + nA) 6 = D 9 nA := by rw [p2_row (by decide)]; exact f6
  have g5 : p2 I (1000 + nA) 8 (nI (fam D nA)) (1000 + nA) 5 = D 8 nA := by rw [p2_row (by decide)]; exact f5
  simp (disch := first | decide | omega) only [brT, brF, c_I, c_rc, c_pI, c_pZ, c_aI, c_sI, ca_I, ca_rc, ca_pI, cq_I, cq_rc, cq_pI, cq_R, cq_aR, cs_I, cs_rc, cs_pI, cs_pZ, f0_0, f0_1, f0_2, f0_3, f0_4, f0_5, f0_6, f0_7, f1_0, f3_0, f4_0, f4_1, f7_0, f7_1, f7_2, f7_3, f7_4, f7_5, f7_6, f7_7, f7_8, f7_9, f17_0, f17_1, f17_2, f17_3, f17_4, f17_5, f0_8, f0_8p, f7_10, f7_10p, g9, g9r, g9w, g11, g11r, g11w, g12, g12r, g12w, g13, g13r, g13w, g14, g14r, g14w, g15, g15r, g15w, g25, g25r, g25w, h5, h5w, h5z, h6, h6w, h6z, h8, h8w, h8z, h21, h21w, h21z, h22, h22w, h22z, h23, h23w, fl10, fl16, fl18, fl20, fl24, g11f, g12f, g13f, g14f, g15f, g25f, cN2, cN10, cN16, cN18, cN19, cN20, cN24, z01, z11, ix1, ix2, nI_add, nI_clamp, vin, true_and, and_true, or_true, true_or, g6, g5, p2_ne]
  refine brc (fun h => ?_) fun h => ?_
  · refine main _ (fun c h1 h2 => p2_ne h2) (by rw [p2_ne (by omega)]; exact h4) (by rw [p2_ne (by omega)]) ?_ (fun j hj => p2_row hj) p2_same
    rw [if_neg (Int32.not_lt.mpr h), p2_ne (by omega)]
  · refine main _ (fun c h1 h2 => by rw [p2_ne h1, p2_ne h2]) (by rw [p2_row (by decide), p2_ne (by omega)]; exact h4) (by rw [p2_row (by decide), p2_ne (by omega)]) ?_ (fun j hj => by rw [p2_ne (by omega), p2_row hj]) (by rw [p2_ne (by omega), p2_same])
    rw [if_pos (Int32.not_le.mp h), p2_same]
theorem byT_cg2 : ∀ n, (∀ i, i < n → D' 8 i = D 8 i) → byT D' n = byT D n := by
  intro n
  induction n with
  | zero => intro _; rfl
  | succ n ih =>
    intro h
    unfold byT insT
    rw [ih fun i hi => h i (by omega), h n (by omega)]
    congr 1
    · refine List.filter_congr fun x hx => ?_
      rw [h x (by have := byT_mem.mp hx; omega)]
    · congr 1
      refine List.filter_congr fun x hx => ?_
      rw [h x (by have := byT_mem.mp hx; omega)]
theorem bfr_row (h : D' 14 = D 14) : ∀ s, bfr D' q s = bfr D q s := by
  intro s
  induction s with
  | zero => rfl
  | succ s ih => unfold bfr; rw [h, ih]
theorem rk_row (h : D' 14 = D 14) : rk D' q s = rk D q s := by unfold rk; rw [h]
end
