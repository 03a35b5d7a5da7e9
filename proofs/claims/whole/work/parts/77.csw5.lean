section
variable {D : Mem} {nA nK nw q k fb ns pf l kn st i j s p x : Nat} {t v : Int32} {R : RMem} {I : Mem} {J : Nat → Nat → Int64} {post : Int32 → Pool → Prop} {pst : Pool → Prop}
theorem rowF_sw {c n : Nat} (hc : sw c) {R0 : RMem} {I0 : Mem} (h : FRM R0 I0 R I) : FRM R0 I0 R (rowF I c n v) := ⟨fun d a b => (rowF_ne (fun z : d = c => b (z ▸ hc))).trans (h.1 d a b), fun k a => (congrFun (rowF_ne (fun z => by unfold sw at hc; omega)) k).trans (h.2.1 k a), h.2.2⟩
theorem v_clear78 (hX : CX D nA nK nw q k fb ns pf l kn t R I) {R0 : RMem} {I0 : Mem} (hp : ∀ I', FRM R0 I0 R I' → (∀ c, c < 56 → I' c = I c) → (¬ D 19 q = -1 → ∀ v w, v < 31 → w < 31 → I' (56 + v) w = -1000000) → pst (cp nA nK R I' J)) : ∀ k' m I', 31 = m + k' → FRM R0 I0 R I' → (∀ c, ¬ (56 ≤ c ∧ c < 87) → I' c = I c) → (∀ v w, v < m → w < 31 → I' (56 + v) w = -1000000) → wX6_clear_78 pst (k' + 1) (some 7) (nI m) (cp nA nK R I' J) := by
  obtain ⟨hW, hQ, hk, hAC, hBT, hl, hQC, h710, h713, hkn0, hknw, h712⟩ := hX
  intro k'
  induction k' with
  | zero =>
    intro m I' hm hF h1 h2
    have e : m = 31 := by omega
    subst e
    unfold wX6_clear_78
    rw [brt (by decide)]
    exact hp I' hF (fun c hc => h1 c (by omega)) fun _ => h2
  | succ k' ih =>
    intro m I' hm hF h1 h2
    have h31 : ¬ (31 : Int32) ≤ nI m := by rw [show (31 : Int32) = nI 31 from rfl, ile (by decide) (by omega)]; omega
    have e4 : I' (2000 + 8 * k) 4 = D 19 q := by rw [h1 _ (by omega)]; exact hQC.2.2.2.1
    unfold wX6_clear_78
    simp (disch := first | decide | omega) only [brf h31, brT, brF, c_I, c_rc, c_pI, c_pZ, c_aI, c_sI, ca_I, ca_rc, ca_pI, cq_I, cq_rc, cq_pI, cq_R, cq_aR, cs_I, cs_rc, cs_pI, cs_pZ, f0_0, f0_1, f0_2, f0_3, f0_4, f0_5, f0_6, f0_7, f1_0, f3_0, f4_0, f4_1, f7_0, f7_1, f7_2, f7_3, f7_4, f7_5, f7_6, f7_7, f7_8, f7_9, f17_0, f17_1, f17_2, f17_3, f17_4, f17_5, f0_8, f0_8p, f7_10, f7_10p, g9, g9r, g9w, g11, g11r, g11w, g12, g12r, g12w, g13, g13r, g13w, g14, g14r, g14w, g15, g15r, g15w, g25, g25r, g25w, h5, h5w, h5z, h6, h6w, h6z, h8, h8w, h8z, h21, h21w, h21z, h22, h22w, h22z, h23, h23w, fl10, fl16, fl18, fl20, fl24, g11f, g12f, g13f, g14f, g15f, g25f, cN2, cN10, cN16, cN18, cN19, cN20, cN24, z01, z11, ix1, ix2, nI_add, nI_clamp, vin, true_and, and_true, or_true, true_or, h710, e4]
    refine brc (fun h => hp I' hF (fun c hc => h1 c (by omega)) fun z => absurd h z) fun h => ?_
    refine ih (m + 1) _ (by omega) (rowF_sw (by unfold sw; omega) hF) (fun c hc => by rw [rowF_ne (by omega)]; exact h1 c hc) fun v w hv hw => ?_
    by_cases e : v = m
    · rw [e, rowF_at hw]
    · rw [rowF_ne (by omega)]; exact h2 v w (by omega) hw
theorem v_clear23 {R0 : RMem} {I0 : Mem} (hp : ∀ I', CX D nA nK nw q k fb ns pf l kn t R I' → FRM R0 I0 R I' → (∀ c, c ≤ 16 → I' c = I c) → (∀ r v, r < 6 → v < 31 → I' (32 + r) v = -1 ∧ I' (38 + r) v = -1 ∧ I' (44 + r) v = -1 ∧ I' (50 + r) v = 2000000) → ∃ n1, wX6_clear_78 pst n1 (some 7) 0 (cp nA nK R I' J)) : ∀ k' m I', 6 = m + k' → CX D nA nK nw q k fb ns pf l kn t R I' → FRM R0 I0 R I' → (∀ c, c ≤ 16 → I' c = I c) → (∀ r v, r < m → v < 31 → I' (32 + r) v = -1 ∧ I' (38 + r) v = -1 ∧ I' (44 + r) v = -1 ∧ I' (50 + r) v = 2000000) → wX6_clear_23 pst (k' + 1) (some 7) (nI m) (cp nA nK R I' J) := by
  intro k'
  induction k' with
  | zero =>
    intro m I' hm hX hF h1 h2
    have e : m = 6 := by omega
    subst e
    unfold wX6_clear_23
    rw [brt (by decide)]
    exact hp I' hX hF h1 h2
  | succ k' ih =>
    intro m I' hm hX hF h1 h2
    have h6 : ¬ (6 : Int32) ≤ nI m := by rw [show (6 : Int32) = nI 6 from rfl, ile (by decide) (by omega)]; omega
    unfold wX6_clear_23
    simp (disch := first | decide | omega) only [brf h6, brT, brF, c_I, c_rc, c_pI, c_pZ, c_aI, c_sI, ca_I, ca_rc, ca_pI, cq_I, cq_rc, cq_pI, cq_R, cq_aR, cs_I, cs_rc, cs_pI, cs_pZ, f0_0, f0_1, f0_2, f0_3, f0_4, f0_5, f0_6, f0_7, f1_0, f3_0, f4_0, f4_1, f7_0, f7_1, f7_2, f7_3, f7_4, f7_5, f7_6, f7_7, f7_8, f7_9, f17_0, f17_1, f17_2, f17_3, f17_4, f17_5, f0_8, f0_8p, f7_10, f7_10p, g9, g9r, g9w, g11, g11r, g11w, g12, g12r, g12w, g13, g13r, g13w, g14, g14r, g14w, g15, g15r, g15w, g25, g25r, g25w, h5, h5w, h5z, h6, h6w, h6z, h8, h8w, h8z, h21, h21w, h21z, h22, h22w, h22z, h23, h23w, fl10, fl16, fl18, fl20, fl24, g11f, g12f, g13f, g14f, g15f, g25f, cN2, cN10, cN16, cN18, cN19, cN20, cN24, z01, z11, ix1, ix2, nI_add, nI_clamp, vin, true_and, and_true, or_true, true_or]
    have s1 : sw (32 + m) := by unfold sw; omega
    have s2 : sw (38 + m) := by unfold sw; omega
    have s3 : sw (44 + m) := by unfold sw; omega
    have s4 : sw (50 + m) := by unfold sw; omega
    refine ih (m + 1) _ (by omega) (CX_frm hX (rowF_sw s4 (rowF_sw s3 (rowF_sw s2 (rowF_sw s1 FRM_rfl))))) (rowF_sw s4 (rowF_sw s3 (rowF_sw s2 (rowF_sw s1 hF)))) (fun c hc => ?_) fun r v hr hv => ?_
    · rw [rowF_ne (by omega), rowF_ne (by omega), rowF_ne (by omega), rowF_ne (by omega)]
      exact h1 c hc
    · by_cases e : r = m
      · subst e
        refine ⟨?_, ?_, ?_, ?_⟩
        · rw [rowF_ne (by omega), rowF_ne (by omega), rowF_ne (by omega), rowF_at hv]
        · rw [rowF_ne (by omega), rowF_ne (by omega), rowF_at hv]
        · rw [rowF_ne (by omega), rowF_at hv]
        · rw [rowF_at hv]
      · obtain ⟨a1, a2, a3, a4⟩ := h2 r v (by omega) hv
        refine ⟨?_, ?_, ?_, ?_⟩
        · rw [rowF_ne (by omega), rowF_ne (by omega), rowF_ne (by omega), rowF_ne (by omega)]; exact a1
        · rw [rowF_ne (by omega), rowF_ne (by omega), rowF_ne (by omega), rowF_ne (by omega)]; exact a2
        · rw [rowF_ne (by omega), rowF_ne (by omega), rowF_ne (by omega), rowF_ne (by omega)]; exact a3
        · rw [rowF_ne (by omega), rowF_ne (by omega), rowF_ne (by omega), rowF_ne (by omega)]; exact a4
theorem v_clear (hX : CX D nA nK nw q k fb ns pf l kn t R I) (hp : ∀ I', FRM R I R I' → PS D nA t q ns pf l R I' 0 0 → pst (cp nA nK R I' J)) : wX6_clear pst (some 7) (cp nA nK R I J) := by
  have hns : ns ≤ 6 := hX.2.1.1.2.2.2.1
  have hA := hX.1.1
  have s1 : sw 10 := by unfold sw; omega
  have s2 : sw 16 := by unfold sw; omega
  unfold wX6_clear
  simp (disch := first | decide | omega) only [brT, brF, c_I, c_rc, c_pI, c_pZ, c_aI, c_sI, ca_I, ca_rc, ca_pI, cq_I, cq_rc, cq_pI, cq_R, cq_aR, cs_I, cs_rc, cs_pI, cs_pZ, f0_0, f0_1, f0_2, f0_3, f0_4, f0_5, f0_6, f0_7, f1_0, f3_0, f4_0, f4_1, f7_0, f7_1, f7_2, f7_3, f7_4, f7_5, f7_6, f7_7, f7_8, f7_9, f17_0, f17_1, f17_2, f17_3, f17_4, f17_5, f0_8, f0_8p, f7_10, f7_10p, g9, g9r, g9w, g11, g11r, g11w, g12, g12r, g12w, g13, g13r, g13w, g14, g14r, g14w, g15, g15r, g15w, g25, g25r, g25w, h5, h5w, h5z, h6, h6w, h6z, h8, h8w, h8z, h21, h21w, h21z, h22, h22w, h22z, h23, h23w, fl10, fl16, fl18, fl20, fl24, g11f, g12f, g13f, g14f, g15f, g25f, cN2, cN10, cN16, cN18, cN19, cN20, cN24, z01, z11, ix1, ix2, nI_add, nI_clamp, vin, true_and, and_true, or_true, true_or]
  refine ⟨_, v_clear23 (R0 := R) (I0 := I) (I := rowF (rowF (p2 I 7 15 0) 10 6 0) 16 250 (-1)) (fun I' b0 b1 b2 b3 => ⟨_, v_clear78 (R0 := R) (I0 := I) b0 (fun I'' d1 d2 d3 => ?_) 31 0 I' (by omega) b1 (fun _ _ => rfl) fun v w hv _ => by omega⟩) 6 0 _ (by omega) (CX_frm hX (rowF_sw s2 (rowF_sw s1 (FRM_15 FRM_rfl)))) (rowF_sw s2 (rowF_sw s1 (FRM_15 FRM_rfl))) (fun _ _ => rfl) fun r v hr _ => by omega⟩
  refine hp I'' d1 ⟨fun s hs h0 => ?_, fun f hf => ?_, fun s hs h0 j hj => ?_, fun hn v w hv hw => ?_, fun s hs h0 v hv => ?_, fun r v hr hv => ?_, fun s v hs hv => ?_, ?_⟩
  · have := rk_le (D := D) (q := q) s
    rw [d2 10 (by omega), b2 10 (by omega), rowF_ne (by decide), rowF_at (by omega)]
    rfl
  · rw [d2 16 (by omega), b2 16 (by omega), rowF_at (by omega)]
    rfl
  · exact absurd hj (Nat.not_lt_zero _)
  · rw [d3 hn v w hv hw]; rfl
  · have := rk_le (D := D) (q := q) s
    have hb := b3 (rk D q s) v (by omega) hv
    rw [d2 _ (by omega), d2 _ (by omega), hb.1, hb.2.1]
    exact ⟨rfl, rfl⟩
  · rw [d2 _ (by omega), (b3 r v hr hv).2.2.1]; rfl
  · rw [d2 _ (by omega), (b3 s v hs hv).2.2.2]
  · refine ⟨?_, fun j hj => absurd hj (Nat.not_lt_zero _)⟩
    rw [d2 7 (by omega), b2 7 (by omega), rowF_ne (by decide), rowF_ne (by decide), p2_same]
    rfl
/-- the group at hand -/
def GP (D : Mem) (nA st i : Nat) : Prop := st ≤ i ∧ i ≤ nA ∧ (∀ j, st ≤ j → j < i → D 8 (bt D nA j) = D 8 (bt D nA st)) ∧ ∀ j, j < st → st < nA → D 8 (bt D nA j) < D 8 (bt D nA st)
theorem GP_gi (h : GP D nA st i) (hn : i = nA ∨ D 8 (bt D nA st) < D 8 (bt D nA i)) : ∀ j', j' < nA → ∀ j, st ≤ j → j < i → (j' < i ↔ D 8 (bt D nA j') ≤ D 8 (bt D nA j)) := by
  intro j' hj' j h1 h2
  have hi := h.2.1
  rw [h.2.2.1 j h1 h2]
  constructor
  · intro z
    by_cases e : st ≤ j'
    · rw [h.2.2.1 j' e z]; exact Int32.le_refl _
    · exact bt_le (show j' ≤ st by omega) (by omega)
  · intro z
    apply Decidable.byContradiction
    intro hc
    rcases hn with hn | hn
    · omega
    · have h3 := bt_le (D := D) (show i ≤ j' by omega) hj'
      exact Int32.not_le.mpr (Int32.lt_of_lt_of_le hn h3) z
theorem GP_st (h : GP D nA st i) (hi : i < nA) (hs : ¬ D 8 (bt D nA st) < D 8 (bt D nA i)) : ∀ j, j < nA → (j < st ↔ D 8 (bt D nA j) < D 8 (bt D nA i)) := by
  have e : D 8 (bt D nA i) = D 8 (bt D nA st) := by
    have h1 := bt_le (D := D) h.1 hi
    have h2 := Int32.not_lt.mp hs
    rw [← Int32.toInt_inj]
    rw [Int32.le_iff_toInt_le] at h1 h2
    omega
  intro j hj
  have hst := h.1
  rw [e]
  constructor
  · intro z; exact h.2.2.2 j z (by omega)
  · intro z; exact bt_pos hj (by omega) z
/-- a sweep's answer -/
def SA (D : Mem) (nA : Nat) (t : Int32) (q ns : Nat) (R : RMem) (I : Mem) (F : List Nat) : Prop := FI D nA t q ns I (fun _ => nA) ∧ BF D nA t q ns I (fun _ => nA) ∧ NDs F R I
theorem v_go79 {R0 : RMem} {I0 : Mem} (hp : ∀ R' I', CX D nA nK nw q k fb ns pf l kn t R' I' → FRM R0 I0 R' I' → PS D nA t q ns pf l R' I' nA nA → wX6_dropDisturbed (fun S => pst S) (some 7) (cp nA nK R' I' J)) : ∀ k' st i R I, nA = i + k' → GP D nA st i → CX D nA nK nw q k fb ns pf l kn t R I → FRM R0 I0 R I → PS D nA t q ns pf l R I st i → wX6_goOver_79 pst (k' + 1) (some 7) (nI st) (nI i) (cp nA nK R I J) := by
  intro k'
  induction k' with
  | zero =>
    intro st i R I hi hG hX hF hP
    have hX0 := hX
    obtain ⟨hW, hQ, hk, hAC, hBT, hl, hQC, h710, h713, hkn0, hknw, h712⟩ := hX
    have hA := hW.1
    have e : i = nA := by omega
    subst e
    have hst := hG.1
    unfold wX6_goOver_79 wX6_settle
    simp (disch := first | decide | omega) only [brT, brF, c_I, c_rc, c_pI, c_pZ, c_aI, c_sI, ca_I, ca_rc, ca_pI, cq_I, cq_rc, cq_pI, cq_R, cq_aR, cs_I, cs_rc, cs_pI, cs_pZ, f0_0, f0_1, f0_2, f0_3, f0_4, f0_5, f0_6, f0_7, f1_0, f3_0, f4_0, f4_1, f7_0, f7_1, f7_2, f7_3, f7_4, f7_5, f7_6, f7_7, f7_8, f7_9, f17_0, f17_1, f17_2, f17_3, f17_4, f17_5, f0_8, f0_8p, f7_10, f7_10p, g9, g9r, g9w, g11, g11r, g11w, g12, g12r, g12w, g13, g13r, g13w, g14, g14r, g14w, g15, g15r, g15w, g25, g25r, g25w, h5, h5w, h5z, h6, h6w, h6z, h8, h8w, h8z, h21, h21w, h21z, h22, h22w, h22z, h23, h23w, fl10, fl16, fl18, fl20, fl24, g11f, g12f, g13f, g14f, g15f, g25f, cN2, cN10, cN16, cN18, cN19, cN20, cN24, z01, z11, ix1, ix2, nI_add, nI_clamp, vin, true_and, and_true, or_true, true_or, hl, ile, brt (Nat.le_refl i)]
    refine ⟨_, v_settle (GP_gi hG (.inl rfl)) (Nat.le_refl _) (R0 := R) (I0 := I) (fun R' I' b1 b2 => ?_) (i - st) st R I (by omega) (Nat.le_refl _) hX0 FRM_rfl hP⟩
    simp (disch := first | decide | omega) only [brT, brF, c_I, c_rc, c_pI, c_pZ, c_aI, c_sI, ca_I, ca_rc, ca_pI, cq_I, cq_rc, cq_pI, cq_R, cq_aR, cs_I, cs_rc, cs_pI, cs_pZ, f0_0, f0_1, f0_2, f0_3, f0_4, f0_5, f0_6, f0_7, f1_0, f3_0, f4_0, f4_1, f7_0, f7_1, f7_2, f7_3, f7_4, f7_5, f7_6, f7_7, f7_8, f7_9, f17_0, f17_1, f17_2, f17_3, f17_4, f17_5, f0_8, f0_8p, f7_10, f7_10p, g9, g9r, g9w, g11, g11r, g11w, g12, g12r, g12w, g13, g13r, g13w, g14, g14r, g14w, g15, g15r, g15w, g25, g25r, g25w, h5, h5w, h5z, h6, h6w, h6z, h8, h8w, h8z, h21, h21w, h21z, h22, h22w, h22z, h23, h23w, fl10, fl16, fl18, fl20, fl24, g11f, g12f, g13f, g14f, g15f, g25f, cN2, cN10, cN16, cN18, cN19, cN20, cN24, z01, z11, ix1, ix2, nI_add, nI_clamp, vin, true_and, and_true, or_true, true_or]
    exact hp R' I' (CX_frm hX0 b1) (FRM_trans hF b1) b2
  | succ k' ih =>
    intro st i R I hi hG hX hF hP
    have hX0 := hX
    obtain ⟨hW, hQ, hk, hAC, hBT, hl, hQC, h710, h713, hkn0, hknw, h712⟩ := hX
    have hA := hW.1
    have hst := hG.1
    have hiA : i < nA := by omega
    have hb := bt_lt (D := D) hiA
    have hbs := bt_lt (D := D) (show st < nA by omega)
    obtain ⟨_, a0, a1, a2, a5, a6, a7, a8⟩ := hAC (bt D nA i) hb
    obtain ⟨_, _, _, _, s5, _⟩ := hAC (bt D nA st) hbs
    have hbt := hBT i hiA
    have hbt2 := hBT st (by omega)
    rw [show (byT D nA).getD i 0 = bt D nA i from rfl] at hbt
    rw [show (byT D nA).getD st 0 = bt D nA st from rfl] at hbt2
    -- behind the settling, with the start st'
    have hgo : ∀ st' R' I', GP D nA st' i → ¬ D 8 (bt D nA st') < D 8 (bt D nA i) → FRM R I R' I' → PS D nA t q ns pf l R' I' st' i → wX6_goOver_136 (wX6_goOver_79 pst (k' + 1)) pst (some 7) (nI st') (nI i) (some (1000 + bt D nA i)) (cp nA nK R' I' J) := by
      intro st' R' I' hG' hlt b1 b2
      have hX1 := CX_frm hX0 b1
      have hX2 := hX1
      obtain ⟨_, _, _, hAC', _, _, _, _, h713', _, _, _⟩ := hX1
      obtain ⟨_, a0', _⟩ := hAC' (bt D nA i) hb
      have hst' := hG'.1
      have hG2 : GP D nA st' (i + 1) := by
        refine ⟨by omega, by omega, fun j h1 h2 => ?_, hG'.2.2.2⟩
        by_cases e : j = i
        · subst e
          have h3 := bt_le (D := D) hst' hiA
          have h4 := Int32.not_lt.mp hlt
          rw [← Int32.toInt_inj]
          rw [Int32.le_iff_toInt_le] at h3 h4
          omega
        · exact hG'.2.2.1 j h1 (by omega)
      unfold wX6_goOver_136 wX6_goOver_154
      simp (disch := first | decide | omega) only [brT, brF, c_I, c_rc, c_pI, c_pZ, c_aI, c_sI, ca_I, ca_rc, ca_pI, cq_I, cq_rc, cq_pI, cq_R, cq_aR, cs_I, cs_rc, cs_pI, cs_pZ, f0_0, f0_1, f0_2, f0_3, f0_4, f0_5, f0_6, f0_7, f1_0, f3_0, f4_0, f4_1, f7_0, f7_1, f7_2, f7_3, f7_4, f7_5, f7_6, f7_7, f7_8, f7_9, f17_0, f17_1, f17_2, f17_3, f17_4, f17_5, f0_8, f0_8p, f7_10, f7_10p, g9, g9r, g9w, g11, g11r, g11w, g12, g12r, g12w, g13, g13r, g13w, g14, g14r, g14w, g15, g15r, g15w, g25, g25r, g25w, h5, h5w, h5z, h6, h6w, h6z, h8, h8w, h8z, h21, h21w, h21z, h22, h22w, h22z, h23, h23w, fl10, fl16, fl18, fl20, fl24, g11f, g12f, g13f, g14f, g15f, g25f, cN2, cN10, cN16, cN18, cN19, cN20, cN24, z01, z11, ix1, ix2, nI_add, nI_clamp, vin, true_and, and_true, or_true, true_or, a0', h713', ile]
      refine brc (fun h => ?_) fun h => ?_
      · have hu : ¬ D 9 (bt D nA i) ≤ t := fun z => by have := (hknw _ hb).mpr z; omega
        exact ih st' (i + 1) R' I' (by omega) hG2 hX2 (FRM_trans hF b1) (PS_unk b2 hiA hu)
      · have hkn := (hknw _ hb).mp (by omega)
        refine v_reach hX2 hiA hkn (GP_st hG' hiA hlt) (by omega) b2 fun I'' d1 d2 => ?_
        exact ih st' (i + 1) R' I'' (by omega) hG2 (CX_frm hX2 d1) (FRM_trans hF (FRM_trans b1 d1)) d2
    unfold wX6_goOver_79 wX6_settle
    simp (disch := first | decide | omega) only [brT, brF, c_I, c_rc, c_pI, c_pZ, c_aI, c_sI, ca_I, ca_rc, ca_pI, cq_I, cq_rc, cq_pI, cq_R, cq_aR, cs_I, cs_rc, cs_pI, cs_pZ, f0_0, f0_1, f0_2, f0_3, f0_4, f0_5, f0_6, f0_7, f1_0, f3_0, f4_0, f4_1, f7_0, f7_1, f7_2, f7_3, f7_4, f7_5, f7_6, f7_7, f7_8, f7_9, f17_0, f17_1, f17_2, f17_3, f17_4, f17_5, f0_8, f0_8p, f7_10, f7_10p, g9, g9r, g9w, g11, g11r, g11w, g12, g12r, g12w, g13, g13r, g13w, g14, g14r, g14w, g15, g15r, g15w, g25, g25r, g25w, h5, h5w, h5z, h6, h6w, h6z, h8, h8w, h8z, h21, h21w, h21z, h22, h22w, h22z, h23, h23w, fl10, fl16, fl18, fl20, fl24, g11f, g12f, g13f, g14f, g15f, g25f, cN2, cN10, cN16, cN18, cN19, cN20, cN24, z01, z11, ix1, ix2, nI_add, nI_clamp, vin, true_and, and_true, or_true, true_or, hl, ile, brf (show ¬ nA ≤ i by omega), hbt, hbt2, a5, s5]
    refine brc (fun h => hgo st R I hG (Int32.not_lt.mpr h) FRM_rfl hP) fun h => ?_
    have hlt := Int32.not_le.mp h
    refine ⟨_, v_settle (GP_gi hG (.inr hlt)) (by omega) (R0 := R) (I0 := I) (fun R' I' b1 b2 => ?_) (i - st) st R I (by omega) (Nat.le_refl _) hX0 FRM_rfl hP⟩
    refine hgo i R' I' ⟨Nat.le_refl _, by omega, fun j h1 h2 => by omega, fun j h1 h2 => ?_⟩ Int32.lt_irrefl b1 b2
    by_cases e : st ≤ j
    · rw [hG.2.2.1 j e h1]; exact hlt
    · exact Int32.lt_of_le_of_lt (bt_le (show j ≤ st by omega) (by omega)) hlt
end
