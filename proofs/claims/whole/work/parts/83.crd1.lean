/-! ===== the class's reader: tokens ===== -/
def TP (T : Nat → Int32) (n : Nat) (I : Mem) : Prop := I 1 1 = nI n ∧ n ≤ 400 ∧ ∀ i, i < n → I 2 i = T i
def srtS (T : Nat → Int32) (n p : Nat) : Nat := if n ≤ p then 0 else if isLt (T p) then 1 else if isDg (T p) then 2 else if T p = 59 then 3 else 4
def behS (T : Nat → Int32) (n p : Nat) : Nat := if srtS T n p = 1 then wep T n p else if srtS T n p = 2 then dep T n p else if n < p + 1 then n else p + 1
def TK (T : Nat → Int32) (n : Nat) (I : Mem) (p : Nat) : Prop := I 3 1 = nI (srtS T n p) ∧ I 3 2 = nI p ∧ I 3 3 = nI (behS T n p) ∧ p ≤ n
def RF (I I' : Mem) : Prop := (∀ c, c ≠ 3 → I' c = I c) ∧ I' 3 4 = I 3 4 ∧ I' 3 5 = I 3 5
section
variable {T : Nat → Int32} {nA nK n p e k w s : Nat} {R : RMem} {I : Mem} {J : Nat → Nat → Int64} {post : Int32 → Pool → Prop} {pst : Pool → Prop} {v lo hi : Int32}
theorem TP_cg {I' : Mem} (h : TP T n I) (h1 : I' 1 = I 1) (h2 : I' 2 = I 2) : TP T n I' := by
  unfold TP
  rw [h1, h2]
  exact h
theorem TK_cg {I' : Mem} (h : TK T n I p) (h1 : I' 3 1 = I 3 1) (h2 : I' 3 2 = I 3 2) (h3 : I' 3 3 = I 3 3) : TK T n I' p := by
  unfold TK
  rw [h1, h2, h3]
  exact h
theorem srtS_lt : srtS T n p < 5 := by
  unfold srtS
  repeat' split
  all_goals omega
theorem v_sortAt (h : TP T n I) (hp : p ≤ 401) : wX4_sortAt post (some 3) (nI p) (cp nA nK R I J) = post (nI (srtS T n p)) (cp nA nK R I J) := by
  have h400 := h.2.1
  unfold wX4_sortAt wX4_sortAt_41 wX4_sortAt_55
  simp (disch := first | decide | omega) only [brT, brF, c_I, c_rc, c_pI, c_pZ, c_aI, c_sI, ca_I, ca_rc, ca_pI, cq_I, cq_rc, cq_pI, cq_R, cq_aR, cs_I, cs_rc, cs_pI, cs_pZ, f0_0, f0_1, f0_2, f0_3, f0_4, f0_5, f0_6, f0_7, f1_0, f3_0, f4_0, f4_1, f7_0, f7_1, f7_2, f7_3, f7_4, f7_5, f7_6, f7_7, f7_8, f7_9, f17_0, f17_1, f17_2, f17_3, f17_4, f17_5, f0_8, f0_8p, f7_10, f7_10p, g9, g9r, g9w, g11, g11r, g11w, g12, g12r, g12w, g13, g13r, g13w, g14, g14r, g14w, g15, g15r, g15w, g25, g25r, g25w, h5, h5w, h5z, h6, h6w, h6z, h8, h8w, h8z, h21, h21w, h21z, h22, h22w, h22z, h23, h23w, fl10, fl16, fl18, fl20, fl24, g11f, g12f, g13f, g14f, g15f, g25f, cN2, cN10, cN16, cN18, cN19, cN20, cN24, z01, z11, ix1, ix2, nI_add, nI_clamp, vin, true_and, and_true, or_true, true_or, llt0, h.1, ilt]
  by_cases hn : p < n
  · rw [brt hn]
    simp (disch := first | decide | omega) only [brT, brF, c_I, c_rc, c_pI, c_pZ, c_aI, c_sI, ca_I, ca_rc, ca_pI, cq_I, cq_rc, cq_pI, cq_R, cq_aR, cs_I, cs_rc, cs_pI, cs_pZ, f0_0, f0_1, f0_2, f0_3, f0_4, f0_5, f0_6, f0_7, f1_0, f3_0, f4_0, f4_1, f7_0, f7_1, f7_2, f7_3, f7_4, f7_5, f7_6, f7_7, f7_8, f7_9, f17_0, f17_1, f17_2, f17_3, f17_4, f17_5, f0_8, f0_8p, f7_10, f7_10p, g9, g9r, g9w, g11, g11r, g11w, g12, g12r, g12w, g13, g13r, g13w, g14, g14r, g14w, g15, g15r, g15w, g25, g25r, g25w, h5, h5w, h5z, h6, h6w, h6z, h8, h8w, h8z, h21, h21w, h21z, h22, h22w, h22z, h23, h23w, fl10, fl16, fl18, fl20, fl24, g11f, g12f, g13f, g14f, g15f, g25f, cN2, cN10, cN16, cN18, cN19, cN20, cN24, z01, z11, ix1, ix2, nI_add, nI_clamp, vin, true_and, and_true, or_true, true_or, h.2.2 p hn, br_if]
    unfold srtS isLt isDg
    rw [if_neg (show ¬ n ≤ p by omega)]
    simp only [decide_eq_true_eq]
    have a1 : T p < 97 ↔ ¬ 97 ≤ T p := Int32.not_le.symm
    have a2 : 122 < T p ↔ ¬ T p ≤ 122 := Int32.not_le.symm
    have a3 : T p < 48 ↔ ¬ 48 ≤ T p := Int32.not_le.symm
    have a4 : 57 < T p ↔ ¬ T p ≤ 57 := Int32.not_le.symm
    simp only [a1, a2, a3, a4]
    by_cases b1 : 97 ≤ T p <;> by_cases b2 : T p ≤ 122 <;> by_cases b3 : 48 ≤ T p <;> by_cases b4 : T p ≤ 57 <;> by_cases b5 : T p = 59 <;> simp [b1, b2, b3, b4, b5] <;> rfl
  · rw [brf hn]
    unfold srtS
    rw [if_pos (show n ≤ p by omega)]
    rfl
theorem srt_1 (h : p < n) : srtS T n p = 1 ↔ isLt (T p) = true := by
  unfold srtS
  rw [if_neg (by omega)]
  by_cases h1 : isLt (T p) = true
  · simp [h1]
  · simp only [h1]
    constructor
    · intro z
      split at z
      · rename_i q; cases q
      · split at z
        · cases z
        · split at z <;> cases z
    · intro z; cases z
theorem isDg_nl {x : Int32} (h : isDg x = true) : isLt x = false := by
  unfold isDg at h
  unfold isLt
  rw [decide_eq_true_eq] at h
  apply decide_eq_false
  rintro ⟨a, b⟩
  have := Int32.le_trans a h.2
  exact absurd this (by decide)
theorem srt_2 (h : p < n) : srtS T n p = 2 ↔ isDg (T p) = true := by
  unfold srtS
  rw [if_neg (by omega)]
  by_cases h1 : isDg (T p) = true
  · simp [h1, isDg_nl h1]
  · simp only [h1]
    constructor
    · intro z
      split at z
      · cases z
      · split at z
        · rename_i q; cases q
        · split at z <;> cases z
    · intro z; cases z
theorem v_adv108 {a : Nat} (h : I 1 1 = nI n) (hn : n ≤ 400) (ha : a ≤ 401) : wX4_advance_108 pst (some 3) (nI a) (cp nA nK R I J) = pst (cp nA nK R (p2 I 3 3 (nI (if n < a then n else a))) J) := by
  unfold wX4_advance_108
  simp (disch := first | decide | omega) only [brT, brF, c_I, c_rc, c_pI, c_pZ, c_aI, c_sI, ca_I, ca_rc, ca_pI, cq_I, cq_rc, cq_pI, cq_R, cq_aR, cs_I, cs_rc, cs_pI, cs_pZ, f0_0, f0_1, f0_2, f0_3, f0_4, f0_5, f0_6, f0_7, f1_0, f3_0, f4_0, f4_1, f7_0, f7_1, f7_2, f7_3, f7_4, f7_5, f7_6, f7_7, f7_8, f7_9, f17_0, f17_1, f17_2, f17_3, f17_4, f17_5, f0_8, f0_8p, f7_10, f7_10p, g9, g9r, g9w, g11, g11r, g11w, g12, g12r, g12w, g13, g13r, g13w, g14, g14r, g14w, g15, g15r, g15w, g25, g25r, g25w, h5, h5w, h5z, h6, h6w, h6z, h8, h8w, h8z, h21, h21w, h21z, h22, h22w, h22z, h23, h23w, fl10, fl16, fl18, fl20, fl24, g11f, g12f, g13f, g14f, g15f, g25f, cN2, cN10, cN16, cN18, cN19, cN20, cN24, z01, z11, ix1, ix2, nI_add, nI_clamp, vin, true_and, and_true, or_true, true_or, h, ilt]
  congr 3
  by_cases e : n < a
  · simp [e]
  · simp [e]
/-- the run of a word or number -/
theorem v_adv75 (P : Int32 → Bool) (x : Nat) (hx : x < 5) (h : TP T n I) (hs : I 3 1 = nI x) (hP : ∀ j, j < n → (srtS T n j = x ↔ P (T j) = true)) (hp : pst (cp nA nK R (p2 I 3 3 (nI (run P T n e))) J)) (he : e ≤ n) : ∀ k a, n = a + k → run P T n a = run P T n e → wX4_advance_75 pst (k + 1) (some 3) (nI a) 1 (cp nA nK R I J) := by
  have h400 := h.2.1
  intro k
  induction k with
  | zero =>
    intro a ha hr
    have e1 : a = n := by omega
    subst e1
    unfold wX4_advance_75
    simp (disch := first | decide | omega) only [brT, brF, c_I, c_rc, c_pI, c_pZ, c_aI, c_sI, ca_I, ca_rc, ca_pI, cq_I, cq_rc, cq_pI, cq_R, cq_aR, cs_I, cs_rc, cs_pI, cs_pZ, f0_0, f0_1, f0_2, f0_3, f0_4, f0_5, f0_6, f0_7, f1_0, f3_0, f4_0, f4_1, f7_0, f7_1, f7_2, f7_3, f7_4, f7_5, f7_6, f7_7, f7_8, f7_9, f17_0, f17_1, f17_2, f17_3, f17_4, f17_5, f0_8, f0_8p, f7_10, f7_10p, g9, g9r, g9w, g11, g11r, g11w, g12, g12r, g12w, g13, g13r, g13w, g14, g14r, g14w, g15, g15r, g15w, g25, g25r, g25w, h5, h5w, h5z, h6, h6w, h6z, h8, h8w, h8z, h21, h21w, h21z, h22, h22w, h22z, h23, h23w, fl10, fl16, fl18, fl20, fl24, g11f, g12f, g13f, g14f, g15f, g25f, cN2, cN10, cN16, cN18, cN19, cN20, cN24, z01, z11, ix1, ix2, nI_add, nI_clamp, vin, true_and, and_true, or_true, true_or, c10, h.1, ile, brt (Nat.le_refl a), v_adv108 h.1 h400]
    rw [if_neg (by omega), ← run_end (P := P) (T := T) (n := a) (p := a) (Nat.le_refl _), hr]
    exact hp
  | succ k ih =>
    intro a ha hr
    have han : a < n := by omega
    unfold wX4_advance_75
    have hsl := srtS_lt (T := T) (n := n) (p := a)
    simp (disch := first | decide | omega) only [brT, brF, c_I, c_rc, c_pI, c_pZ, c_aI, c_sI, ca_I, ca_rc, ca_pI, cq_I, cq_rc, cq_pI, cq_R, cq_aR, cs_I, cs_rc, cs_pI, cs_pZ, f0_0, f0_1, f0_2, f0_3, f0_4, f0_5, f0_6, f0_7, f1_0, f3_0, f4_0, f4_1, f7_0, f7_1, f7_2, f7_3, f7_4, f7_5, f7_6, f7_7, f7_8, f7_9, f17_0, f17_1, f17_2, f17_3, f17_4, f17_5, f0_8, f0_8p, f7_10, f7_10p, g9, g9r, g9w, g11, g11r, g11w, g12, g12r, g12w, g13, g13r, g13w, g14, g14r, g14w, g15, g15r, g15w, g25, g25r, g25w, h5, h5w, h5z, h6, h6w, h6z, h8, h8w, h8z, h21, h21w, h21z, h22, h22w, h22z, h23, h23w, fl10, fl16, fl18, fl20, fl24, g11f, g12f, g13f, g14f, g15f, g25f, cN2, cN10, cN16, cN18, cN19, cN20, cN24, z01, z11, ix1, ix2, nI_add, nI_clamp, vin, true_and, and_true, or_true, true_or, c10, h.1, ile, brf (show ¬ n ≤ a by omega), v_sortAt h, hs, ieq, v_adv108 h.1 h400]
    refine brc (fun g => ih (a + 1) (by omega) ?_) fun g => ?_
    · rw [← run_yes han ((hP a han).mp g)]; exact hr
    · rw [if_neg (by omega)]
      have : P (T a) = false := by
        cases hb : P (T a)
        · rfl
        · exact absurd ((hP a han).mpr hb) g
      rw [run_no this] at hr
      rw [hr]
      exact hp
theorem v_adv36 (h : TP T n I) (hp0 : p ≤ n) (hp : ∀ I', RF I I' → TK T n I' p → pst (cp nA nK R I' J)) : wX4_advance_36 pst (some 3) (nI p) (cp nA nK R I J) := by
  have h400 := h.2.1
  have hsl := srtS_lt (T := T) (n := n) (p := p)
  have hT : TP T n (p2 I 3 2 (nI p)) := TP_cg h (p2_ne (by decide)) (p2_ne (by decide))
  have hT2 : TP T n (p2 (p2 I 3 2 (nI p)) 3 1 (nI (srtS T n p))) := TP_cg hT (p2_ne (by decide)) (p2_ne (by decide))
  have hfin : ∀ b, b = behS T n p → pst (cp nA nK R (p2 (p2 (p2 I 3 2 (nI p)) 3 1 (nI (srtS T n p))) 3 3 (nI b)) J) := fun b hb => by
    refine hp _ ⟨fun c hc => by rw [p2_ne hc, p2_ne hc, p2_ne hc], ?_, ?_⟩ ⟨?_, ?_, ?_, hp0⟩
    · rw [p2_row (by decide), p2_row (by decide), p2_row (by decide)]
    · rw [p2_row (by decide), p2_row (by decide), p2_row (by decide)]
    · rw [p2_row (by decide), p2_same]
    · rw [p2_row (by decide), p2_row (by decide), p2_same]
    · rw [p2_same, hb]
  have h1 : (1 : Int32) = nI 1 := rfl
  have h2 : (2 : Int32) = nI 2 := rfl
  unfold wX4_advance_36 wX4_advance_66 wX4_advance_71
  simp (disch := first | decide | omega) only [brT, brF, c_I, c_rc, c_pI, c_pZ, c_aI, c_sI, ca_I, ca_rc, ca_pI, cq_I, cq_rc, cq_pI, cq_R, cq_aR, cs_I, cs_rc, cs_pI, cs_pZ, f0_0, f0_1, f0_2, f0_3, f0_4, f0_5, f0_6, f0_7, f1_0, f3_0, f4_0, f4_1, f7_0, f7_1, f7_2, f7_3, f7_4, f7_5, f7_6, f7_7, f7_8, f7_9, f17_0, f17_1, f17_2, f17_3, f17_4, f17_5, f0_8, f0_8p, f7_10, f7_10p, g9, g9r, g9w, g11, g11r, g11w, g12, g12r, g12w, g13, g13r, g13w, g14, g14r, g14w, g15, g15r, g15w, g25, g25r, g25w, h5, h5w, h5z, h6, h6w, h6z, h8, h8w, h8z, h21, h21w, h21z, h22, h22w, h22z, h23, h23w, fl10, fl16, fl18, fl20, fl24, g11f, g12f, g13f, g14f, g15f, g25f, cN2, cN10, cN16, cN18, cN19, cN20, cN24, z01, z11, ix1, ix2, nI_add, nI_clamp, vin, true_and, and_true, or_true, true_or, v_sortAt hT, p2_same, h2]
  rw [h1, ieq (by omega) (by decide)]
  refine brc (fun g => ?_) fun g => ?_
  · have hpn : p < n := by
      apply Decidable.byContradiction
      intro hc
      unfold srtS at g
      rw [if_pos (by omega)] at g
      omega
    refine ⟨_, v_adv75 isLt 1 (by decide) hT2 (by rw [p2_same, g]) (fun j hj => srt_1 hj) (e := p) ?_ hp0 (n - (p + 1)) (p + 1) (by omega) (run_yes hpn ((srt_1 hpn).mp g)).symm⟩
    refine hfin _ ?_
    unfold behS wep
    rw [if_pos g]
  · rw [ieq (by omega) (by decide)]
    refine brc (fun g2 => ?_) fun g2 => ?_
    · have hpn : p < n := by
        apply Decidable.byContradiction
        intro hc
        unfold srtS at g2
        rw [if_pos (by omega)] at g2
        omega
      refine ⟨_, v_adv75 isDg 2 (by decide) hT2 (by rw [p2_same, g2]) (fun j hj => srt_2 hj) (e := p) ?_ hp0 (n - (p + 1)) (p + 1) (by omega) (run_yes hpn ((srt_2 hpn).mp g2)).symm⟩
      refine hfin _ ?_
      unfold behS dep
      rw [if_neg g, if_pos g2]
    · refine ⟨1, ?_⟩
      unfold wX4_advance_75
      rw [brt rfl, v_adv108 hT2.1 h400 (by omega)]
      refine hfin _ ?_
      unfold behS
      rw [if_neg g, if_neg g2]
theorem v_advance (h : TP T n I) (he : I 3 3 = nI e) (hen : e ≤ n) (hp : ∀ I', RF I I' → TK T n I' (skp T n e) → pst (cp nA nK R I' J)) : wX4_advance pst (some 3) (cp nA nK R I J) := by
  have h400 := h.2.1
  have hsk := (run_ge (P := isBl) (T := T) (n := n) (n - e) e rfl).2.1 hen
  have key : ∀ k a, n = a + k → run isBl T n a = run isBl T n e → wX4_advance_5 pst (k + 1) (some 3) (nI a) (cp nA nK R I J) := by
    intro k
    induction k with
    | zero =>
      intro a ha hr
      have e1 : a = n := by omega
      subst e1
      unfold wX4_advance_5
      simp (disch := first | decide | omega) only [brT, brF, c_I, c_rc, c_pI, c_pZ, c_aI, c_sI, ca_I, ca_rc, ca_pI, cq_I, cq_rc, cq_pI, cq_R, cq_aR, cs_I, cs_rc, cs_pI, cs_pZ, f0_0, f0_1, f0_2, f0_3, f0_4, f0_5, f0_6, f0_7, f1_0, f3_0, f4_0, f4_1, f7_0, f7_1, f7_2, f7_3, f7_4, f7_5, f7_6, f7_7, f7_8, f7_9, f17_0, f17_1, f17_2, f17_3, f17_4, f17_5, f0_8, f0_8p, f7_10, f7_10p, g9, g9r, g9w, g11, g11r, g11w, g12, g12r, g12w, g13, g13r, g13w, g14, g14r, g14w, g15, g15r, g15w, g25, g25r, g25w, h5, h5w, h5z, h6, h6w, h6z, h8, h8w, h8z, h21, h21w, h21z, h22, h22w, h22z, h23, h23w, fl10, fl16, fl18, fl20, fl24, g11f, g12f, g13f, g14f, g15f, g25f, cN2, cN10, cN16, cN18, cN19, cN20, cN24, z01, z11, ix1, ix2, nI_add, nI_clamp, vin, true_and, and_true, or_true, true_or, h.1, ile, brt (Nat.le_refl a)]
      rw [run_end (Nat.le_refl _)] at hr
      refine v_adv36 h (Nat.le_refl _) fun I' b1 b2 => hp I' b1 ?_
      unfold skp
      rw [← hr]
      exact b2
    | succ k ih =>
      intro a ha hr
      have han : a < n := by omega
      unfold wX4_advance_5
      simp (disch := first | decide | omega) only [brT, brF, c_I, c_rc, c_pI, c_pZ, c_aI, c_sI, ca_I, ca_rc, ca_pI, cq_I, cq_rc, cq_pI, cq_R, cq_aR, cs_I, cs_rc, cs_pI, cs_pZ, f0_0, f0_1, f0_2, f0_3, f0_4, f0_5, f0_6, f0_7, f1_0, f3_0, f4_0, f4_1, f7_0, f7_1, f7_2, f7_3, f7_4, f7_5, f7_6, f7_7, f7_8, f7_9, f17_0, f17_1, f17_2, f17_3, f17_4, f17_5, f0_8, f0_8p, f7_10, f7_10p, g9, g9r, g9w, g11, g11r, g11w, g12, g12r, g12w, g13, g13r, g13w, g14, g14r, g14w, g15, g15r, g15w, g25, g25r, g25w, h5, h5w, h5z, h6, h6w, h6z, h8, h8w, h8z, h21, h21w, h21z, h22, h22w, h22z, h23, h23w, fl10, fl16, fl18, fl20, fl24, g11f, g12f, g13f, g14f, g15f, g25f, cN2, cN10, cN16, cN18, cN19, cN20, cN24, z01, z11, ix1, ix2, nI_add, nI_clamp, vin, true_and, and_true, or_true, true_or, h.1, ile, brf (show ¬ n ≤ a by omega), h.2.2 a han]
      refine brc (fun g => ih (a + 1) (by omega) ?_) fun g => ?_
      · rw [← run_yes han (by unfold isBl; exact decide_eq_true g)]; exact hr
      · rw [run_no (by unfold isBl; exact decide_eq_false g)] at hr
        refine v_adv36 h (by omega) fun I' b1 b2 => hp I' b1 ?_
        unfold skp
        rw [← hr]
        exact b2
  unfold wX4_advance
  simp (disch := first | decide | omega) only [brT, brF, c_I, c_rc, c_pI, c_pZ, c_aI, c_sI, ca_I, ca_rc, ca_pI, cq_I, cq_rc, cq_pI, cq_R, cq_aR, cs_I, cs_rc, cs_pI, cs_pZ, f0_0, f0_1, f0_2, f0_3, f0_4, f0_5, f0_6, f0_7, f1_0, f3_0, f4_0, f4_1, f7_0, f7_1, f7_2, f7_3, f7_4, f7_5, f7_6, f7_7, f7_8, f7_9, f17_0, f17_1, f17_2, f17_3, f17_4, f17_5, f0_8, f0_8p, f7_10, f7_10p, g9, g9r, g9w, g11, g11r, g11w, g12, g12r, g12w, g13, g13r, g13w, g14, g14r, g14w, g15, g15r, g15w, g25, g25r, g25w, h5, h5w, h5z, h6, h6w, h6z, h8, h8w, h8z, h21, h21w, h21z, h22, h22w, h22z, h23, h23w, fl10, fl16, fl18, fl20, fl24, g11f, g12f, g13f, g14f, g15f, g25f, cN2, cN10, cN16, cN18, cN19, cN20, cN24, z01, z11, ix1, ix2, nI_add, nI_clamp, vin, true_and, and_true, or_true, true_or, he]
  exact ⟨_, key (n - e) e (by omega) rfl⟩
theorem beh_le (hp : p ≤ n) : behS T n p ≤ n := by
  unfold behS
  have h1 := (run_ge (P := isLt) (T := T) (n := n) (n - p) p rfl).2.1 hp
  have h2 := (run_ge (P := isDg) (T := T) (n := n) (n - p) p rfl).2.1 hp
  unfold wep dep
  repeat' split
  all_goals omega
theorem srt_word (h : wep T n p ≠ p) : srtS T n p = 1 := by
  have hpn : p < n := by
    apply Decidable.byContradiction
    intro hc
    exact h (run_end (by omega))
  refine (srt_1 hpn).mpr ?_
  cases hb : isLt (T p)
  · exact absurd (run_no hb) h
  · rfl
theorem isWb_srt (hw : w < 9) (h : isWb T n p w = true) : srtS T n p = 1 ∧ behS T n p = wep T n p := by
  have h1 := (isWb_iff.mp h).1
  have h2 := (wch_ok w hw).2.1
  have h3 := srt_word (T := T) (n := n) (p := p) (by omega)
  exact ⟨h3, by unfold behS; rw [if_pos h3]⟩
theorem v_isAt (hw : w < 9) (h : TP T n I) (ht : TK T n I p) : wX4_isAt post (some 3) w (cp nA nK R I J) = post (bI (isWb T n p w = true)) (cp nA nK R I J) := by
  have h400 := h.2.1
  obtain ⟨t1, t2, t3, hpn⟩ := ht
  have hsl := srtS_lt (T := T) (n := n) (p := p)
  have hlen := wch_ok w hw
  have hrun := run_ge (P := isLt) (T := T) (n := n) (n - p) p rfl
  have hwl : wep T n p ≤ n := hrun.2.1 hpn
  have hwg : p ≤ wep T n p := hrun.1
  unfold wX4_isAt xsl
  rw [eq_true hw, true_and]
  have h1 : (1 : Int32) = nI 1 := rfl
  simp (disch := first | decide | omega) only [brT, brF, c_I, c_rc, c_pI, c_pZ, c_aI, c_sI, ca_I, ca_rc, ca_pI, cq_I, cq_rc, cq_pI, cq_R, cq_aR, cs_I, cs_rc, cs_pI, cs_pZ, f0_0, f0_1, f0_2, f0_3, f0_4, f0_5, f0_6, f0_7, f1_0, f3_0, f4_0, f4_1, f7_0, f7_1, f7_2, f7_3, f7_4, f7_5, f7_6, f7_7, f7_8, f7_9, f17_0, f17_1, f17_2, f17_3, f17_4, f17_5, f0_8, f0_8p, f7_10, f7_10p, g9, g9r, g9w, g11, g11r, g11w, g12, g12r, g12w, g13, g13r, g13w, g14, g14r, g14w, g15, g15r, g15w, g25, g25r, g25w, h5, h5w, h5z, h6, h6w, h6z, h8, h8w, h8z, h21, h21w, h21z, h22, h22w, h22z, h23, h23w, fl10, fl16, fl18, fl20, fl24, g11f, g12f, g13f, g14f, g15f, g25f, cN2, cN10, cN16, cN18, cN19, cN20, cN24, z01, z11, ix1, ix2, nI_add, nI_clamp, vin, true_and, and_true, or_true, true_or, t1, t2, t3]
  by_cases hs : srtS T n p = 1
  · rw [brt (show nI (srtS T n p) = 1 by rw [hs]; rfl)]
    have hb : behS T n p = wep T n p := by unfold behS; rw [if_pos hs]
    rw [hb, nI_subb hwg, ieq (by omega) (by omega)]
    by_cases hl : wep T n p - p = lenG.getD w 0
    · rw [brt hl]
      have hl2 : wep T n p = p + lenG.getD w 0 := by omega
      have back : ∀ k i, lenG.getD w 0 = i + k → (∀ j, j < i → T (p + j) = wch w j) → post (bI (isWb T n p w = true)) (cp nA nK R I J) → wX4_isAt_30 post (k + 1) (some 3) w (nI (lenG.getD w 0)) (nI i) (cp nA nK R I J) := by
        intro k
        induction k with
        | zero =>
          intro i hi hall hp
          unfold wX4_isAt_30
          rw [bI_t (isWb_iff.mpr ⟨hl2, fun j hj => hall j (by omega)⟩)] at hp
          simp (disch := first | decide | omega) only [ile, brt (show lenG.getD w 0 ≤ i by omega), brT, brF, c_I, c_rc, c_pI, c_pZ, c_aI, c_sI, ca_I, ca_rc, ca_pI, cq_I, cq_rc, cq_pI, cq_R, cq_aR, cs_I, cs_rc, cs_pI, cs_pZ, f0_0, f0_1, f0_2, f0_3, f0_4, f0_5, f0_6, f0_7, f1_0, f3_0, f4_0, f4_1, f7_0, f7_1, f7_2, f7_3, f7_4, f7_5, f7_6, f7_7, f7_8, f7_9, f17_0, f17_1, f17_2, f17_3, f17_4, f17_5, f0_8, f0_8p, f7_10, f7_10p, g9, g9r, g9w, g11, g11r, g11w, g12, g12r, g12w, g13, g13r, g13w, g14, g14r, g14w, g15, g15r, g15w, g25, g25r, g25w, h5, h5w, h5z, h6, h6w, h6z, h8, h8w, h8z, h21, h21w, h21z, h22, h22w, h22z, h23, h23w, fl10, fl16, fl18, fl20, fl24, g11f, g12f, g13f, g14f, g15f, g25f, cN2, cN10, cN16, cN18, cN19, cN20, cN24, z01, z11, ix1, ix2, nI_add, nI_clamp, vin, true_and, and_true, or_true, true_or]
          exact hp
        | succ k ih =>
          intro i hi hall hp
          have hch : chG w (nI i) = wch w i := by unfold chG wch; rw [nI_clamp (by omega)]
          unfold wX4_isAt_30 xsc
          simp (disch := first | decide | omega) only [ile, brf (show ¬ lenG.getD w 0 ≤ i by omega), brT, brF, c_I, c_rc, c_pI, c_pZ, c_aI, c_sI, ca_I, ca_rc, ca_pI, cq_I, cq_rc, cq_pI, cq_R, cq_aR, cs_I, cs_rc, cs_pI, cs_pZ, f0_0, f0_1, f0_2, f0_3, f0_4, f0_5, f0_6, f0_7, f1_0, f3_0, f4_0, f4_1, f7_0, f7_1, f7_2, f7_3, f7_4, f7_5, f7_6, f7_7, f7_8, f7_9, f17_0, f17_1, f17_2, f17_3, f17_4, f17_5, f0_8, f0_8p, f7_10, f7_10p, g9, g9r, g9w, g11, g11r, g11w, g12, g12r, g12w, g13, g13r, g13w, g14, g14r, g14w, g15, g15r, g15w, g25, g25r, g25w, h5, h5w, h5z, h6, h6w, h6z, h8, h8w, h8z, h21, h21w, h21z, h22, h22w, h22z, h23, h23w, fl10, fl16, fl18, fl20, fl24, g11f, g12f, g13f, g14f, g15f, g25f, cN2, cN10, cN16, cN18, cN19, cN20, cN24, z01, z11, ix1, ix2, nI_add, nI_clamp, vin, true_and, and_true, or_true, true_or, t2, h.1, brf (show ¬ n ≤ p + i by omega), h.2.2 (p + i) (by omega), hch]
          refine ⟨hw, ?_⟩
          refine brc (fun g => ih (i + 1) (by omega) (fun j hj => ?_) hp) fun g => ?_
          · by_cases e : j = i
            · rw [e]; exact g
            · exact hall j (by omega)
          · rw [bI_f (fun z => g ((isWb_iff.mp z).2 i (by omega)))] at hp
            exact hp
      have forth : ∀ k i, i ≤ lenG.getD w 0 → (∀ j, j < i → T (p + j) = wch w j) → wX4_isAt_30 post k (some 3) w (nI (lenG.getD w 0)) (nI i) (cp nA nK R I J) → post (bI (isWb T n p w = true)) (cp nA nK R I J) := by
        intro k
        induction k with
        | zero => intro i _ _ hp; unfold wX4_isAt_30 at hp; exact False.elim hp
        | succ k ih =>
          intro i hi hall hp
          by_cases hil : i = lenG.getD w 0
          · unfold wX4_isAt_30 at hp
            rw [ile (by omega) (by omega), brt (show lenG.getD w 0 ≤ i by omega)] at hp
            rw [bI_t (isWb_iff.mpr ⟨hl2, fun j hj => hall j (by omega)⟩)]
            exact hp.2
          · have hch : chG w (nI i) = wch w i := by unfold chG wch; rw [nI_clamp (by omega)]
            unfold wX4_isAt_30 xsc at hp
            simp (disch := first | decide | omega) only [ile, brf (show ¬ lenG.getD w 0 ≤ i by omega), brT, brF, c_I, c_rc, c_pI, c_pZ, c_aI, c_sI, ca_I, ca_rc, ca_pI, cq_I, cq_rc, cq_pI, cq_R, cq_aR, cs_I, cs_rc, cs_pI, cs_pZ, f0_0, f0_1, f0_2, f0_3, f0_4, f0_5, f0_6, f0_7, f1_0, f3_0, f4_0, f4_1, f7_0, f7_1, f7_2, f7_3, f7_4, f7_5, f7_6, f7_7, f7_8, f7_9, f17_0, f17_1, f17_2, f17_3, f17_4, f17_5, f0_8, f0_8p, f7_10, f7_10p, g9, g9r, g9w, g11, g11r, g11w, g12, g12r, g12w, g13, g13r, g13w, g14, g14r, g14w, g15, g15r, g15w, g25, g25r, g25w, h5, h5w, h5z, h6, h6w, h6z, h8, h8w, h8z, h21, h21w, h21z, h22, h22w, h22z, h23, h23w, fl10, fl16, fl18, fl20, fl24, g11f, g12f, g13f, g14f, g15f, g25f, cN2, cN10, cN16, cN18, cN19, cN20, cN24, z01, z11, ix1, ix2, nI_add, nI_clamp, vin, true_and, and_true, or_true, true_or, t2, h.1, brf (show ¬ n ≤ p + i by omega), h.2.2 (p + i) (by omega), hch] at hp
            have hp := hp.2
            by_cases g : T (p + i) = wch w i
            · rw [brt g] at hp
              refine ih (i + 1) (by omega) (fun j hj => ?_) hp
              by_cases e : j = i
              · rw [e]; exact g
              · exact hall j (by omega)
            · rw [brf g] at hp
              rw [bI_f (fun z => g ((isWb_iff.mp z).2 i (by omega)))]
              exact hp
      exact propext ⟨fun ⟨k, hk⟩ => forth k 0 (by omega) (fun j hj => by omega) hk, fun hp => ⟨_, back (lenG.getD w 0) 0 (by omega) (fun j hj => by omega) hp⟩⟩
    · rw [brf hl, bI_f (fun z => hl (by have := (isWb_iff.mp z).1; omega))]
  · rw [brf (show ¬ nI (srtS T n p) = 1 by rw [h1, ieq (by omega) (by decide)]; exact hs), bI_f (fun z => hs (isWb_srt hw z).1)]
theorem v_field (h : TP T n I) (ht : TK T n I p) : wX4_fieldHere post (some 3) (cp nA nK R I J) = post (oI (fldS T n p)) (cp nA nK R I J) := by
  unfold wX4_fieldHere fldS
  simp (disch := first | decide | omega) only [brT, brF, c_I, c_rc, c_pI, c_pZ, c_aI, c_sI, ca_I, ca_rc, ca_pI, cq_I, cq_rc, cq_pI, cq_R, cq_aR, cs_I, cs_rc, cs_pI, cs_pZ, f0_0, f0_1, f0_2, f0_3, f0_4, f0_5, f0_6, f0_7, f1_0, f3_0, f4_0, f4_1, f7_0, f7_1, f7_2, f7_3, f7_4, f7_5, f7_6, f7_7, f7_8, f7_9, f17_0, f17_1, f17_2, f17_3, f17_4, f17_5, f0_8, f0_8p, f7_10, f7_10p, g9, g9r, g9w, g11, g11r, g11w, g12, g12r, g12w, g13, g13r, g13w, g14, g14r, g14w, g15, g15r, g15w, g25, g25r, g25w, h5, h5w, h5z, h6, h6w, h6z, h8, h8w, h8z, h21, h21w, h21z, h22, h22w, h22z, h23, h23w, fl10, fl16, fl18, fl20, fl24, g11f, g12f, g13f, g14f, g15f, g25f, cN2, cN10, cN16, cN18, cN19, cN20, cN24, z01, z11, ix1, ix2, nI_add, nI_clamp, vin, true_and, and_true, or_true, true_or, v_isAt (w := 1) (by decide) h ht, v_isAt (w := 2) (by decide) h ht, v_isAt (w := 3) (by decide) h ht, bI_br]
  by_cases h1 : isWb T n p 1 = true
  · rw [brt h1, if_pos h1]; rfl
  · rw [brf h1, if_neg h1]
    by_cases h2 : isWb T n p 2 = true
    · rw [brt h2, if_pos h2]; rfl
    · rw [brf h2, if_neg h2]
      by_cases h3 : isWb T n p 3 = true
      · rw [brt h3, if_pos h3]; rfl
      · rw [brf h3, if_neg h3]; rfl
def oN (o : Option Int32) : Int32 := match o with
  | none => -1
  | some v => v
theorem nvS_s {a : Nat} : nvS T p (a + 1) = nvS T p a * 10 + T (p + a) - 48 := by
  rw [nvS, Int32.mul_comm]
theorem v_number (h : TP T n I) (ht : TK T n I p) (hp : post (oN (numS T n p lo hi)) (cp nA nK R I J)) : wX4_numberHere post (some 3) lo hi (cp nA nK R I J) := by
  have h400 := h.2.1
  obtain ⟨t1, t2, t3, hpn⟩ := ht
  have hsl := srtS_lt (T := T) (n := n) (p := p)
  have hrun := run_ge (P := isDg) (T := T) (n := n) (n - p) p rfl
  have hdl : dep T n p ≤ n := hrun.2.1 hpn
  have hdg : p ≤ dep T n p := hrun.1
  have h2 : (2 : Int32) = nI 2 := rfl
  unfold wX4_numberHere
  simp (disch := first | decide | omega) only [brT, brF, c_I, c_rc, c_pI, c_pZ, c_aI, c_sI, ca_I, ca_rc, ca_pI, cq_I, cq_rc, cq_pI, cq_R, cq_aR, cs_I, cs_rc, cs_pI, cs_pZ, f0_0, f0_1, f0_2, f0_3, f0_4, f0_5, f0_6, f0_7, f1_0, f3_0, f4_0, f4_1, f7_0, f7_1, f7_2, f7_3, f7_4, f7_5, f7_6, f7_7, f7_8, f7_9, f17_0, f17_1, f17_2, f17_3, f17_4, f17_5, f0_8, f0_8p, f7_10, f7_10p, g9, g9r, g9w, g11, g11r, g11w, g12, g12r, g12w, g13, g13r, g13w, g14, g14r, g14w, g15, g15r, g15w, g25, g25r, g25w, h5, h5w, h5z, h6, h6w, h6z, h8, h8w, h8z, h21, h21w, h21z, h22, h22w, h22z, h23, h23w, fl10, fl16, fl18, fl20, fl24, g11f, g12f, g13f, g14f, g15f, g25f, cN2, cN10, cN16, cN18, cN19, cN20, cN24, z01, z11, ix1, ix2, nI_add, nI_clamp, vin, true_and, and_true, or_true, true_or, t1, t2, t3]
  rw [h2, ieq (by omega) (by decide)]
  refine brc (fun hs => ?_) fun hs => ?_
  · have hb : behS T n p = dep T n p := by unfold behS; rw [if_neg (by omega), if_pos hs]
    have hpn2 : p < n := by
      apply Decidable.byContradiction
      intro hc
      unfold srtS at hs
      rw [if_pos (by omega)] at hs
      omega
    have hd1 : dep T n p = dep T n (p + 1) := run_yes hpn2 ((srt_2 hpn2).mp hs)
    have hd2 := (run_ge (P := isDg) (T := T) (n := n) (n - (p + 1)) (p + 1) rfl).1
    have hdp : dep T n p ≠ p := by unfold dep at hd1 ⊢; omega
    rw [hb, nI_subb hdg, show (6 : Int32) = nI 6 from rfl, ile (by omega) (by decide)]
    refine brc (fun h6 => ?_) fun h6 => ?_
    · have key : ∀ k a, dep T n p - p = a + k → wX4_numberHere_32 post (k + 1) (some 3) lo hi (nvS T p a) (nI (p + a)) (cp nA nK R I J) := by
        intro k
        induction k with
        | zero =>
          intro a ha
          have e : a = dep T n p - p := by omega
          unfold wX4_numberHere_32 wX4_numberHere_78
          simp (disch := first | decide | omega) only [brT, brF, c_I, c_rc, c_pI, c_pZ, c_aI, c_sI, ca_I, ca_rc, ca_pI, cq_I, cq_rc, cq_pI, cq_R, cq_aR, cs_I, cs_rc, cs_pI, cs_pZ, f0_0, f0_1, f0_2, f0_3, f0_4, f0_5, f0_6, f0_7, f1_0, f3_0, f4_0, f4_1, f7_0, f7_1, f7_2, f7_3, f7_4, f7_5, f7_6, f7_7, f7_8, f7_9, f17_0, f17_1, f17_2, f17_3, f17_4, f17_5, f0_8, f0_8p, f7_10, f7_10p, g9, g9r, g9w, g11, g11r, g11w, g12, g12r, g12w, g13, g13r, g13w, g14, g14r, g14w, g15, g15r, g15w, g25, g25r, g25w, h5, h5w, h5z, h6, h6w, h6z, h8, h8w, h8z, h21, h21w, h21z, h22, h22w, h22z, h23, h23w, fl10, fl16, fl18, fl20, fl24, g11f, g12f, g13f, g14f, g15f, g25f, cN2, cN10, cN16, cN18, cN19, cN20, cN24, z01, z11, ix1, ix2, nI_add, nI_clamp, vin, true_and, and_true, or_true, true_or, t3, hb, ile, brt (show dep T n p ≤ p + a by omega)]
          rw [e]
          unfold numS at hp
          refine brc (fun g => ?_) fun g => brc (fun g2 => ?_) fun g2 => ?_
          · rw [if_pos (.inr (.inr (.inl g)))] at hp; exact hp
          · rw [if_pos (.inr (.inr (.inr g2)))] at hp; exact hp
          · rw [if_neg (by rintro (z | z | z | z); exact hdp z; omega; exact g z; exact g2 z)] at hp; exact hp
        | succ k ih =>
          intro a ha
          unfold wX4_numberHere_32
          simp (disch := first | decide | omega) only [brT, brF, c_I, c_rc, c_pI, c_pZ, c_aI, c_sI, ca_I, ca_rc, ca_pI, cq_I, cq_rc, cq_pI, cq_R, cq_aR, cs_I, cs_rc, cs_pI, cs_pZ, f0_0, f0_1, f0_2, f0_3, f0_4, f0_5, f0_6, f0_7, f1_0, f3_0, f4_0, f4_1, f7_0, f7_1, f7_2, f7_3, f7_4, f7_5, f7_6, f7_7, f7_8, f7_9, f17_0, f17_1, f17_2, f17_3, f17_4, f17_5, f0_8, f0_8p, f7_10, f7_10p, g9, g9r, g9w, g11, g11r, g11w, g12, g12r, g12w, g13, g13r, g13w, g14, g14r, g14w, g15, g15r, g15w, g25, g25r, g25w, h5, h5w, h5z, h6, h6w, h6z, h8, h8w, h8z, h21, h21w, h21z, h22, h22w, h22z, h23, h23w, fl10, fl16, fl18, fl20, fl24, g11f, g12f, g13f, g14f, g15f, g25f, cN2, cN10, cN16, cN18, cN19, cN20, cN24, z01, z11, ix1, ix2, nI_add, nI_clamp, vin, true_and, and_true, or_true, true_or, t3, hb, ile, brf (show ¬ dep T n p ≤ p + a by omega), h.1, brf (show ¬ n ≤ p + a by omega), h.2.2 (p + a) (by omega)]
          rw [← nvS_s]
          exact ih (a + 1) (by omega)
      exact ⟨_, key (dep T n p - p) 0 (by omega)⟩
    · unfold numS at hp
      rw [if_pos (.inr (.inl (by omega)))] at hp
      exact hp
  · have hdp : dep T n p = p := by
      by_cases hpn2 : p < n
      · refine run_no ?_
        cases hb : isDg (T p)
        · rfl
        · exact absurd ((srt_2 hpn2).mpr hb) hs
      · exact run_end (by omega)
    unfold numS at hp
    rw [if_pos (.inl hdp)] at hp
    exact hp
end
