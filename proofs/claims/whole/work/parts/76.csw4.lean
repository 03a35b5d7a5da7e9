section
variable {D : Mem} {nA nK nw q k fb ns pf l kn st i j s p x : Nat} {t v : Int32} {R : RMem} {I : Mem} {J : Nat → Nat → Int64} {post : Int32 → Pool → Prop} {pst : Pool → Prop}
theorem BV_2 {a : Nat} (hA : nA ≤ 250) (h : BV D nA t q s a v) : (v = -2) = ¬ EN D nA t q s a := by
  rcases h with ⟨h1, rfl⟩ | ⟨h1, ⟨_, rfl⟩ | ⟨p, x, _, h3, rfl⟩⟩
  · simp [h1]
  · simp [h1]
  · have hx := h3.1
    have e : ¬ nI x = -2 := fun z => by
      have := congrArg Int32.toInt z
      rw [nI_toInt (by omega)] at this
      have h2 : (-2 : Int32).toInt = -2 := by decide
      omega
    simp [h1, e]
theorem LA_f (h : LA D nA t q ns I (up s j)) (hE : ¬ EN D nA t q s (bt D nA j)) : LA D nA t q ns I (up (s + 1) j) := by
  intro s' hs' h0 v hv
  have := h s' hs' h0 v hv
  by_cases e : s' = s
  · subst e
    rw [up_at.1] at this
    rw [up_at.2, lsB_f (fun z => hE z.1)]
    exact this
  · rw [up_same e]; exact this
theorem LA_t {w : Nat} (h : LA D nA t q ns I (up s j)) (hns : ns ≤ 6) (hs : s < ns) (hs0 : D 14 (6 * q + s) = 0) (hE : EN D nA t q s (bt D nA j)) (hw : vl D q (bt D nA j) = nI w) (hw2 : w < 31) : LA D nA t q ns (p2 (p2 I (32 + rk D q s) w (nI (bt D nA j))) (38 + rk D q s) w (D 8 (bt D nA j))) (up (s + 1) j) := by
  intro s' hs' h0 v hv
  have := h s' hs' h0 v hv
  have h1 := rk_le (D := D) (q := q) s'
  have h2 := rk_le (D := D) (q := q) s
  by_cases e : s' = s
  · subst e
    rw [up_at.1] at this
    rw [up_at.2, p2_ne (by omega)]
    by_cases e2 : v = w
    · subst e2
      rw [p2_same, p2_same, lsB_t (P := fun a => EN D nA t q s' a ∧ vl D q a = nI v) ⟨hE, hw⟩]
      exact ⟨rfl, rfl⟩
    · rw [p2_row e2, p2_row e2, p2_ne (by omega), lsB_f]
      · exact this
      · intro z
        rw [hw, ieq (by omega) (by omega)] at z
        exact e2 z.2.symm
  · have hne : rk D q s' ≠ rk D q s := fun z => e (rk_inj h0 hs0 z)
    rw [up_same e, p2_ne (by omega), p2_ne (by omega), p2_ne (by omega), p2_ne (by omega)]
    exact this
/-- the nots of the steps below s at the act at j -/
def LNs (D : Mem) (nA : Nat) (t : Int32) (q ns : Nat) (I : Mem) (j s : Nat) : Prop := ∀ r v, r < 6 → v < 31 → I (44 + r) v = otd D (-1) (@ite _ (NT D q s r (bt D nA j) ∧ vl D q (bt D nA j) = nI v) (Classical.propDecidable _) (some (bt D nA j)) (lsB (bt D nA) (fun c => D 9 c ≤ t ∧ NT D q ns r c ∧ vl D q c = nI v) j))
theorem NT_s {r c : Nat} : NT D q (s + 1) r c ↔ NT D q s r c ∨ (¬ D 14 (6 * q + s) = 0 ∧ rk D q s = r ∧ FT0 D q s c) := by
  constructor
  · rintro ⟨n, h1, h2, h3, h4⟩
    by_cases e : n = s
    · subst e; exact .inr ⟨h2, h3, h4⟩
    · exact .inl ⟨n, by omega, h2, h3, h4⟩
  · rintro (⟨n, h1, h2⟩ | h)
    · exact ⟨n, by omega, h2⟩
    · exact ⟨s, by omega, h⟩
theorem LNs_f (h : LNs D nA t q ns I j s) (hE : ¬ (¬ D 14 (6 * q + s) = 0 ∧ FT0 D q s (bt D nA j))) : LNs D nA t q ns I j (s + 1) := by
  intro r v hr hv
  have e : NT D q (s + 1) r (bt D nA j) = NT D q s r (bt D nA j) := propext (NT_s.trans ⟨fun z => z.elim id (fun y => absurd ⟨y.1, y.2.2⟩ hE), .inl⟩)
  rw [e]
  exact h r v hr hv
theorem LNs_t {w : Nat} (h : LNs D nA t q ns I j s) (hs0 : ¬ D 14 (6 * q + s) = 0) (hE : FT0 D q s (bt D nA j)) (hr6 : rk D q s < 6) (hw : vl D q (bt D nA j) = nI w) (hw2 : w < 31) : LNs D nA t q ns (p2 I (44 + rk D q s) w (D 8 (bt D nA j))) j (s + 1) := by
  intro r v hr hv
  have := h r v hr hv
  by_cases e : r = rk D q s ∧ v = w
  · obtain ⟨rfl, rfl⟩ := e
    rw [p2_same, if_pos ⟨NT_s.mpr (.inr ⟨hs0, rfl, hE⟩), hw⟩]
    rfl
  · have e1 : p2 I (44 + rk D q s) w (D 8 (bt D nA j)) (44 + r) v = I (44 + r) v := by
      by_cases e2 : r = rk D q s
      · rw [e2, p2_row (fun z => e ⟨e2, z⟩)]
      · rw [p2_ne (by omega)]
    have e3 : (NT D q (s + 1) r (bt D nA j) ∧ vl D q (bt D nA j) = nI v) = (NT D q s r (bt D nA j) ∧ vl D q (bt D nA j) = nI v) := by
      refine propext ⟨fun z => ⟨(NT_s.mp z.1).elim id fun y => ?_, z.2⟩, fun z => ⟨NT_s.mpr (.inl z.1), z.2⟩⟩
      have z2 := z.2
      rw [hw, ieq (by omega) (by omega)] at z2
      exact absurd ⟨y.2.1.symm, z2.symm⟩ e
    rw [e1, this, e3]
/-- what settle keeps -/
def PK (D : Mem) (nA : Nat) (t : Int32) (q ns pf l : Nat) (I : Mem) (i : Nat) : Prop := FI D nA t q ns I (fun _ => i) ∧ FM D nA t I i ∧ BF D nA t q ns I (fun _ => i) ∧ SDp D nA t q pf l I i ∧ NX I
theorem PK_cg {I' : Mem} (hns : ns ≤ 6) (h : PK D nA t q ns pf l I i) (hc : ∀ c, ¬ (32 ≤ c ∧ c < 50) → c ≠ 7 → I' c = I c) : PK D nA t q ns pf l I' i := by
  obtain ⟨h1, h2, h3, h4, h5⟩ := h
  refine ⟨fun s a b => ?_, fun f a => ?_, fun s a b => ?_, fun a v w b c => ?_, fun s v a b => ?_⟩
  · rw [hc 10 (by omega) (by decide)]; exact h1 s a b
  · rw [hc 16 (by omega) (by decide)]; exact h2 f a
  · have := rk_le (D := D) (q := q) s
    rw [hc (26 + rk D q s) (by omega) (by omega)]; exact h3 s a b
  · rw [hc (56 + v) (by omega) (by omega)]; exact h4 a v w b c
  · rw [hc (50 + s) (by omega) (by omega)]; exact h5 s v a b
theorem v_ss14 (hj : j < i) (hi : i ≤ nA) (hkn : D 9 (bt D nA j) ≤ t) {w : Nat} (hw : vl D q (bt D nA j) = nI w) (hw2 : w < 31) {R0 : RMem} {I0 : Mem}
    (hp : ∀ I', FRM R0 I0 R I' → PK D nA t q ns pf l I' i → LA D nA t q ns I' (fun _ => j + 1) → LN D nA t q ns I' (j + 1) → I' 7 = I0 7 → pst (cp nA nK R I' J)) :
    ∀ k' s I, ns = s + k' → CX D nA nK nw q k fb ns pf l kn t R I → FRM R0 I0 R I → PK D nA t q ns pf l I i → LA D nA t q ns I (up s j) → LNs D nA t q ns I j s → I 7 = I0 7 → wX6_settleSteps_14 pst (k' + 1) (some 7) (some (1000 + bt D nA j)) (nI w) (nI s) (cp nA nK R I J) := by
  intro k'
  induction k' with
  | zero =>
    intro s I hs hX hF g1 g2 g3 g4
    obtain ⟨hW, hQ, hk, hAC, hBT, hl, hQC, h710, h713, hkn0, hknw, h712⟩ := hX
    have hns : ns ≤ 6 := hQ.1.2.2.2.1
    unfold wX6_settleSteps_14
    simp (disch := first | decide | omega) only [c_I, c_rc, c_pI, c_pZ, c_aI, c_sI, ca_I, ca_rc, ca_pI, cq_I, cq_rc, cq_pI, cq_R, cq_aR, cs_I, cs_rc, cs_pI, cs_pZ, f0_0, f0_1, f0_2, f0_3, f0_4, f0_5, f0_6, f0_7, f1_0, f3_0, f4_0, f4_1, f7_0, f7_1, f7_2, f7_3, f7_4, f7_5, f7_6, f7_7, f7_8, f7_9, f17_0, f17_1, f17_2, f17_3, f17_4, f17_5, f0_8, f0_8p, f7_10, f7_10p, g9, g9r, g9w, g11, g11r, g11w, g12, g12r, g12w, g13, g13r, g13w, g14, g14r, g14w, g15, g15r, g15w, g25, g25r, g25w, h5, h5w, h5z, h6, h6w, h6z, h8, h8w, h8z, h21, h21w, h21z, h22, h22w, h22z, h23, h23w, fl10, fl16, fl18, fl20, fl24, g11f, g12f, g13f, g14f, g15f, g25f, cN2, cN10, cN16, cN18, cN19, cN20, cN24, z01, z11, ix1, ix2, nI_add, nI_clamp, vin, true_and, and_true, or_true, true_or, h710, hQC.1, ile, brt (show ns ≤ s by omega)]
    refine hp I hF g1 (fun s' h1 h2 => ?_) (fun r v hr hv => ?_) g4
    · have := g2 s' h1 h2
      unfold up at this
      rw [if_pos (by omega)] at this
      exact this
    · have e : s = ns := by omega
      subst e
      rw [g3 r v hr hv]
      by_cases e : NT D q s r (bt D nA j) ∧ vl D q (bt D nA j) = nI v
      · rw [if_pos e, lsB_t (P := fun c => D 9 c ≤ t ∧ NT D q s r c ∧ vl D q c = nI v) ⟨hkn, e⟩]
      · rw [if_neg e, lsB_f (fun z => e z.2)]
  | succ k' ih =>
    intro s I hs hX hF g1 g2 g3 g4
    have hX0 := hX
    obtain ⟨hW, hQ, hk, hAC, hBT, hl, hQC, h710, h713, hkn0, hknw, h712⟩ := hX
    have hA := hW.1
    have hns : ns ≤ 6 := hQ.1.2.2.2.1
    have hsn : s < ns := by omega
    have hb := bt_lt (D := D) (show j < nA by omega)
    obtain ⟨_, a0, a1, a2, a5, a6, a7, a8⟩ := hAC (bt D nA j) hb
    obtain ⟨c0, c1, c4, c5, c6, c7⟩ := hQC.2.2.2.2.2 s hsn
    have hrl := rk_le (D := D) (q := q) s
    have hadm := adm_FT0 hAC hQC hb hsn
    unfold wX6_settleSteps_14 wX6_settleSteps_124
    simp (disch := first | decide | omega) only [c_I, c_rc, c_pI, c_pZ, c_aI, c_sI, ca_I, ca_rc, ca_pI, cq_I, cq_rc, cq_pI, cq_R, cq_aR, cs_I, cs_rc, cs_pI, cs_pZ, f0_0, f0_1, f0_2, f0_3, f0_4, f0_5, f0_6, f0_7, f1_0, f3_0, f4_0, f4_1, f7_0, f7_1, f7_2, f7_3, f7_4, f7_5, f7_6, f7_7, f7_8, f7_9, f17_0, f17_1, f17_2, f17_3, f17_4, f17_5, f0_8, f0_8p, f7_10, f7_10p, g9, g9r, g9w, g11, g11r, g11w, g12, g12r, g12w, g13, g13r, g13w, g14, g14r, g14w, g15, g15r, g15w, g25, g25r, g25w, h5, h5w, h5z, h6, h6w, h6z, h8, h8w, h8z, h21, h21w, h21z, h22, h22w, h22z, h23, h23w, fl10, fl16, fl18, fl20, fl24, g11f, g12f, g13f, g14f, g15f, g25f, cN2, cN10, cN16, cN18, cN19, cN20, cN24, z01, z11, ix1, ix2, nI_add, nI_clamp, vin, true_and, and_true, or_true, true_or, h710, hQC.1, ile, brf (show ¬ ns ≤ s by omega), c4, c7, a0, a5, p2_ne]
    refine brc (fun h0 => ?_) fun h0 => ?_
    · have hbv := g1.2.2.1 s hsn h0 j hj hkn
      rw [BV_2 hA hbv]
      refine brc (fun hE => ?_) fun hE => ?_
      · exact ih (s + 1) I (by omega) hX0 hF g1 (LA_f g2 hE) (LNs_f g3 fun z => z.1 h0) g4
      · have hE := Classical.not_not.mp hE
        refine ih (s + 1) _ (by omega) (CX_p (CX_p hX0 (by unfold sw; omega)) (by unfold sw; omega)) (FRM_p (FRM_p hF (by unfold sw; omega)) (by unfold sw; omega)) (PK_cg hns g1 fun c h1 h2 => by rw [p2_ne (by omega), p2_ne (by omega)]) (LA_t g2 hns hsn h0 hE hw hw2) ?_ ?_
        · refine LNs_f (fun r v hr hv => ?_) fun z => z.1 h0
          rw [p2_ne (by omega), p2_ne (by omega)]
          exact g3 r v hr hv
        · rw [p2_ne (by omega), p2_ne (by omega)]; exact g4
    · simp (disch := first | decide | omega) only [v_admits, hadm, bI_br, c_I, c_rc, c_pI, c_pZ, c_aI, c_sI, ca_I, ca_rc, ca_pI, cq_I, cq_rc, cq_pI, cq_R, cq_aR, cs_I, cs_rc, cs_pI, cs_pZ, f0_0, f0_1, f0_2, f0_3, f0_4, f0_5, f0_6, f0_7, f1_0, f3_0, f4_0, f4_1, f7_0, f7_1, f7_2, f7_3, f7_4, f7_5, f7_6, f7_7, f7_8, f7_9, f17_0, f17_1, f17_2, f17_3, f17_4, f17_5, f0_8, f0_8p, f7_10, f7_10p, g9, g9r, g9w, g11, g11r, g11w, g12, g12r, g12w, g13, g13r, g13w, g14, g14r, g14w, g15, g15r, g15w, g25, g25r, g25w, h5, h5w, h5z, h6, h6w, h6z, h8, h8w, h8z, h21, h21w, h21z, h22, h22w, h22z, h23, h23w, fl10, fl16, fl18, fl20, fl24, g11f, g12f, g13f, g14f, g15f, g25f, cN2, cN10, cN16, cN18, cN19, cN20, cN24, z01, z11, ix1, ix2, nI_add, nI_clamp, vin, true_and, and_true, or_true, true_or, p2_ne, c7, a5]
      have hLA : LA D nA t q ns I (up (s + 1) j) := fun s' h1 h2 => by
        rw [up_same (fun z : s' = s => h0 (z ▸ h2))]; exact g2 s' h1 h2
      refine brc (fun hE => ?_) fun hE => ?_
      · refine ih (s + 1) _ (by omega) (CX_p hX0 (by unfold sw; omega)) (FRM_p hF (by unfold sw; omega)) (PK_cg hns g1 fun c h1 h2 => by rw [p2_ne (by omega)]) ?_ (LNs_t g3 h0 hE (by omega) hw hw2) ?_
        · intro s' h1 h2 v hv
          have hrl' := rk_le (D := D) (q := q) s'
          rw [p2_ne (by omega), p2_ne (by omega)]
          exact hLA s' h1 h2 v hv
        · rw [p2_ne (by omega)]; exact g4
      · exact ih (s + 1) I (by omega) hX0 hF g1 hLA (LNs_f g3 fun z => hE z.2) g4
/-- spread, as the class counts it -/
theorem spread_ok {a w : Nat} (hW : WA D nA nw) (hQ : QV D nA q fb ns pf l) (hS : SDp D nA t q pf l I i) (ha : a < nA) (hi : i ≤ nA) (hgi : ∀ j, j < nA → (j < i ↔ D 8 (bt D nA j) ≤ D 8 a)) (hw : vl D q a = nI w) (hw2 : w < 31) (hn : ¬ D 19 q = -1) : SP D nA t q l a ↔ ¬ nI (cnt (fun u => ¬ I (56 + w) u ≤ D 8 a - D 21 q) 31) < D 20 q := by
  obtain ⟨W, w1, w3, w4⟩ := hQ.2.2.2.2.2.resolve_left hn
  have hpf : pf < 3 := hQ.1.2.2.2.2.2.2.1
  have htk := tk_toInt hW ha
  have hsub : (D 8 a - D 21 q).toInt = (D 8 a).toInt - W := by
    rw [w3, i32sub (by rw [nI_toInt (by omega)]; omega) (by rw [nI_toInt (by omega)]; omega), nI_toInt (by omega)]
  unfold SP
  rw [w1, nI_clamp (by omega)]
  have hnn : ¬ nI pf = -1 := nI_nm1 (by omega)
  have e : cnt (fun v => ∃ c, c < nA ∧ SPc D nA t q l a c ∧ D 7 (3 * c + pf) = nI v) 31 = cnt (fun u => ¬ I (56 + w) u ≤ D 8 a - D 21 q) 31 := by
    refine cnt_cong fun u hu => ?_
    rw [hS hn w u hw2 hu]
    cases hl : lsB (bt D nA) (fun c => FT D nA t q l c ∧ vl D q c = nI w ∧ D 7 (3 * c + pf) = nI u) i with
    | none =>
      have h1 := lsB_none hl
      have h2 : (-1000000 : Int32) ≤ D 8 a - D 21 q := by
        rw [Int32.le_iff_toInt_le, hsub]
        have : (-1000000 : Int32).toInt = -1000000 := by decide
        omega
      constructor
      · rintro ⟨c, c1, c2, c3⟩
        obtain ⟨jc, hjc, rfl⟩ := bt_at (D := D) c1
        exact absurd ⟨c2.1, c2.2.1.trans hw, c3⟩ (h1 jc ((hgi jc hjc).mpr c2.2.2.1))
      · intro z; exact absurd h2 z
    | some x =>
      obtain ⟨j, hj, rfl, ⟨x1, x2, x3⟩, hmax⟩ := lsB_some hl
      show _ ↔ ¬ D 8 (bt D nA j) ≤ D 8 a - D 21 q
      constructor
      · rintro ⟨c, c1, c2, c3⟩
        obtain ⟨jc, hjc, rfl⟩ := bt_at (D := D) c1
        have hjc2 := (hgi jc hjc).mpr c2.2.2.1
        have h4 : jc ≤ j := by
          apply Decidable.byContradiction
          intro hcn
          exact hmax jc (by omega) hjc2 ⟨c2.1, c2.2.1.trans hw, c3⟩
        have h5 := bt_le (D := D) h4 (by omega : j < nA)
        intro z
        exact Int32.not_le.mpr c2.2.2.2 (Int32.le_trans h5 z)
      · intro z
        exact ⟨bt D nA j, bt_lt (by omega), ⟨x1, x2.trans hw.symm, (hgi j (by omega)).mp hj, Int32.not_le.mp z⟩, x3⟩
  rw [e]
  constructor
  · rintro (h | h)
    · exact absurd h hnn
    · exact Int32.not_lt.mpr h
  · intro h; exact .inr (Int32.not_lt.mp h)
theorem v_spread (hX : CX D nA nK nw q k fb ns pf l kn t R I) (hS : SDp D nA t q pf l I i) {a w : Nat} (ha : a < nA) (hi : i ≤ nA) (hgi : ∀ j, j < nA → (j < i ↔ D 8 (bt D nA j) ≤ D 8 a)) (hw : vl D q a = nI w) (hw2 : w < 31) (hp : post (bI (SP D nA t q l a)) (cp nA nK R I J)) : wX6_isSpread post (some 7) (D 8 a) (nI w) (cp nA nK R I J) := by
  obtain ⟨hW, hQ, hk, hAC, hBT, hl, hQC, h710, h713, hkn0, hknw, h712⟩ := hX
  obtain ⟨q1, q2, q3, q4, q5, q6⟩ := hQC
  unfold wX6_isSpread
  simp (disch := first | decide | omega) only [c_I, c_rc, c_pI, c_pZ, c_aI, c_sI, ca_I, ca_rc, ca_pI, cq_I, cq_rc, cq_pI, cq_R, cq_aR, cs_I, cs_rc, cs_pI, cs_pZ, f0_0, f0_1, f0_2, f0_3, f0_4, f0_5, f0_6, f0_7, f1_0, f3_0, f4_0, f4_1, f7_0, f7_1, f7_2, f7_3, f7_4, f7_5, f7_6, f7_7, f7_8, f7_9, f17_0, f17_1, f17_2, f17_3, f17_4, f17_5, f0_8, f0_8p, f7_10, f7_10p, g9, g9r, g9w, g11, g11r, g11w, g12, g12r, g12w, g13, g13r, g13w, g14, g14r, g14w, g15, g15r, g15w, g25, g25r, g25w, h5, h5w, h5z, h6, h6w, h6z, h8, h8w, h8z, h21, h21w, h21z, h22, h22w, h22z, h23, h23w, fl10, fl16, fl18, fl20, fl24, g11f, g12f, g13f, g14f, g15f, g25f, cN2, cN10, cN16, cN18, cN19, cN20, cN24, z01, z11, ix1, ix2, nI_add, nI_clamp, vin, true_and, and_true, or_true, true_or, h710, q4]
  refine brc (fun h => ?_) fun h => ?_
  · rw [bI_t (show SP D nA t q l a from .inl h)] at hp
    exact hp
  · obtain ⟨e5, e6⟩ := q5 h
    have hso := spread_ok hW hQ hS ha hi hgi hw hw2 h
    have key : ∀ k' m, 31 = m + k' → wX6_isSpread_18 post (k' + 1) (some 7) (D 8 a) (nI w) (nI (cnt (fun u => ¬ I (56 + w) u ≤ D 8 a - D 21 q) m)) (nI m) (cp nA nK R I J) := by
      intro k'
      induction k' with
      | zero =>
        intro m hm
        have e : m = 31 := by omega
        subst e
        unfold wX6_isSpread_18
        simp (disch := first | decide | omega) only [brt (show (31 : Int32) ≤ nI 31 by decide), c_I, c_rc, c_pI, c_pZ, c_aI, c_sI, ca_I, ca_rc, ca_pI, cq_I, cq_rc, cq_pI, cq_R, cq_aR, cs_I, cs_rc, cs_pI, cs_pZ, f0_0, f0_1, f0_2, f0_3, f0_4, f0_5, f0_6, f0_7, f1_0, f3_0, f4_0, f4_1, f7_0, f7_1, f7_2, f7_3, f7_4, f7_5, f7_6, f7_7, f7_8, f7_9, f17_0, f17_1, f17_2, f17_3, f17_4, f17_5, f0_8, f0_8p, f7_10, f7_10p, g9, g9r, g9w, g11, g11r, g11w, g12, g12r, g12w, g13, g13r, g13w, g14, g14r, g14w, g15, g15r, g15w, g25, g25r, g25w, h5, h5w, h5z, h6, h6w, h6z, h8, h8w, h8z, h21, h21w, h21z, h22, h22w, h22z, h23, h23w, fl10, fl16, fl18, fl20, fl24, g11f, g12f, g13f, g14f, g15f, g25f, cN2, cN10, cN16, cN18, cN19, cN20, cN24, z01, z11, ix1, ix2, nI_add, nI_clamp, vin, true_and, and_true, or_true, true_or, h710, e5]
        refine brc (fun g => ?_) fun g => ?_
        · rw [bI_f (fun z => hso.mp z g)] at hp; exact hp
        · rw [bI_t (hso.mpr g)] at hp; exact hp
      | succ k' ih =>
        intro m hm
        unfold wX6_isSpread_18 wX6_isSpread_49
        have h31 : ¬ (31 : Int32) ≤ nI m := by rw [show (31 : Int32) = nI 31 from rfl, ile (by decide) (by omega)]; omega
        simp (disch := first | decide | omega) only [brf h31, c_I, c_rc, c_pI, c_pZ, c_aI, c_sI, ca_I, ca_rc, ca_pI, cq_I, cq_rc, cq_pI, cq_R, cq_aR, cs_I, cs_rc, cs_pI, cs_pZ, f0_0, f0_1, f0_2, f0_3, f0_4, f0_5, f0_6, f0_7, f1_0, f3_0, f4_0, f4_1, f7_0, f7_1, f7_2, f7_3, f7_4, f7_5, f7_6, f7_7, f7_8, f7_9, f17_0, f17_1, f17_2, f17_3, f17_4, f17_5, f0_8, f0_8p, f7_10, f7_10p, g9, g9r, g9w, g11, g11r, g11w, g12, g12r, g12w, g13, g13r, g13w, g14, g14r, g14w, g15, g15r, g15w, g25, g25r, g25w, h5, h5w, h5z, h6, h6w, h6z, h8, h8w, h8z, h21, h21w, h21z, h22, h22w, h22z, h23, h23w, fl10, fl16, fl18, fl20, fl24, g11f, g12f, g13f, g14f, g15f, g25f, cN2, cN10, cN16, cN18, cN19, cN20, cN24, z01, z11, ix1, ix2, nI_add, nI_clamp, vin, true_and, and_true, or_true, true_or, h710, e6]
        refine brc (fun g => ?_) fun g => ?_
        · have := ih (m + 1) (by omega)
          rw [cnt_f (fun z => z g)] at this
          exact this
        · have := ih (m + 1) (by omega)
          rw [cnt_t (p := fun u => ¬ I (56 + w) u ≤ D 8 a - D 21 q) g] at this
          exact this
    exact ⟨_, key 31 0 (by omega)⟩
theorem v_settle (hgi : ∀ j', j' < nA → ∀ j, st ≤ j → j < i → (j' < i ↔ D 8 (bt D nA j') ≤ D 8 (bt D nA j))) (hi : i ≤ nA) {R0 : RMem} {I0 : Mem} (hp : ∀ R' I', FRM R0 I0 R' I' → PS D nA t q ns pf l R' I' i i → pst (cp nA nK R' I' J)) :
    ∀ k' j R I, i = j + k' → st ≤ j → CX D nA nK nw q k fb ns pf l kn t R I → FRM R0 I0 R I → PS D nA t q ns pf l R I j i → wX6_settle_2 pst (k' + 1) (some 7) (nI i) (nI j) (cp nA nK R I J) := by
  intro k'
  induction k' with
  | zero =>
    intro j R I hj hs hX hF hP
    have hA := hX.1.1
    have e : i = j := by omega
    subst e
    unfold wX6_settle_2
    simp (disch := first | decide | omega) only [ile, brt (show i ≤ i by omega)]
    exact hp R I hF hP
  | succ k' ih =>
    intro j R I hj hs hX hF hP
    have hX0 := hX
    obtain ⟨hW, hQ, hk, hAC, hBT, hl, hQC, h710, h713, hkn0, hknw, h712⟩ := hX
    have hA := hW.1
    have hns : ns ≤ 6 := hQ.1.2.2.2.1
    have hfb : fb < 3 := hQ.1.2.1
    have hjA : j < nA := by omega
    have hb := bt_lt (D := D) hjA
    obtain ⟨_, a0, a1, a2, a5, a6, a7, a8⟩ := hAC (bt D nA j) hb
    have hby : D 12 q = nI fb := hQ.1.2.2.1
    have hvb := a2 fb hfb
    have hv2 := ((hW.2.2 (bt D nA j) hb).2.2.2.2.1 fb hfb)
    have hvl := vl_nI hW hQ hb
    have hbt := hBT j hjA
    rw [show (byT D nA).getD j 0 = bt D nA j from rfl] at hbt
    unfold wX6_settle_2 wX6_settle_42
    simp (disch := first | decide | omega) only [ile, brf (show ¬ i ≤ j by omega), c_I, c_rc, c_pI, c_pZ, c_aI, c_sI, ca_I, ca_rc, ca_pI, cq_I, cq_rc, cq_pI, cq_R, cq_aR, cs_I, cs_rc, cs_pI, cs_pZ, f0_0, f0_1, f0_2, f0_3, f0_4, f0_5, f0_6, f0_7, f1_0, f3_0, f4_0, f4_1, f7_0, f7_1, f7_2, f7_3, f7_4, f7_5, f7_6, f7_7, f7_8, f7_9, f17_0, f17_1, f17_2, f17_3, f17_4, f17_5, f0_8, f0_8p, f7_10, f7_10p, g9, g9r, g9w, g11, g11r, g11w, g12, g12r, g12w, g13, g13r, g13w, g14, g14r, g14w, g15, g15r, g15w, g25, g25r, g25w, h5, h5w, h5z, h6, h6w, h6z, h8, h8w, h8z, h21, h21w, h21z, h22, h22w, h22z, h23, h23w, fl10, fl16, fl18, fl20, fl24, g11f, g12f, g13f, g14f, g15f, g25f, cN2, cN10, cN16, cN18, cN19, cN20, cN24, z01, z11, ix1, ix2, nI_add, nI_clamp, vin, true_and, and_true, or_true, true_or, hbt, a0, h713]
    refine brc (fun h => ?_) fun h => ?_
    · have hu : ¬ D 9 (bt D nA j) ≤ t := fun z => by have := (hknw _ hb).mpr z; omega
      exact ih (j + 1) R I (by omega) (by omega) hX0 hF (PS_unk2 hP hjA hu)
    · have hkn := (hknw _ hb).mp (by omega)
      obtain ⟨g1, g2, g3, g4, g5, g6, g7, g8⟩ := hP
      unfold wX6_settleSteps
      simp (disch := first | decide | omega) only [c_I, c_rc, c_pI, c_pZ, c_aI, c_sI, ca_I, ca_rc, ca_pI, cq_I, cq_rc, cq_pI, cq_R, cq_aR, cs_I, cs_rc, cs_pI, cs_pZ, f0_0, f0_1, f0_2, f0_3, f0_4, f0_5, f0_6, f0_7, f1_0, f3_0, f4_0, f4_1, f7_0, f7_1, f7_2, f7_3, f7_4, f7_5, f7_6, f7_7, f7_8, f7_9, f17_0, f17_1, f17_2, f17_3, f17_4, f17_5, f0_8, f0_8p, f7_10, f7_10p, g9, g9r, g9w, g11, g11r, g11w, g12, g12r, g12w, g13, g13r, g13w, g14, g14r, g14w, g15, g15r, g15w, g25, g25r, g25w, h5, h5w, h5z, h6, h6w, h6z, h8, h8w, h8z, h21, h21w, h21z, h22, h22w, h22z, h23, h23w, fl10, fl16, fl18, fl20, fl24, g11f, g12f, g13f, g14f, g15f, g25f, cN2, cN10, cN16, cN18, cN19, cN20, cN24, z01, z11, ix1, ix2, nI_add, nI_clamp, vin, true_and, and_true, or_true, true_or, h710, hQC.2.2.1, hby, v_valueIn, hvb, hv2.1]
      refine ⟨_, v_ss14 (show j < i by omega) hi hkn hvl.1 hvl.2 (R0 := R) (I0 := I) (fun I' b1 b2 b3 b4 b5 => ?_) ns 0 I (by omega) hX0 FRM_rfl ⟨g1, g2, g3, g4, g7⟩ (fun s' h1 h2 => ?_) (fun r v hr hv => ?_) rfl⟩
      · -- settleEnd
        have hX1 := CX_frm hX0 b1
        have hX2 := hX1
        obtain ⟨_, _, _, hAC', _, _, hQC', h710', _, _, _, _⟩ := hX1
        obtain ⟨_, a0', a1', a2', a5', _⟩ := hAC' (bt D nA j) hb
        have hvb' := a2' fb hfb
        have hlast := rk_s hQ.2.1
        have hl0 := (bfr_lt hQ.2.1)
        have hrl := rk_le (D := D) (q := q) l
        have hEF : EF D nA t q l (j + 1) = EF D nA t q l j ++ @ite _ (ES D nA t q l (bt D nA j)) (Classical.propDecidable _) [bt D nA j] [] := flt_take hjA
        have hlen : (EF D nA t q l j).length ≤ j := by
          unfold EF
          refine Nat.le_trans flt_len ?_
          rw [List.length_take]
          omega
        have hnd : NDs (EF D nA t q l j) R I' := ⟨by rw [b5]; exact g8.1, g8.2⟩
        have hskip : ¬ ES D nA t q l (bt D nA j) → wX6_settle_2 pst (k' + 1) (some 7) (nI i) (nI (j + 1)) (cp nA nK R I' J) := fun z => by
          refine ih (j + 1) R I' (by omega) (by omega) hX2 (FRM_trans hF b1) ⟨b2.1, b2.2.1, b2.2.2.1, b2.2.2.2.1, b3, b4, b2.2.2.2.2, ?_⟩
          rw [hEF, if_neg z, List.append_nil]
          exact hnd
        have e1 : nI (rk D q ns) - 1 = nI (rk D q l) := by rw [hlast, ixs _ (by omega), Nat.add_sub_cancel]
        have hbv := b2.2.2.1 l (by omega) hl0.2 j (by show j < i; omega) hkn
        unfold wX6_settleEnd wX6_settleEnd_34 wX6_settleEnd_35
        simp (disch := first | decide | omega) only [c_I, c_rc, c_pI, c_pZ, c_aI, c_sI, ca_I, ca_rc, ca_pI, cq_I, cq_rc, cq_pI, cq_R, cq_aR, cs_I, cs_rc, cs_pI, cs_pZ, f0_0, f0_1, f0_2, f0_3, f0_4, f0_5, f0_6, f0_7, f1_0, f3_0, f4_0, f4_1, f7_0, f7_1, f7_2, f7_3, f7_4, f7_5, f7_6, f7_7, f7_8, f7_9, f17_0, f17_1, f17_2, f17_3, f17_4, f17_5, f0_8, f0_8p, f7_10, f7_10p, g9, g9r, g9w, g11, g11r, g11w, g12, g12r, g12w, g13, g13r, g13w, g14, g14r, g14w, g15, g15r, g15w, g25, g25r, g25w, h5, h5w, h5z, h6, h6w, h6z, h8, h8w, h8z, h21, h21w, h21z, h22, h22w, h22z, h23, h23w, fl10, fl16, fl18, fl20, fl24, g11f, g12f, g13f, g14f, g15f, g25f, cN2, cN10, cN16, cN18, cN19, cN20, cN24, z01, z11, ix1, ix2, nI_add, nI_clamp, vin, true_and, and_true, or_true, true_or, h710', hQC'.2.1, e1, llt0, brF, a0', a5', BV_2 hA hbv, c00, c10, brT]
        refine brc (fun hE => hskip fun z => hE z.1) fun hE => ?_
        have hE := Classical.not_not.mp hE
        simp (disch := first | decide | omega) only [c_I, c_rc, c_pI, c_pZ, c_aI, c_sI, ca_I, ca_rc, ca_pI, cq_I, cq_rc, cq_pI, cq_R, cq_aR, cs_I, cs_rc, cs_pI, cs_pZ, f0_0, f0_1, f0_2, f0_3, f0_4, f0_5, f0_6, f0_7, f1_0, f3_0, f4_0, f4_1, f7_0, f7_1, f7_2, f7_3, f7_4, f7_5, f7_6, f7_7, f7_8, f7_9, f17_0, f17_1, f17_2, f17_3, f17_4, f17_5, f0_8, f0_8p, f7_10, f7_10p, g9, g9r, g9w, g11, g11r, g11w, g12, g12r, g12w, g13, g13r, g13w, g14, g14r, g14w, g15, g15r, g15w, g25, g25r, g25w, h5, h5w, h5z, h6, h6w, h6z, h8, h8w, h8z, h21, h21w, h21z, h22, h22w, h22z, h23, h23w, fl10, fl16, fl18, fl20, fl24, g11f, g12f, g13f, g14f, g15f, g25f, cN2, cN10, cN16, cN18, cN19, cN20, cN24, z01, z11, ix1, ix2, nI_add, nI_clamp, vin, true_and, and_true, or_true, true_or, h710', hQC'.2.2.1, hby, v_valueIn, hvb', hv2.1]
        refine v_spread hX2 b2.2.2.2.1 hb hi (fun j' hj' => hgi j' hj' j hs (by omega)) hvl.1 hvl.2 ?_
        rw [bI_br]
        refine brc (fun hS => ?_) fun hS => hskip fun z => hS z.2
        have e15 : I' 7 15 = nI (EF D nA t q l j).length := hnd.1
        have h250 : ¬ (250 : Int32) ≤ nI (EF D nA t q l j).length := by rw [show (250 : Int32) = nI 250 from rfl, ile (by decide) (by omega)]; omega
        simp (disch := first | decide | omega) only [c_I, c_rc, c_pI, c_pZ, c_aI, c_sI, ca_I, ca_rc, ca_pI, cq_I, cq_rc, cq_pI, cq_R, cq_aR, cs_I, cs_rc, cs_pI, cs_pZ, f0_0, f0_1, f0_2, f0_3, f0_4, f0_5, f0_6, f0_7, f1_0, f3_0, f4_0, f4_1, f7_0, f7_1, f7_2, f7_3, f7_4, f7_5, f7_6, f7_7, f7_8, f7_9, f17_0, f17_1, f17_2, f17_3, f17_4, f17_5, f0_8, f0_8p, f7_10, f7_10p, g9, g9r, g9w, g11, g11r, g11w, g12, g12r, g12w, g13, g13r, g13w, g14, g14r, g14w, g15, g15r, g15w, g25, g25r, g25w, h5, h5w, h5z, h6, h6w, h6z, h8, h8w, h8z, h21, h21w, h21z, h22, h22w, h22z, h23, h23w, fl10, fl16, fl18, fl20, fl24, g11f, g12f, g13f, g14f, g15f, g25f, cN2, cN10, cN16, cN18, cN19, cN20, cN24, z01, z11, ix1, ix2, nI_add, nI_clamp, vin, true_and, and_true, or_true, true_or, e15, brf h250]
        refine ih (j + 1) _ _ (by omega) (by omega) (CX_frm hX2 (FRM_15 (FRM_8 FRM_rfl))) (FRM_15 (FRM_8 (FRM_trans hF b1))) ?_
        have hrow : ∀ c, c ≠ 7 → p2 I' 7 15 (nI ((EF D nA t q l j).length + 1)) c = I' c := fun c hc => p2_ne hc
        refine ⟨fun s' h1 h2 => ?_, fun f h1 => ?_, fun s' h1 h2 => ?_, fun h1 v w h2 h3 => ?_, fun s' h1 h2 v hv => ?_, fun r v h1 h2 => ?_, fun r v h1 h2 => ?_, ?_⟩
        · rw [hrow _ (by omega)]; exact b2.1 s' h1 h2
        · rw [hrow _ (by omega)]; exact b2.2.1 f h1
        · rw [hrow _ (by omega)]; exact b2.2.2.1 s' h1 h2
        · rw [hrow _ (by omega)]; exact b2.2.2.2.1 h1 v w h2 h3
        · rw [hrow _ (by omega), hrow _ (by omega)]; exact b3 s' h1 h2 v hv
        · rw [hrow _ (by omega)]; exact b4 r v h1 h2
        · rw [hrow _ (by omega)]; exact b2.2.2.2.2 r v h1 h2
        · rw [hEF, if_pos ⟨hE, hS⟩]
          refine ⟨by rw [p2_same, List.length_append]; rfl, fun m hm => ?_⟩
          rw [List.length_append] at hm
          by_cases e : m = (EF D nA t q l j).length
          · rw [e, p2_same, getD_last]
          · have hm2 : m < (EF D nA t q l j).length := by
              have : [bt D nA j].length = 1 := rfl
              omega
            rw [p2_row e, getD_app hm2]
            exact hnd.2 m hm2
      · unfold up; rw [if_neg (by omega)]; exact g5 s' h1 h2
      · rw [if_neg]
        · exact g6 r v hr hv
        · rintro ⟨⟨n, h1, _⟩, _⟩; omega
end
