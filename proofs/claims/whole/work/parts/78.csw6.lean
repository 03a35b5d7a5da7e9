section
variable {D : Mem} {nA nK nw q k fb ns pf l kn st i j s p x n u y m : Nat} {t v : Int32} {R : RMem} {I : Mem} {J : Nat → Nat → Int64} {post : Int32 → Pool → Prop} {pst : Pool → Prop}
/-- the first from n on that has P -/
noncomputable def nxB (B : Nat → Nat) (P : Nat → Prop) (N : Nat) : Nat → Option Nat
  | 0 => none
  | d + 1 => @ite _ (P (B (N - (d + 1)))) (Classical.propDecidable _) (some (B (N - (d + 1)))) (nxB B P N d)
theorem nxB_some {B : Nat → Nat} {P : Nat → Prop} {N : Nat} : ∀ {d : Nat}, d ≤ N → nxB B P N d = some x → ∃ j, N - d ≤ j ∧ j < N ∧ x = B j ∧ P x ∧ ∀ i, N - d ≤ i → i < j → ¬ P (B i) := by
  intro d
  induction d with
  | zero => intro _ h; unfold nxB at h; cases h
  | succ d ih =>
    intro hd h
    unfold nxB at h
    by_cases e : P (B (N - (d + 1)))
    · rw [if_pos e] at h
      cases h
      exact ⟨N - (d + 1), Nat.le_refl _, by omega, rfl, e, fun i h1 h2 => by omega⟩
    · rw [if_neg e] at h
      obtain ⟨j, h1, h2, h3, h4, h5⟩ := ih (by omega) h
      refine ⟨j, by omega, h2, h3, h4, fun i a1 a2 => ?_⟩
      by_cases e2 : i = N - (d + 1)
      · rw [e2]; exact e
      · exact h5 i (by omega) a2
theorem nxB_none {B : Nat → Nat} {P : Nat → Prop} {N : Nat} : ∀ {d : Nat}, d ≤ N → nxB B P N d = none → ∀ j, N - d ≤ j → j < N → ¬ P (B j) := by
  intro d
  induction d with
  | zero => intro _ _ j h1 h2; omega
  | succ d ih =>
    intro hd h j h1 h2
    unfold nxB at h
    by_cases e : P (B (N - (d + 1)))
    · rw [if_pos e] at h; cases h
    · rw [if_neg e] at h
      by_cases e2 : j = N - (d + 1)
      · rw [e2]; exact e
      · exact ih (by omega) h j (by omega) h2
def NXP (D : Mem) (t : Int32) (q s : Nat) (v c : Nat) : Prop := D 9 c ≤ t ∧ FT0 D q s c ∧ vl D q c = nI v
def NXs (D : Mem) (nA : Nat) (t : Int32) (q ns l : Nat) (I : Mem) (n : Nat) : Prop := ∀ s v, l < s → s < ns → v < 31 → I (50 + s) v = otd D 2000000 (nxB (bt D nA) (NXP D t q s v) nA (nA - n))
/-- which steps stand behind the row -/
theorem behind (hl : bfr D q ns = some l) (hs : s < ns) : (¬ D 14 (6 * q + s) = 0 ∧ rk D q s = rk D q ns) ↔ l < s := by
  have h1 := rk_s hl
  have h2 := bfr_lt hl
  constructor
  · rintro ⟨a, b⟩
    apply Decidable.byContradiction
    intro hc
    have := rk_mono (D := D) (q := q) (show s ≤ l by omega)
    omega
  · intro h
    refine ⟨bfr_between hl s h hs, ?_⟩
    have a1 := rk_mono (D := D) (q := q) (show l + 1 ≤ s by omega)
    have a2 := rk_mono (D := D) (q := q) (show s ≤ ns by omega)
    rw [rk_t h2.2] at a1
    omega
theorem v_behind (hX : CX D nA nK nw q k fb ns pf l kn t R I) (hs : s < ns) : wX6_isBehindRow post (some 7) (some (2000 + 8 * k + 2 + s)) (cp nA nK R I J) = post (bI (l < s)) (cp nA nK R I J) := by
  obtain ⟨hW, hQ, hk, hAC, hBT, hl, hQC, h710, h713, hkn0, hknw, h712⟩ := hX
  have hns : ns ≤ 6 := hQ.1.2.2.2.1
  obtain ⟨c0, c1, c4, c5, c6, c7⟩ := hQC.2.2.2.2.2 s hs
  have hb := behind hQ.2.1 hs
  have h1 := rk_le (D := D) (q := q) s
  have h2 := rk_le (D := D) (q := q) ns
  unfold wX6_isBehindRow
  simp (disch := first | decide | omega) only [brT, brF, c_I, c_rc, c_pI, c_pZ, c_aI, c_sI, ca_I, ca_rc, ca_pI, cq_I, cq_rc, cq_pI, cq_R, cq_aR, cs_I, cs_rc, cs_pI, cs_pZ, f0_0, f0_1, f0_2, f0_3, f0_4, f0_5, f0_6, f0_7, f1_0, f3_0, f4_0, f4_1, f7_0, f7_1, f7_2, f7_3, f7_4, f7_5, f7_6, f7_7, f7_8, f7_9, f17_0, f17_1, f17_2, f17_3, f17_4, f17_5, f0_8, f0_8p, f7_10, f7_10p, g9, g9r, g9w, g11, g11r, g11w, g12, g12r, g12w, g13, g13r, g13w, g14, g14r, g14w, g15, g15r, g15w, g25, g25r, g25w, h5, h5w, h5z, h6, h6w, h6z, h8, h8w, h8z, h21, h21w, h21z, h22, h22w, h22z, h23, h23w, fl10, fl16, fl18, fl20, fl24, g11f, g12f, g13f, g14f, g15f, g25f, cN2, cN10, cN16, cN18, cN19, cN20, cN24, z01, z11, ix1, ix2, nI_add, nI_clamp, vin, true_and, and_true, or_true, true_or, h710, c4, c7, hQC.2.1, ieq, br_if]
  by_cases e : D 14 (6 * q + s) = 0
  · rw [if_pos e, bI_f (fun z => (hb.mpr z).1 e)]
  · rw [if_neg e]
    by_cases e2 : rk D q s = rk D q ns
    · rw [if_pos e2, bI_t (hb.mp ⟨e, e2⟩)]
    · rw [if_neg e2, bI_f (fun z => e2 (hb.mpr z).2)]
theorem until_ok {a : Nat} (hW : WA D nA nw) (hQ : QV D nA q fb ns pf l) (ha : a < nA) (hl : l < s) (hs : s < ns) : ∃ w, D 18 (6 * q + s) = nI w ∧ w ≤ 100000 ∧ (D 8 a + D 18 (6 * q + s)).toInt = (D 8 a).toInt + (D 18 (6 * q + s)).toInt ∧ (D 18 (6 * q + s)).toInt = w := by
  obtain ⟨w, h1, h2⟩ := (hQ.2.2.2.1 s hs).2.2.resolve_left (hQ.2.2.2.2.1 s hl hs)
  have htk := tk_toInt hW ha
  refine ⟨w, h1, h2, ?_, by rw [h1, nI_toInt (by omega)]⟩
  rw [h1, i32add (by rw [nI_toInt (by omega)]; omega) (by rw [nI_toInt (by omega)]; omega)]
theorem v_undist (hX : CX D nA nK nw q k fb ns pf l kn t R I) (hN : NXs D nA t q ns l I n) (hn : n ≤ nA) {a : Nat} (ha : a < nA) (hgt : ∀ j, j < nA → (n ≤ j ↔ D 8 a < D 8 (bt D nA j))) (hp : post (bI (QB D nA t q l a)) (cp nA nK R I J)) : wX6_isUndisturbed post (some 7) (some (1000 + a)) (cp nA nK R I J) := by
  have hX0 := hX
  obtain ⟨hW, hQ, hk, hAC, hBT, hl, hQC, h710, h713, hkn0, hknw, h712⟩ := hX
  have hA := hW.1
  have hns : ns ≤ 6 := hQ.1.2.2.2.1
  have hfb : fb < 3 := hQ.1.2.1
  obtain ⟨_, a0, a1, a2, a5, a6, a7, a8⟩ := hAC a ha
  have hby : D 12 q = nI fb := hQ.1.2.2.1
  have hvb := a2 fb hfb
  have hv2 := ((hW.2.2 a ha).2.2.2.2.1 fb hfb)
  have hvl := vl_nI hW hQ ha
  have hnc : (D 13 q).toNatClampNeg = ns := by rw [hQ.1.2.2.2.2.1, nI_clamp (by omega)]
  have htk := tk_toInt hW ha
  -- one step
  have step : ∀ s, l < s → s < ns → (((D 8 a).toInt + (D 18 (6 * q + s)).toInt ≤ t.toInt ∧ ∀ c, c < nA → ¬ (FT D nA t q s c ∧ vl D q c = vl D q a ∧ D 8 a < D 8 c ∧ (D 8 c).toInt ≤ (D 8 a).toInt + (D 18 (6 * q + s)).toInt)) ↔ ¬ t < D 8 a + D 18 (6 * q + s) ∧ D 8 a + D 18 (6 * q + s) < I (50 + s) (vv D a fb)) := by
    intro s h1 h2
    obtain ⟨w, w1, w2, w3, w4⟩ := until_ok hW hQ ha h1 h2
    rw [Int32.lt_iff_toInt_lt, Int32.lt_iff_toInt_lt, w3, w4, hN s (vv D a fb) h1 h2 hvl.2]
    have hnn := bfr_between hQ.2.1 s h1 h2
    constructor
    · rintro ⟨b1, b2⟩
      refine ⟨by omega, ?_⟩
      cases hx : nxB (bt D nA) (NXP D t q s (vv D a fb)) nA (nA - n) with
      | none =>
        show _ < (2000000 : Int32).toInt
        have : (2000000 : Int32).toInt = 2000000 := by decide
        omega
      | some x =>
        obtain ⟨j, j1, j2, rfl, j4, j5⟩ := nxB_some (by omega) hx
        show _ < (D 8 (bt D nA j)).toInt
        apply Decidable.byContradiction
        intro hc
        refine b2 (bt D nA j) (bt_lt j2) ⟨(QV_FT (nw := nw) hQ h2 hnn).mpr ⟨j4.1, j4.2.1⟩, j4.2.2.trans hvl.1.symm, (hgt j j2).mp (by omega), by omega⟩
    · rintro ⟨b1, b2⟩
      refine ⟨by omega, fun c hc ⟨c1, c2, c3, c4⟩ => ?_⟩
      obtain ⟨jc, hjc, rfl⟩ := bt_at (D := D) hc
      have c1' := (QV_FT (nw := nw) hQ h2 hnn).mp c1
      have hjn := (hgt jc hjc).mpr c3
      cases hx : nxB (bt D nA) (NXP D t q s (vv D a fb)) nA (nA - n) with
      | none => exact nxB_none (by omega) hx jc (by omega) hjc ⟨c1'.1, c1'.2, c2.trans hvl.1⟩
      | some x =>
        rw [hx] at b2
        obtain ⟨j, j1, j2, rfl, j4, j5⟩ := nxB_some (by omega) hx
        have b2 : (D 8 a).toInt + (w : Int) < (D 8 (bt D nA j)).toInt := b2
        have h4 : j ≤ jc := by
          apply Decidable.byContradiction
          intro hcn
          exact j5 jc (by omega) (by omega) ⟨c1'.1, c1'.2, c2.trans hvl.1⟩
        have h5 := bt_le (D := D) h4 hjc
        rw [Int32.le_iff_toInt_le] at h5
        omega
  have hQB : QB D nA t q l a ↔ ∀ s, l < s → s < ns → ¬ t < D 8 a + D 18 (6 * q + s) ∧ D 8 a + D 18 (6 * q + s) < I (50 + s) (vv D a fb) := by
    unfold QB
    rw [hnc]
    exact ⟨fun h s h1 h2 => (step s h1 h2).mp (h s h1 h2), fun h s h1 h2 => (step s h1 h2).mpr (h s h1 h2)⟩
  have key : ∀ k' s, ns = s + k' → (∀ s', l < s' → s' < s → ¬ t < D 8 a + D 18 (6 * q + s') ∧ D 8 a + D 18 (6 * q + s') < I (50 + s') (vv D a fb)) → wX6_isUndisturbed_14 post (k' + 1) (some 7) (some (1000 + a)) (nI (vv D a fb)) (nI s) (cp nA nK R I J) := by
    intro k'
    induction k' with
    | zero =>
      intro s hs h
      unfold wX6_isUndisturbed_14
      simp (disch := first | decide | omega) only [brT, brF, c_I, c_rc, c_pI, c_pZ, c_aI, c_sI, ca_I, ca_rc, ca_pI, cq_I, cq_rc, cq_pI, cq_R, cq_aR, cs_I, cs_rc, cs_pI, cs_pZ, f0_0, f0_1, f0_2, f0_3, f0_4, f0_5, f0_6, f0_7, f1_0, f3_0, f4_0, f4_1, f7_0, f7_1, f7_2, f7_3, f7_4, f7_5, f7_6, f7_7, f7_8, f7_9, f17_0, f17_1, f17_2, f17_3, f17_4, f17_5, f0_8, f0_8p, f7_10, f7_10p, g9, g9r, g9w, g11, g11r, g11w, g12, g12r, g12w, g13, g13r, g13w, g14, g14r, g14w, g15, g15r, g15w, g25, g25r, g25w, h5, h5w, h5z, h6, h6w, h6z, h8, h8w, h8z, h21, h21w, h21z, h22, h22w, h22z, h23, h23w, fl10, fl16, fl18, fl20, fl24, g11f, g12f, g13f, g14f, g15f, g25f, cN2, cN10, cN16, cN18, cN19, cN20, cN24, z01, z11, ix1, ix2, nI_add, nI_clamp, vin, true_and, and_true, or_true, true_or, h710, hQC.1, ile, brt (show ns ≤ s by omega)]
      rw [bI_t (hQB.mpr fun s' h1 h2 => h s' h1 (by omega))] at hp
      exact hp
    | succ k' ih =>
      intro s hs h
      have hsn : s < ns := by omega
      have hvv := hvl.2
      obtain ⟨c0, c1, c4, c5, c6, c7⟩ := hQC.2.2.2.2.2 s hsn
      unfold wX6_isUndisturbed_14 wX6_isUndisturbed_81
      simp (disch := first | decide | omega) only [brT, brF, c_I, c_rc, c_pI, c_pZ, c_aI, c_sI, ca_I, ca_rc, ca_pI, cq_I, cq_rc, cq_pI, cq_R, cq_aR, cs_I, cs_rc, cs_pI, cs_pZ, f0_0, f0_1, f0_2, f0_3, f0_4, f0_5, f0_6, f0_7, f1_0, f3_0, f4_0, f4_1, f7_0, f7_1, f7_2, f7_3, f7_4, f7_5, f7_6, f7_7, f7_8, f7_9, f17_0, f17_1, f17_2, f17_3, f17_4, f17_5, f0_8, f0_8p, f7_10, f7_10p, g9, g9r, g9w, g11, g11r, g11w, g12, g12r, g12w, g13, g13r, g13w, g14, g14r, g14w, g15, g15r, g15w, g25, g25r, g25w, h5, h5w, h5z, h6, h6w, h6z, h8, h8w, h8z, h21, h21w, h21z, h22, h22w, h22z, h23, h23w, fl10, fl16, fl18, fl20, fl24, g11f, g12f, g13f, g14f, g15f, g25f, cN2, cN10, cN16, cN18, cN19, cN20, cN24, z01, z11, ix1, ix2, nI_add, nI_clamp, vin, true_and, and_true, or_true, true_or, h710, hQC.1, ile, brf (show ¬ ns ≤ s by omega), c6, a5]
      rw [v_behind hX0 hsn, bI_br]
      have hbad : ∀ P : Prop, l < s → (¬ (¬ t < D 8 a + D 18 (6 * q + s) ∧ D 8 a + D 18 (6 * q + s) < I (50 + s) (vv D a fb))) → post 0 (cp nA nK R I J) := fun _ h1 h2 => by
        rw [bI_f (fun z => h2 (hQB.mp z s h1 hsn))] at hp; exact hp
      have hnext : (l < s → ¬ t < D 8 a + D 18 (6 * q + s) ∧ D 8 a + D 18 (6 * q + s) < I (50 + s) (vv D a fb)) → wX6_isUndisturbed_14 post (k' + 1) (some 7) (some (1000 + a)) (nI (vv D a fb)) (nI (s + 1)) (cp nA nK R I J) := fun h2 => ih (s + 1) (by omega) fun s' h1 h3 => by
        by_cases e : s' = s
        · subst e; exact h2 h1
        · exact h s' h1 (by omega)
      simp (disch := first | decide | omega) only [brT, brF, c_I, c_rc, c_pI, c_pZ, c_aI, c_sI, ca_I, ca_rc, ca_pI, cq_I, cq_rc, cq_pI, cq_R, cq_aR, cs_I, cs_rc, cs_pI, cs_pZ, f0_0, f0_1, f0_2, f0_3, f0_4, f0_5, f0_6, f0_7, f1_0, f3_0, f4_0, f4_1, f7_0, f7_1, f7_2, f7_3, f7_4, f7_5, f7_6, f7_7, f7_8, f7_9, f17_0, f17_1, f17_2, f17_3, f17_4, f17_5, f0_8, f0_8p, f7_10, f7_10p, g9, g9r, g9w, g11, g11r, g11w, g12, g12r, g12w, g13, g13r, g13w, g14, g14r, g14w, g15, g15r, g15w, g25, g25r, g25w, h5, h5w, h5z, h6, h6w, h6z, h8, h8w, h8z, h21, h21w, h21z, h22, h22w, h22z, h23, h23w, fl10, fl16, fl18, fl20, fl24, g11f, g12f, g13f, g14f, g15f, g25f, cN2, cN10, cN16, cN18, cN19, cN20, cN24, z01, z11, ix1, ix2, nI_add, nI_clamp, vin, true_and, and_true, or_true, true_or, h712]
      refine brc (fun hb => brc (fun g1 => ?_) fun g1 => brc (fun g2 => ?_) fun g2 => ?_) fun hb => ?_
      · exact hbad True hb fun z => z.1 g1
      · exact hnext fun _ => ⟨g1, g2⟩
      · exact hbad True hb fun z => g2 z.2
      · exact hnext fun z => absurd z hb
  unfold wX6_isUndisturbed
  simp (disch := first | decide | omega) only [brT, brF, c_I, c_rc, c_pI, c_pZ, c_aI, c_sI, ca_I, ca_rc, ca_pI, cq_I, cq_rc, cq_pI, cq_R, cq_aR, cs_I, cs_rc, cs_pI, cs_pZ, f0_0, f0_1, f0_2, f0_3, f0_4, f0_5, f0_6, f0_7, f1_0, f3_0, f4_0, f4_1, f7_0, f7_1, f7_2, f7_3, f7_4, f7_5, f7_6, f7_7, f7_8, f7_9, f17_0, f17_1, f17_2, f17_3, f17_4, f17_5, f0_8, f0_8p, f7_10, f7_10p, g9, g9r, g9w, g11, g11r, g11w, g12, g12r, g12w, g13, g13r, g13w, g14, g14r, g14w, g15, g15r, g15w, g25, g25r, g25w, h5, h5w, h5z, h6, h6w, h6z, h8, h8w, h8z, h21, h21w, h21z, h22, h22w, h22z, h23, h23w, fl10, fl16, fl18, fl20, fl24, g11f, g12f, g13f, g14f, g15f, g25f, cN2, cN10, cN16, cN18, cN19, cN20, cN24, z01, z11, ix1, ix2, nI_add, nI_clamp, vin, true_and, and_true, or_true, true_or, h710, hQC.2.2.1, hby, v_valueIn, hvb, hv2.1]
  exact ⟨_, key ns 0 (by omega) fun s' _ h => by omega⟩
theorem v_noteNot (hn : n < nA) (hkn : D 9 (bt D nA n) ≤ t) {R0 : RMem} {I0 : Mem} (hp : ∀ I', FRM R0 I0 R I' → (∀ c, ¬ (50 ≤ c ∧ c < 56) → I' c = I0 c) → NXs D nA t q ns l I' n → pst (cp nA nK R I' J)) (hX0 : CX D nA nK nw q k fb ns pf l kn t R I) (hF0 : FRM R0 I0 R I) (hc0 : ∀ c, ¬ (50 ≤ c ∧ c < 56) → I c = I0 c) (hN : NXs D nA t q ns l I (n + 1)) : wX6_noteNot pst (some 7) (some (1000 + bt D nA n)) (cp nA nK R I J) := by
  have hW := hX0.1
  have hQ := hX0.2.1
  have hb := bt_lt (D := D) hn
  have hvl := vl_nI hW hQ hb
  have hfb : fb < 3 := hQ.1.2.1
  have hns : ns ≤ 6 := hQ.1.2.2.2.1
  have hA := hW.1
  have hnn : nA - n = (nA - (n + 1)) + 1 := by omega
  have key : ∀ k' s I, ns = s + k' → CX D nA nK nw q k fb ns pf l kn t R I → FRM R0 I0 R I → (∀ c, ¬ (50 ≤ c ∧ c < 56) → I c = I0 c) → (∀ s' v, l < s' → s' < ns → v < 31 → I (50 + s') v = otd D 2000000 (nxB (bt D nA) (NXP D t q s' v) nA (if s' < s then nA - n else nA - (n + 1)))) → wX6_noteNot_14 pst (k' + 1) (some 7) (some (1000 + bt D nA n)) (nI (vv D (bt D nA n) fb)) (nI s) (cp nA nK R I J) := by
    intro k'
    induction k' with
    | zero =>
      intro s I hs hX hF hc h
      obtain ⟨_, _, hk, hAC, hBT, hl, hQC, h710, h713, hkn0, hknw, h712⟩ := hX
      unfold wX6_noteNot_14
      simp (disch := first | decide | omega) only [brT, brF, c_I, c_rc, c_pI, c_pZ, c_aI, c_sI, ca_I, ca_rc, ca_pI, cq_I, cq_rc, cq_pI, cq_R, cq_aR, cs_I, cs_rc, cs_pI, cs_pZ, f0_0, f0_1, f0_2, f0_3, f0_4, f0_5, f0_6, f0_7, f1_0, f3_0, f4_0, f4_1, f7_0, f7_1, f7_2, f7_3, f7_4, f7_5, f7_6, f7_7, f7_8, f7_9, f17_0, f17_1, f17_2, f17_3, f17_4, f17_5, f0_8, f0_8p, f7_10, f7_10p, g9, g9r, g9w, g11, g11r, g11w, g12, g12r, g12w, g13, g13r, g13w, g14, g14r, g14w, g15, g15r, g15w, g25, g25r, g25w, h5, h5w, h5z, h6, h6w, h6z, h8, h8w, h8z, h21, h21w, h21z, h22, h22w, h22z, h23, h23w, fl10, fl16, fl18, fl20, fl24, g11f, g12f, g13f, g14f, g15f, g25f, cN2, cN10, cN16, cN18, cN19, cN20, cN24, z01, z11, ix1, ix2, nI_add, nI_clamp, vin, true_and, and_true, or_true, true_or, h710, hQC.1, ile, brt (show ns ≤ s by omega)]
      refine hp I hF hc fun s' v h1 h2 h3 => ?_
      have := h s' v h1 h2 h3
      rw [if_pos (by omega)] at this
      exact this
    | succ k' ih =>
      intro s I hs hX hF hc h
      have hX1 := hX
      obtain ⟨_, _, hk, hAC, hBT, hl, hQC, h710, h713, hkn0, hknw, h712⟩ := hX
      have hsn : s < ns := by omega
      obtain ⟨_, a0, a1, a2, a5, a6, a7, a8⟩ := hAC (bt D nA n) hb
      have hadm := adm_FT0 hAC hQC hb hsn
      have hvv := hvl.2
      unfold wX6_noteNot_14 wX6_noteNot_66
      simp (disch := first | decide | omega) only [brT, brF, c_I, c_rc, c_pI, c_pZ, c_aI, c_sI, ca_I, ca_rc, ca_pI, cq_I, cq_rc, cq_pI, cq_R, cq_aR, cs_I, cs_rc, cs_pI, cs_pZ, f0_0, f0_1, f0_2, f0_3, f0_4, f0_5, f0_6, f0_7, f1_0, f3_0, f4_0, f4_1, f7_0, f7_1, f7_2, f7_3, f7_4, f7_5, f7_6, f7_7, f7_8, f7_9, f17_0, f17_1, f17_2, f17_3, f17_4, f17_5, f0_8, f0_8p, f7_10, f7_10p, g9, g9r, g9w, g11, g11r, g11w, g12, g12r, g12w, g13, g13r, g13w, g14, g14r, g14w, g15, g15r, g15w, g25, g25r, g25w, h5, h5w, h5z, h6, h6w, h6z, h8, h8w, h8z, h21, h21w, h21z, h22, h22w, h22z, h23, h23w, fl10, fl16, fl18, fl20, fl24, g11f, g12f, g13f, g14f, g15f, g25f, cN2, cN10, cN16, cN18, cN19, cN20, cN24, z01, z11, ix1, ix2, nI_add, nI_clamp, vin, true_and, and_true, or_true, true_or, h710, hQC.1, ile, brf (show ¬ ns ≤ s by omega)]
      rw [v_behind hX1 hsn, bI_br]
      -- where nothing is written
      have hskip : (l < s → ¬ FT0 D q s (bt D nA n)) → wX6_noteNot_14 pst (k' + 1) (some 7) (some (1000 + bt D nA n)) (nI (vv D (bt D nA n) fb)) (nI (s + 1)) (cp nA nK R I J) := fun hz => by
        refine ih (s + 1) I (by omega) hX1 hF hc fun s' v h1 h2 h3 => ?_
        have := h s' v h1 h2 h3
        by_cases e : s' = s
        · subst e
          rw [if_neg (by omega)] at this
          rw [if_pos (by omega), this, hnn, nxB, if_neg]
          intro z
          have z2 := z.2.1
          rw [show nA - (nA - (n + 1) + 1) = n by omega] at z2
          exact hz h1 z2
        · by_cases e2 : s' < s
          · rw [if_pos e2] at this; rw [if_pos (by omega)]; exact this
          · rw [if_neg e2] at this; rw [if_neg (by omega)]; exact this
      simp (disch := first | decide | omega) only [brT, brF, c_I, c_rc, c_pI, c_pZ, c_aI, c_sI, ca_I, ca_rc, ca_pI, cq_I, cq_rc, cq_pI, cq_R, cq_aR, cs_I, cs_rc, cs_pI, cs_pZ, f0_0, f0_1, f0_2, f0_3, f0_4, f0_5, f0_6, f0_7, f1_0, f3_0, f4_0, f4_1, f7_0, f7_1, f7_2, f7_3, f7_4, f7_5, f7_6, f7_7, f7_8, f7_9, f17_0, f17_1, f17_2, f17_3, f17_4, f17_5, f0_8, f0_8p, f7_10, f7_10p, g9, g9r, g9w, g11, g11r, g11w, g12, g12r, g12w, g13, g13r, g13w, g14, g14r, g14w, g15, g15r, g15w, g25, g25r, g25w, h5, h5w, h5z, h6, h6w, h6z, h8, h8w, h8z, h21, h21w, h21z, h22, h22w, h22z, h23, h23w, fl10, fl16, fl18, fl20, fl24, g11f, g12f, g13f, g14f, g15f, g25f, cN2, cN10, cN16, cN18, cN19, cN20, cN24, z01, z11, ix1, ix2, nI_add, nI_clamp, vin, true_and, and_true, or_true, true_or, v_admits, hadm, bI_br, a5]
      refine brc (fun hls => brc (fun hft => ?_) fun hft => hskip fun _ => hft) fun hls => hskip fun z => absurd z hls
      have hsw : sw (50 + s) := by unfold sw; omega
      refine ih (s + 1) _ (by omega) (CX_p hX1 hsw) (FRM_p hF hsw) (fun c hc2 => by rw [p2_ne (by omega)]; exact hc c hc2) fun s' v h1 h2 h3 => ?_
      have := h s' v h1 h2 h3
      by_cases e : s' = s
      · subst e
        rw [if_neg (by omega)] at this
        rw [if_pos (by omega), hnn, nxB]
        have en : nA - (nA - (n + 1) + 1) = n := by omega
        by_cases e3 : v = vv D (bt D nA n) fb
        · rw [e3, p2_same, if_pos]
          · rw [en]; rfl
          · rw [en]; exact ⟨hkn, hft, hvl.1⟩
        · rw [p2_row e3, if_neg]
          · exact this
          · rw [en]
            intro z
            have z2 := z.2.2
            rw [hvl.1, ieq (by omega) (by omega)] at z2
            exact e3 z2.symm
      · rw [p2_ne (by omega)]
        by_cases e2 : s' < s
        · rw [if_pos e2] at this; rw [if_pos (by omega)]; exact this
        · rw [if_neg e2] at this; rw [if_neg (by omega)]; exact this
  obtain ⟨_, _, hk, hAC, hBT, hl, hQC, h710, h713, hkn0, hknw, h712⟩ := hX0
  obtain ⟨_, a0, a1, a2, a5, a6, a7, a8⟩ := hAC (bt D nA n) hb
  have hby : D 12 q = nI fb := hQ.1.2.2.1
  have hvb := a2 fb hfb
  have hv2 := ((hW.2.2 (bt D nA n) hb).2.2.2.2.1 fb hfb)
  unfold wX6_noteNot
  simp (disch := first | decide | omega) only [brT, brF, c_I, c_rc, c_pI, c_pZ, c_aI, c_sI, ca_I, ca_rc, ca_pI, cq_I, cq_rc, cq_pI, cq_R, cq_aR, cs_I, cs_rc, cs_pI, cs_pZ, f0_0, f0_1, f0_2, f0_3, f0_4, f0_5, f0_6, f0_7, f1_0, f3_0, f4_0, f4_1, f7_0, f7_1, f7_2, f7_3, f7_4, f7_5, f7_6, f7_7, f7_8, f7_9, f17_0, f17_1, f17_2, f17_3, f17_4, f17_5, f0_8, f0_8p, f7_10, f7_10p, g9, g9r, g9w, g11, g11r, g11w, g12, g12r, g12w, g13, g13r, g13w, g14, g14r, g14w, g15, g15r, g15w, g25, g25r, g25w, h5, h5w, h5z, h6, h6w, h6z, h8, h8w, h8z, h21, h21w, h21z, h22, h22w, h22z, h23, h23w, fl10, fl16, fl18, fl20, fl24, g11f, g12f, g13f, g14f, g15f, g25f, cN2, cN10, cN16, cN18, cN19, cN20, cN24, z01, z11, ix1, ix2, nI_add, nI_clamp, vin, true_and, and_true, or_true, true_or, h710, hQC.2.2.1, hby, v_valueIn, hvb, hv2.1]
  exact ⟨_, key ns 0 I (by omega) ⟨hW, hQ, hk, hAC, hBT, hl, hQC, h710, h713, hkn0, hknw, h712⟩ hF0 hc0 fun s' v h1 h2 h3 => by rw [if_neg (by omega)]; exact hN s' v h1 h2 h3⟩
end
