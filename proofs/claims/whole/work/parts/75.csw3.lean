section
variable {D : Mem} {nA nK nw q k fb ns pf l kn st i j s p x : Nat} {t v : Int32} {R : RMem} {I : Mem} {J : Nat → Nat → Int64} {post : Int32 → Pool → Prop} {pst : Pool → Prop}
def NX (I : Mem) : Prop := ∀ s v, s < 6 → v < 31 → I (50 + s) v = 2000000
def ES (D : Mem) (nA : Nat) (t : Int32) (q l a : Nat) : Prop := EN D nA t q l a ∧ SP D nA t q l a
noncomputable def EF (D : Mem) (nA : Nat) (t : Int32) (q l m : Nat) : List Nat := flt (ES D nA t q l) ((byT D nA).take m)
def NDs (F : List Nat) (R : RMem) (I : Mem) : Prop := I 7 15 = nI F.length ∧ ∀ j, j < F.length → R 8 j = some (1000 + F.getD j 0)
/-- the frame of a sweep -/
def FRM (R : RMem) (I : Mem) (R' : RMem) (I' : Mem) : Prop := (∀ c, c ≠ 7 → ¬ sw c → I' c = I c) ∧ (∀ k, k ≠ 15 → I' 7 k = I 7 k) ∧ ∀ c, c ≠ 8 → R' c = R c
theorem FRM_rfl : FRM R I R I := ⟨fun _ _ _ => rfl, fun _ _ => rfl, fun _ _ => rfl⟩
theorem FRM_trans {R' R'' : RMem} {I' I'' : Mem} (h : FRM R I R' I') (h' : FRM R' I' R'' I'') : FRM R I R'' I'' := ⟨fun c a b => (h'.1 c a b).trans (h.1 c a b), fun k a => (h'.2.1 k a).trans (h.2.1 k a), fun c a => (h'.2.2 c a).trans (h.2.2 c a)⟩
theorem FRM_p {R' : RMem} {I' : Mem} {c j : Nat} (h : FRM R I R' I') (hc : sw c) : FRM R I R' (p2 I' c j v) := ⟨fun d a b => (p2_ne (fun z : d = c => b (z ▸ hc))).trans (h.1 d a b), fun k a => (congrFun (p2_ne (fun z => by unfold sw at hc; omega)) k).trans (h.2.1 k a), h.2.2⟩
theorem FRM_15 {R' : RMem} {I' : Mem} (h : FRM R I R' I') : FRM R I R' (p2 I' 7 15 v) := ⟨fun d a b => (p2_ne a).trans (h.1 d a b), fun k a => (p2_row a).trans (h.2.1 k a), h.2.2⟩
theorem FRM_8 {R' : RMem} {I' : Mem} {w : Option Nat} (h : FRM R I R' I') : FRM R I (p2 R' 8 j w) I' := ⟨h.1, h.2.1, fun c a => (p2_ne a).trans (h.2.2 c a)⟩
theorem CX_frm {R' : RMem} {I' : Mem} (h : CX D nA nK nw q k fb ns pf l kn t R I) (hf : FRM R I R' I') : CX D nA nK nw q k fb ns pf l kn t R' I' := by
  have h1 := CX_I h hf.1 (hf.2.1 13 (by decide)) (hf.2.1 12 (by decide))
  obtain ⟨a1, a2, a3, a4, a5, a6, a7, a8, a9, a10, a11, a12⟩ := h1
  refine ⟨a1, a2, a3, AC_cg (fun _ _ _ => rfl) a1.1 (hf.2.2 5 (by decide)) a4, ?_, a6, a7, ?_, a9, a10, a11, a12⟩
  · intro k hk
    rw [hf.2.2 6 (by decide)]
    exact a5 k hk
  · rw [hf.2.2 7 (by decide)]
    exact a8
def PS (D : Mem) (nA : Nat) (t : Int32) (q ns pf l : Nat) (R : RMem) (I : Mem) (st i : Nat) : Prop := FI D nA t q ns I (fun _ => i) ∧ FM D nA t I i ∧ BF D nA t q ns I (fun _ => i) ∧ SDp D nA t q pf l I i ∧ LA D nA t q ns I (fun _ => st) ∧ LN D nA t q ns I st ∧ NX I ∧ NDs (EF D nA t q l st) R I
/-! unknown acts change nothing -/
theorem PS_unk (h : PS D nA t q ns pf l R I st i) (hi : i < nA) (hu : ¬ D 9 (bt D nA i) ≤ t) : PS D nA t q ns pf l R I st (i + 1) := by
  obtain ⟨h1, h2, h3, h4, h5, h6, h7, h8⟩ := h
  refine ⟨fun s hs h0 => ?_, fun f hf => ?_, fun s hs h0 j hj hk => ?_, fun hn v w hv hw => ?_, h5, h6, h7, h8⟩
  · rw [flt_take hi, if_neg (fun z => hu z.1), List.append_nil]
    exact h1 s hs h0
  · rw [h2 f hf]
    rw [show frB (bt D nA) (fun x => D 9 x ≤ t ∧ fam D x = f) (i + 1) = frB (bt D nA) (fun x => D 9 x ≤ t ∧ fam D x = f) i from ?_]
    rw [frB]
    cases frB (bt D nA) (fun x => D 9 x ≤ t ∧ fam D x = f) i with
    | some x => rfl
    | none => exact if_neg (fun z => hu z.1)
  · by_cases e : j = i
    · subst e; exact absurd hk hu
    · exact h3 s hs h0 j (by have hj : j < i + 1 := hj; show j < i; omega) hk
  · rw [lsB_f (fun z => hu z.1.1)]
    exact h4 hn v w hv hw
theorem PS_unk2 (h : PS D nA t q ns pf l R I j i) (hj : j < nA) (hu : ¬ D 9 (bt D nA j) ≤ t) : PS D nA t q ns pf l R I (j + 1) i := by
  obtain ⟨h1, h2, h3, h4, h5, h6, h7, h8⟩ := h
  refine ⟨h1, h2, h3, h4, fun s hs h0 v hv => ?_, fun r v hr hv => ?_, h7, ?_⟩
  · show I (32 + rk D q s) v = oI (lsB _ _ (j + 1)) ∧ I (38 + rk D q s) v = otd D (-1) (lsB _ _ (j + 1))
    rw [lsB_f (fun z => hu (EN_kn z.1))]
    exact h5 s hs h0 v hv
  · rw [lsB_f (fun z => hu z.1)]
    exact h6 r v hr hv
  · unfold EF
    rw [flt_take hj, if_neg (fun z => hu (EN_kn z.1)), List.append_nil]
    exact h8
theorem FM_s (hW : WA D nA nw) (h : FM D nA t I i) (hi : i < nA) (hk : D 9 (bt D nA i) ≤ t) : (I 16 (fam D (bt D nA i)) = -1 → FM D nA t (p2 I 16 (fam D (bt D nA i)) (D 8 (bt D nA i))) (i + 1)) ∧ (¬ I 16 (fam D (bt D nA i)) = -1 → FM D nA t I (i + 1)) := by
  have hb := bt_lt (D := D) hi
  have hfm := (@fam_ok D (bt D nA i)).1
  have other : ∀ f, f < nA → f ≠ fam D (bt D nA i) → otd D (-1) (frB (bt D nA) (fun x => D 9 x ≤ t ∧ fam D x = f) (i + 1)) = I 16 f := fun f hf hne => by
    rw [h f hf, frB]
    cases frB (bt D nA) (fun x => D 9 x ≤ t ∧ fam D x = f) i with
    | some x => rfl
    | none => simp only [if_neg (fun z => hne z.2.symm : ¬ (D 9 (bt D nA i) ≤ t ∧ fam D (bt D nA i) = f))]
  have hme := h (fam D (bt D nA i)) (by omega)
  have hdef : frB (bt D nA) (fun x => D 9 x ≤ t ∧ fam D x = fam D (bt D nA i)) (i + 1) = (match frB (bt D nA) (fun x => D 9 x ≤ t ∧ fam D x = fam D (bt D nA i)) i with | some x => some x | none => some (bt D nA i)) := by
    rw [frB]
    cases frB (bt D nA) (fun x => D 9 x ≤ t ∧ fam D x = fam D (bt D nA i)) i with
    | some x => rfl
    | none => exact if_pos ⟨hk, rfl⟩
  have hlt : ∀ x, frB (bt D nA) (fun x => D 9 x ≤ t ∧ fam D x = fam D (bt D nA i)) i = some x → x < nA := fun x hx => by
    obtain ⟨j, hj, rfl, _⟩ := frB_some hx
    exact bt_lt (by omega)
  have hm1 := otd_m1 hW hlt
  rw [hme, hm1]
  constructor
  · intro e f hf
    by_cases e2 : f = fam D (bt D nA i)
    · rw [e2, p2_same, hdef, e]; rfl
    · rw [p2_row e2, other f hf e2]
  · intro e f hf
    by_cases e2 : f = fam D (bt D nA i)
    · rw [e2, hme, hdef]
      cases he : frB (bt D nA) (fun x => D 9 x ≤ t ∧ fam D x = fam D (bt D nA i)) i with
      | none => exact absurd he e
      | some x => rfl
    · rw [other f hf e2]
theorem v_reach28 (hi : i < nA) (hkn : D 9 (bt D nA i) ≤ t) (hst : ∀ j, j < nA → (j < st ↔ D 8 (bt D nA j) < D 8 (bt D nA i))) (hst2 : st ≤ nA) {R0 : RMem} {I0 : Mem}
    (hp : ∀ I', FRM R0 I0 R I' → PS D nA t q ns pf l R I' st (i + 1) → pst (cp nA nK R I' J)) :
    ∀ k' s I, ns = s + k' → CX D nA nK nw q k fb ns pf l kn t R I → FRM R0 I0 R I → FI D nA t q ns I (up s i) → FM D nA t I (i + 1) → BF D nA t q ns I (up s i) → SDp D nA t q pf l I (up s i l) → LA D nA t q ns I (fun _ => st) → LN D nA t q ns I st → NX I → NDs (EF D nA t q l st) R I → wX6_reach_28 pst (k' + 1) (some 7) (some (1000 + bt D nA i)) (nI s) (cp nA nK R I J) := by
  intro k'
  induction k' with
  | zero =>
    intro s I hs hX hF g1 g2 g3 g4 g5 g6 g7 g8
    obtain ⟨hW, hQ, hk, hAC, hBT, hl, hQC, h710, h713, hkn0, hknw, h712⟩ := hX
    have hns : ns ≤ 6 := hQ.1.2.2.2.1
    have hl0 := (bfr_lt hQ.2.1)
    unfold wX6_reach_28
    simp (disch := first | decide | omega) only [c_I, c_rc, c_pI, c_pZ, c_aI, c_sI, ca_I, ca_rc, ca_pI, cq_I, cq_rc, cq_pI, cq_R, cq_aR, cs_I, cs_rc, cs_pI, cs_pZ, f0_0, f0_1, f0_2, f0_3, f0_4, f0_5, f0_6, f0_7, f1_0, f3_0, f4_0, f4_1, f7_0, f7_1, f7_2, f7_3, f7_4, f7_5, f7_6, f7_7, f7_8, f7_9, f17_0, f17_1, f17_2, f17_3, f17_4, f17_5, f0_8, f0_8p, f7_10, f7_10p, g9, g9r, g9w, g11, g11r, g11w, g12, g12r, g12w, g13, g13r, g13w, g14, g14r, g14w, g15, g15r, g15w, g25, g25r, g25w, h5, h5w, h5z, h6, h6w, h6z, h8, h8w, h8z, h21, h21w, h21z, h22, h22w, h22z, h23, h23w, fl10, fl16, fl18, fl20, fl24, g11f, g12f, g13f, g14f, g15f, g25f, cN2, cN10, cN16, cN18, cN19, cN20, cN24, z01, z11, ix1, ix2, nI_add, nI_clamp, vin, true_and, and_true, or_true, true_or, h710, hQC.1, ile, brt (show ns ≤ s by omega)]
    have hup : ∀ s', s' < ns → up s i s' = i + 1 := fun s' h => by unfold up; rw [if_pos (by omega)]
    refine hp I hF ⟨fun s' h1 h2 => ?_, g2, fun s' h1 h2 => ?_, ?_, g5, g6, g7, g8⟩
    · have := g1 s' h1 h2; rw [hup s' h1] at this; exact this
    · have := g3 s' h1 h2; rw [hup s' h1] at this; exact this
    · rw [hup l (by omega)] at g4; exact g4
  | succ k' ih =>
    intro s I hs hX hF g1 g2 g3 g4 g5 g6 g7 g8
    have hX0 := hX
    obtain ⟨hW, hQ, hk, hAC, hBT, hl, hQC, h710, h713, hkn0, hknw, h712⟩ := hX
    have hA := hW.1
    have hns : ns ≤ 6 := hQ.1.2.2.2.1
    have hsn : s < ns := by omega
    have hb := bt_lt (D := D) hi
    obtain ⟨_, a0, a1, a2, a5, a6, a7, a8⟩ := hAC (bt D nA i) hb
    obtain ⟨c0, c1, c4, c5, c6, c7⟩ := hQC.2.2.2.2.2 s hsn
    have hrl := rk_le (D := D) (q := q) s
    have hl0 := (bfr_lt hQ.2.1)
    unfold wX6_reach_28 wX6_reach_76
    simp (disch := first | decide | omega) only [c_I, c_rc, c_pI, c_pZ, c_aI, c_sI, ca_I, ca_rc, ca_pI, cq_I, cq_rc, cq_pI, cq_R, cq_aR, cs_I, cs_rc, cs_pI, cs_pZ, f0_0, f0_1, f0_2, f0_3, f0_4, f0_5, f0_6, f0_7, f1_0, f3_0, f4_0, f4_1, f7_0, f7_1, f7_2, f7_3, f7_4, f7_5, f7_6, f7_7, f7_8, f7_9, f17_0, f17_1, f17_2, f17_3, f17_4, f17_5, f0_8, f0_8p, f7_10, f7_10p, g9, g9r, g9w, g11, g11r, g11w, g12, g12r, g12w, g13, g13r, g13w, g14, g14r, g14w, g15, g15r, g15w, g25, g25r, g25w, h5, h5w, h5z, h6, h6w, h6z, h8, h8w, h8z, h21, h21w, h21z, h22, h22w, h22z, h23, h23w, fl10, fl16, fl18, fl20, fl24, g11f, g12f, g13f, g14f, g15f, g25f, cN2, cN10, cN16, cN18, cN19, cN20, cN24, z01, z11, ix1, ix2, nI_add, nI_clamp, vin, true_and, and_true, or_true, true_or, h710, hQC.1, ile, brf (show ¬ ns ≤ s by omega), c4, c7, a0]
    refine brc (fun h0 => ?_) fun h0 => ?_
    · refine v_reachAt hX0 hi hkn hst hst2 g5 g6 g2 g1 g4 hsn h0 fun v I' b1 b2 b3 b4 => ?_
      simp (disch := first | decide | omega) only [c_I, c_rc, c_pI, c_pZ, c_aI, c_sI, ca_I, ca_rc, ca_pI, cq_I, cq_rc, cq_pI, cq_R, cq_aR, cs_I, cs_rc, cs_pI, cs_pZ, f0_0, f0_1, f0_2, f0_3, f0_4, f0_5, f0_6, f0_7, f1_0, f3_0, f4_0, f4_1, f7_0, f7_1, f7_2, f7_3, f7_4, f7_5, f7_6, f7_7, f7_8, f7_9, f17_0, f17_1, f17_2, f17_3, f17_4, f17_5, f0_8, f0_8p, f7_10, f7_10p, g9, g9r, g9w, g11, g11r, g11w, g12, g12r, g12w, g13, g13r, g13w, g14, g14r, g14w, g15, g15r, g15w, g25, g25r, g25w, h5, h5w, h5z, h6, h6w, h6z, h8, h8w, h8z, h21, h21w, h21z, h22, h22w, h22z, h23, h23w, fl10, fl16, fl18, fl20, fl24, g11f, g12f, g13f, g14f, g15f, g25f, cN2, cN10, cN16, cN18, cN19, cN20, cN24, z01, z11, ix1, ix2, nI_add, nI_clamp, vin, true_and, and_true, or_true, true_or]
      have hF2 : FRM R0 I0 R (p2 I' (26 + rk D q s) (bt D nA i) v) := by
        refine FRM_p (FRM_trans hF ⟨fun c h1 h2 => b4 c (fun z => h2 (by unfold sw; omega)) (fun z => h2 (by unfold sw; omega)), fun k _ => by rw [b4 7 (by decide) (by omega)], fun _ _ => rfl⟩) (by unfold sw; omega)
      have hX2 : CX D nA nK nw q k fb ns pf l kn t R (p2 I' (26 + rk D q s) (bt D nA i) v) := CX_frm hX0 (FRM_p ⟨fun c h1 h2 => b4 c (fun z => h2 (by unfold sw; omega)) (fun z => h2 (by unfold sw; omega)), fun k _ => by rw [b4 7 (by decide) (by omega)], fun _ _ => rfl⟩ (by unfold sw; omega))
      refine ih (s + 1) _ (by omega) hX2 hF2 ?_ ?_ ?_ ?_ ?_ ?_ ?_ ?_
      · intro s' h1 h2
        rw [p2_ne (by omega)]
        exact b2 s' h1 h2
      · intro f hf
        rw [p2_ne (by omega), b4 16 (by decide) (by omega)]
        exact g2 f hf
      · intro s' h1 h2 j hj hk2
        by_cases e : s' = s
        · subst e
          rw [up_at.2] at hj
          by_cases e2 : j = i
          · subst e2
            rw [p2_same]
            exact b1
          · have hne : bt D nA j ≠ bt D nA i := fun z => by
              rcases bt_bef (D := D) (show j < i by omega) hi with y | y
              · rw [z] at y; exact Int32.lt_irrefl y
              · omega
            have := g3 s' h1 h2 j (by rw [up_at.1]; omega) hk2
            rw [p2_row hne, b4 _ (by omega) (by omega)]
            exact this
        · rw [up_same e] at hj
          have hrl' := rk_le (D := D) (q := q) s'
          have hne : rk D q s' ≠ rk D q s := fun z => e (rk_inj h2 h0 z)
          rw [p2_ne (by omega), b4 _ (by omega) (by omega)]
          exact g3 s' h1 h2 j hj hk2
      · intro hn v w hv hw
        rw [p2_ne (by omega)]
        exact b3 hn v w hv hw
      · intro s' h1 h2 v hv
        have hrl' := rk_le (D := D) (q := q) s'
        rw [p2_ne (by omega), p2_ne (by omega), b4 _ (by omega) (by omega), b4 _ (by omega) (by omega)]
        exact g5 s' h1 h2 v hv
      · intro r v hr hv
        rw [p2_ne (by omega), b4 _ (by omega) (by omega)]
        exact g6 r v hr hv
      · intro r v hr hv
        rw [p2_ne (by omega), b4 _ (by omega) (by omega)]
        exact g7 r v hr hv
      · refine ⟨?_, g8.2⟩
        rw [p2_ne (by omega), b4 _ (by omega) (by omega)]
        exact g8.1
    · have hne : ∀ s', D 14 (6 * q + s') = 0 → s' ≠ s := fun s' h z => h0 (z ▸ h)
      refine ih (s + 1) _ (by omega) hX0 hF (fun s' h1 h2 => ?_) g2 (fun s' h1 h2 => ?_) ?_ g5 g6 g7 g8
      · rw [up_same (hne s' h2)]; exact g1 s' h1 h2
      · rw [up_same (hne s' h2)]; exact g3 s' h1 h2
      · rw [up_same (hne l hl0.2)]; exact g4
theorem v_reach (hX : CX D nA nK nw q k fb ns pf l kn t R I) (hi : i < nA) (hkn : D 9 (bt D nA i) ≤ t) (hst : ∀ j, j < nA → (j < st ↔ D 8 (bt D nA j) < D 8 (bt D nA i))) (hst2 : st ≤ nA) (hP : PS D nA t q ns pf l R I st i)
    (hp : ∀ I', FRM R I R I' → PS D nA t q ns pf l R I' st (i + 1) → pst (cp nA nK R I' J)) : wX6_reach pst (some 7) (some (1000 + bt D nA i)) (cp nA nK R I J) := by
  have hX0 := hX
  obtain ⟨hW, hQ, hk, hAC, hBT, hl, hQC, h710, h713, hkn0, hknw, h712⟩ := hX
  have hA := hW.1
  have hb := bt_lt (D := D) hi
  obtain ⟨_, a0, a1, a2, a5, a6, a7, a8⟩ := hAC (bt D nA i) hb
  have hfm := (@fam_ok D (bt D nA i)).1
  obtain ⟨g1, g2, g3, g4, g5, g6, g7, g8⟩ := hP
  obtain ⟨f1, f2⟩ := FM_s hW g2 hi hkn
  unfold wX6_reach wX6_reach_26
  simp (disch := first | decide | omega) only [c_I, c_rc, c_pI, c_pZ, c_aI, c_sI, ca_I, ca_rc, ca_pI, cq_I, cq_rc, cq_pI, cq_R, cq_aR, cs_I, cs_rc, cs_pI, cs_pZ, f0_0, f0_1, f0_2, f0_3, f0_4, f0_5, f0_6, f0_7, f1_0, f3_0, f4_0, f4_1, f7_0, f7_1, f7_2, f7_3, f7_4, f7_5, f7_6, f7_7, f7_8, f7_9, f17_0, f17_1, f17_2, f17_3, f17_4, f17_5, f0_8, f0_8p, f7_10, f7_10p, g9, g9r, g9w, g11, g11r, g11w, g12, g12r, g12w, g13, g13r, g13w, g14, g14r, g14w, g15, g15r, g15w, g25, g25r, g25w, h5, h5w, h5z, h6, h6w, h6z, h8, h8w, h8z, h21, h21w, h21z, h22, h22w, h22z, h23, h23w, fl10, fl16, fl18, fl20, fl24, g11f, g12f, g13f, g14f, g15f, g25f, cN2, cN10, cN16, cN18, cN19, cN20, cN24, z01, z11, ix1, ix2, nI_add, nI_clamp, vin, true_and, and_true, or_true, true_or, a8, a5]
  have u0 : ∀ s', up 0 i s' = i := fun s' => by unfold up; rw [if_neg (by omega)]
  refine brc (fun h => ⟨_, v_reach28 hi hkn hst hst2 (R0 := R) (I0 := I) hp ns 0 _ (by omega) (CX_p hX0 (by unfold sw; omega)) (FRM_p FRM_rfl (by unfold sw; omega)) ?_ (f1 h) ?_ ?_ ?_ ?_ ?_ ?_⟩) fun h => ⟨_, v_reach28 hi hkn hst hst2 (R0 := R) (I0 := I) hp ns 0 _ (by omega) hX0 FRM_rfl ?_ (f2 h) ?_ ?_ g5 g6 g7 g8⟩
  · intro s' h1 h2
    rw [u0, p2_ne (by omega)]; exact g1 s' h1 h2
  · intro s' h1 h2
    have hrl' := rk_le (D := D) (q := q) s'
    have hns : ns ≤ 6 := hQ.1.2.2.2.1
    rw [u0, p2_ne (by omega)]; exact g3 s' h1 h2
  · rw [u0]
    intro hn v w hv hw
    rw [p2_ne (by omega)]; exact g4 hn v w hv hw
  · intro s' h1 h2 v hv
    have hrl' := rk_le (D := D) (q := q) s'
    rw [p2_ne (by omega), p2_ne (by omega)]
    exact g5 s' h1 h2 v hv
  · intro r v hr hv
    rw [p2_ne (by omega)]; exact g6 r v hr hv
  · intro r v hr hv
    rw [p2_ne (by omega)]; exact g7 r v hr hv
  · refine ⟨?_, g8.2⟩
    rw [p2_ne (by omega)]; exact g8.1
  · intro s' h1 h2
    rw [u0]; exact g1 s' h1 h2
  · intro s' h1 h2
    rw [u0]; exact g3 s' h1 h2
  · rw [u0]; exact g4
end
