/-! ===== the desk: what holds between calls ===== -/
def nsq (D : Mem) (q : Nat) : Nat := (D 13 q).toNatClampNeg
def EXU (D : Mem) (nE : Nat) (I : Mem) : Prop := ∀ q w, q < 8 → w < 31 → (∀ k, k < nE → D 23 k = nI q → D 24 k = nI w → D 25 k ≤ I (87 + q) w) ∧ (I (87 + q) w = -1 ∨ ∃ k, k < nE ∧ D 23 k = nI q ∧ D 24 k = nI w ∧ I (87 + q) w = D 25 k)
def CBa (D : Mem) (nA nw : Nat) (R : RMem) (I : Mem) : Prop := WA D nA nw ∧ D 0 4 = nI nA ∧ D 0 1 = nI nw ∧ AC D nA R I ∧ BT D nA R ∧ LG D nA I
def CBq (D : Mem) (nA nQ : Nat) (R : RMem) (I : Mem) : Prop := nQ ≤ 8 ∧ D 0 11 = nI nQ ∧ (∀ q, q < nQ → ∃ fb pf l, QV D nA q fb (nsq D q) pf l ∧ QC D q (nsq D q) I (1 + q)) ∧ (∀ q, q < nQ → R 23 q = some (2000 + 8 * (1 + q))) ∧ (∀ q, nQ ≤ q → q < 8 → R 23 q = none) ∧ R 0 8 = some (2000 + 8 * (nQ + 1)) ∧ I 0 9 = nI nQ
def CBt (D : Mem) (nT : Nat) (I : Mem) : Prop := D 0 27 = nI nT ∧ TP (D 26) nT I ∧ ∀ i, i < nT → ¬ D 26 i = -1
def CBe (D : Mem) (nE : Nat) (I : Mem) : Prop := D 0 22 = nI nE ∧ nE ≤ 40 ∧ I 0 10 = nI nE ∧ EXU D nE I
def CBs (D : Mem) (I : Mem) : Prop := (∀ h, h < 4 → I 24 h = D 3 h) ∧ I 0 11 = D 0 1 ∧ I 0 12 = D 0 2 ∧ I 0 13 = D 0 30 ∧ ¬ D 0 2 < 0 ∧ BZ D
def CB (D : Mem) (nA nQ nE nT nw : Nat) (R : RMem) (I : Mem) : Prop := CBa D nA nw R I ∧ CBq D nA nQ R I ∧ CBt D nT I ∧ CBe D nE I ∧ CBs D I
def SWC (D : Mem) (nA nQ : Nat) (R : RMem) (I : Mem) : Prop := (∃ n0, n0 ≤ nA ∧ I 7 14 = nI n0) ∧ (I 7 11 = -1 ∨ ∃ q, q < nQ ∧ I 7 11 = nI q ∧ (I 7 14 = nI nA → SWR D nA q (1 + q) (nsq D q) (I 7 12) R I))
def JCH (D : Mem) (nA nE nQ nc : Nat) (I : Mem) : Prop := I 0 14 = nI nc ∧ (I 0 15 = -1 ∨ ∃ j, j ≤ nc ∧ I 0 15 = nI j ∧ (j = nc → JVd D nA nE nQ I))
def CI (D : Mem) (nA nQ nE nT nw nc : Nat) (R : RMem) (I : Mem) : Prop := CB D nA nQ nE nT nw R I ∧ SWC D nA nQ R I ∧ JCH D nA nE nQ nc I
def FRA (R : RMem) (I : Mem) (R' : RMem) (I' : Mem) : Prop := (∀ c, c ≠ 0 → c ≠ 7 → ¬ sw c → ¬ (17 ≤ c ∧ c ≤ 20) → I' c = I c) ∧ (∀ k, k < 14 → I' 0 k = I 0 k) ∧ ∀ c, c ≠ 7 → c ≠ 8 → c ≠ 21 → c ≠ 22 → R' c = R c
section
variable {D : Mem} {nA nQ nE nT nw nc q a : Nat} {R R' : RMem} {I I' : Mem} {J : Nat → Nat → Int64} {post : Int32 → Pool → Prop} {pst : Pool → Prop} {pr : Option Nat → Pool → Prop} {pox : String → Pool → Prop} {v t n i : Int32}
theorem FRA_g (h : FRG R I R' I') : FRA R I R' I' := ⟨fun c _ h2 h3 _ => h.1 c h2 h3, fun k _ => by rw [h.1 0 (by decide) (by unfold sw; omega)], fun c h1 h2 _ _ => h.2 c h1 h2⟩
theorem FRA_j (h : FRJ R I R' I') : FRA R I R' I' := ⟨fun c _ _ _ h4 => h.1 c h4, fun k _ => by rw [h.1 0 (by omega)], fun c _ _ h3 h4 => h.2 c h3 h4⟩
theorem FRA_rfl : FRA R I R I := ⟨fun _ _ _ _ _ => rfl, fun _ _ => rfl, fun _ _ _ _ _ => rfl⟩
theorem FRA_trans {R'' : RMem} {I'' : Mem} (h : FRA R I R' I') (h' : FRA R' I' R'' I'') : FRA R I R'' I'' := ⟨fun c a b d e => (h'.1 c a b d e).trans (h.1 c a b d e), fun k a => (h'.2.1 k a).trans (h.2.1 k a), fun c a b d e => (h'.2.2 c a b d e).trans (h.2.2 c a b d e)⟩
theorem CB_fr (h : CB D nA nQ nE nT nw R I) (hf : FRA R I R' I') : CB D nA nQ nE nT nw R' I' := by
  obtain ⟨⟨a1, a2, a3, a4, a5, a6⟩, ⟨q1, q2, q3, q4, q5, q6, q7⟩, ⟨t1, t2, t3⟩, ⟨e1, e2, e3, e4⟩, ⟨s1, s2, s3, s4, s5, s6⟩⟩ := h
  have hc : ∀ c, c ≠ 0 → c ≠ 7 → ¬ sw c → ¬ (17 ≤ c ∧ c ≤ 20) → I' c = I c := hf.1
  have nsw : ∀ c, (c < 10 ∨ 87 ≤ c ∨ c = 24) → ¬ sw c := fun c h => by unfold sw; omega
  refine ⟨⟨a1, a2, a3, AC_cg (fun c h1 h2 => hc c (by omega) (by omega) (nsw c (by omega)) (by omega)) a1.1 (hf.2.2 5 (by decide) (by decide) (by decide) (by decide)) a4, fun k hk => by rw [hf.2.2 6 (by decide) (by decide) (by decide) (by decide)]; exact a5 k hk, ?_⟩, ⟨q1, q2, fun q hq => ?_, fun q hq => ?_, fun q h1 h2 => ?_, ?_, ?_⟩, ⟨t1, ?_, t3⟩, ⟨e1, e2, ?_, fun q w hq hw => ?_⟩, ⟨fun h hh => ?_, ?_, ?_, ?_, s5, s6⟩⟩
  · unfold LG; rw [hc 4 (by decide) (by decide) (nsw 4 (by omega)) (by omega)]; exact a6
  · obtain ⟨fb, pf, l, h1, h2⟩ := q3 q hq
    exact ⟨fb, pf, l, h1, QC_cg (fun c hh => hc c (by omega) (by omega) (nsw c (by omega)) (by omega)) h2⟩
  · rw [hf.2.2 23 (by decide) (by decide) (by decide) (by decide)]; exact q4 q hq
  · rw [hf.2.2 23 (by decide) (by decide) (by decide) (by decide)]; exact q5 q h1 h2
  · rw [hf.2.2 0 (by decide) (by decide) (by decide) (by decide)]; exact q6
  · rw [hf.2.1 9 (by decide)]; exact q7
  · exact TP_cg t2 (hc 1 (by decide) (by decide) (nsw 1 (by omega)) (by omega)) (hc 2 (by decide) (by decide) (nsw 2 (by omega)) (by omega))
  · rw [hf.2.1 10 (by decide)]; exact e3
  · rw [hc (87 + q) (by omega) (by omega) (nsw _ (by omega)) (by omega)]; exact e4 q w hq hw
  · rw [hc 24 (by decide) (by decide) (nsw 24 (by omega)) (by omega)]; exact s1 h hh
  · rw [hf.2.1 11 (by decide)]; exact s2
  · rw [hf.2.1 12 (by decide)]; exact s3
  · rw [hf.2.1 13 (by decide)]; exact s4
theorem v_qAt (hC : CB D nA nQ nE nT nw R I) (hB : ¬ (0 ≤ v ∧ v < D 0 11) → pox "java/lang/IndexOutOfBoundsException" (cp nA (nQ + 2) R I J)) (hp : ∀ q, q < nQ → v = nI q → pr (some (2000 + 8 * (1 + q))) (cp nA (nQ + 2) R I J)) : wX8_questionAt pox pr (some 0) v (cp nA (nQ + 2) R I J) := by
  obtain ⟨_, ⟨q1, q2, q3, q4, q5, q6, q7⟩, _⟩ := hC
  unfold wX8_questionAt wX8_questionAt_19
  rw [v_below, bI_br]
  refine brc (fun h => ?_) fun h => ?_
  · obtain ⟨m, hm, rfl⟩ := nI_of (Int32.not_lt.mpr h.1)
    have h8 := h.2
    rw [show (8 : Int32) = nI 8 from rfl, ilt hm (by decide)] at h8
    simp (disch := first | decide | omega) only [brT, brF, c_I, c_rc, c_pI, c_pZ, c_aI, c_sI, ca_I, ca_rc, ca_pI, cq_I, cq_rc, cq_pI, cq_R, cq_aR, cs_I, cs_rc, cs_pI, cs_pZ, f0_0, f0_1, f0_2, f0_3, f0_4, f0_5, f0_6, f0_7, f1_0, f3_0, f4_0, f4_1, f7_0, f7_1, f7_2, f7_3, f7_4, f7_5, f7_6, f7_7, f7_8, f7_9, f17_0, f17_1, f17_2, f17_3, f17_4, f17_5, f0_8, f0_8p, f7_10, f7_10p, g9, g9r, g9w, g11, g11r, g11w, g12, g12r, g12w, g13, g13r, g13w, g14, g14r, g14w, g15, g15r, g15w, g25, g25r, g25w, h5, h5w, h5z, h6, h6w, h6z, h8, h8w, h8z, h21, h21w, h21z, h22, h22w, h22z, h23, h23w, fl10, fl16, fl18, fl20, fl24, g11f, g12f, g13f, g14f, g15f, g25f, cN2, cN10, cN16, cN18, cN19, cN20, cN24, z01, z11, ix1, ix2, nI_add, nI_clamp, vin, true_and, and_true, or_true, true_or]
    by_cases e : m < nQ
    · rw [q4 m e, brf (by simp)]
      exact hp m e rfl
    · rw [q5 m (by omega) h8, brt rfl]
      refine hB fun z => e ?_
      have := z.2
      rw [q2, ilt hm (by omega)] at this
      exact this
  · rw [brt rfl]
    refine hB fun z => h ⟨z.1, ?_⟩
    have := z.2
    rw [q2] at this
    refine Int32.lt_of_lt_of_le this ?_
    rw [show (8 : Int32) = nI 8 from rfl, ile (by omega) (by decide)]
    exact q1
theorem v_goQ (hC : CI D nA nQ nE nT nw nc R I) (hq : q < nQ) (hp : ∀ R' I', FRG R I R' I' → CI D nA nQ nE nT nw nc R' I' → SWR D nA q (1 + q) (nsq D q) t R' I' → pst (cp nA (nQ + 2) R' I' J)) : wX6_goOver pst (some 7) (some (2000 + 8 * (1 + q))) (nI q) t (cp nA (nQ + 2) R I J) := by
  obtain ⟨hB, hS, hJ⟩ := hC
  obtain ⟨⟨a1, a2, a3, a4, a5, a6⟩, ⟨q1, q2, q3, q4, q5, q6, q7⟩, _⟩ := id hB
  obtain ⟨fb, pf, l, h1, h2⟩ := q3 q hq
  refine v_goOver a1 h1 (by omega) a4 a5 a6.1 h2 (fun c1 c2 c3 => ?_) fun R' I' b1 b2 => hp R' I' b1 ⟨CB_fr hB (FRA_g b1), ⟨⟨nA, Nat.le_refl _, b2.2.2.1⟩, .inr ⟨q, hq, b2.1, fun _ => by rw [b2.2.1]; exact b2⟩⟩, ?_⟩ b2
  · rcases hS.2 with z | ⟨q', hq', z1, z2⟩
    · rw [c1] at z; exact absurd z (nI_nm1 (by omega))
    · have e : q = q' := by
        rw [c1, ieq (by omega) (by omega)] at z1; exact z1
      subst e
      have := z2 c3
      rw [c2] at this
      exact this
  · have hI : ∀ c, c = 0 ∨ (17 ≤ c ∧ c ≤ 20) → I' c = I c := fun c hc => b1.1 c (by omega) (by unfold sw; omega)
    unfold JCH JVd PR19 at hJ ⊢
    rw [hI 0 (by omega), hI 17 (by omega), hI 19 (by omega), hI 20 (by omega)]
    exact hJ
theorem v_sweepOf (hC : CI D nA nQ nE nT nw nc R I) (hB : ¬ (0 ≤ v ∧ v < D 0 11) → pox "java/lang/IndexOutOfBoundsException" (cp nA (nQ + 2) R I J)) (hp : ∀ q R' I', q < nQ → v = nI q → FRG R I R' I' → CI D nA nQ nE nT nw nc R' I' → SWR D nA q (1 + q) (nsq D q) t R' I' → pr (some 7) (cp nA (nQ + 2) R' I' J)) : wX8_sweepOf pox pr (some 0) v t (cp nA (nQ + 2) R I J) := by
  unfold wX8_sweepOf
  simp (disch := first | decide | omega) only [brT, brF, c_I, c_rc, c_pI, c_pZ, c_aI, c_sI, ca_I, ca_rc, ca_pI, cq_I, cq_rc, cq_pI, cq_R, cq_aR, cs_I, cs_rc, cs_pI, cs_pZ, f0_0, f0_1, f0_2, f0_3, f0_4, f0_5, f0_6, f0_7, f1_0, f3_0, f4_0, f4_1, f7_0, f7_1, f7_2, f7_3, f7_4, f7_5, f7_6, f7_7, f7_8, f7_9, f17_0, f17_1, f17_2, f17_3, f17_4, f17_5, f0_8, f0_8p, f7_10, f7_10p, g9, g9r, g9w, g11, g11r, g11w, g12, g12r, g12w, g13, g13r, g13w, g14, g14r, g14w, g15, g15r, g15w, g25, g25r, g25w, h5, h5w, h5z, h6, h6w, h6z, h8, h8w, h8z, h21, h21w, h21z, h22, h22w, h22z, h23, h23w, fl10, fl16, fl18, fl20, fl24, g11f, g12f, g13f, g14f, g15f, g25f, cN2, cN10, cN16, cN18, cN19, cN20, cN24, z01, z11, ix1, ix2, nI_add, nI_clamp, vin, true_and, and_true, or_true, true_or]
  refine v_qAt hC.1 hB fun q hq e => ?_
  subst e
  simp (disch := first | decide | omega) only [brT, brF, c_I, c_rc, c_pI, c_pZ, c_aI, c_sI, ca_I, ca_rc, ca_pI, cq_I, cq_rc, cq_pI, cq_R, cq_aR, cs_I, cs_rc, cs_pI, cs_pZ, f0_0, f0_1, f0_2, f0_3, f0_4, f0_5, f0_6, f0_7, f1_0, f3_0, f4_0, f4_1, f7_0, f7_1, f7_2, f7_3, f7_4, f7_5, f7_6, f7_7, f7_8, f7_9, f17_0, f17_1, f17_2, f17_3, f17_4, f17_5, f0_8, f0_8p, f7_10, f7_10p, g9, g9r, g9w, g11, g11r, g11w, g12, g12r, g12w, g13, g13r, g13w, g14, g14r, g14w, g15, g15r, g15w, g25, g25r, g25w, h5, h5w, h5z, h6, h6w, h6z, h8, h8w, h8z, h21, h21w, h21z, h22, h22w, h22z, h23, h23w, fl10, fl16, fl18, fl20, fl24, g11f, g12f, g13f, g14f, g15f, g25f, cN2, cN10, cN16, cN18, cN19, cN20, cN24, z01, z11, ix1, ix2, nI_add, nI_clamp, vin, true_and, and_true, or_true, true_or]
  refine v_goQ hC hq fun R' I' b1 b2 b3 => ?_
  simp (disch := first | decide | omega) only [brT, brF, c_I, c_rc, c_pI, c_pZ, c_aI, c_sI, ca_I, ca_rc, ca_pI, cq_I, cq_rc, cq_pI, cq_R, cq_aR, cs_I, cs_rc, cs_pI, cs_pZ, f0_0, f0_1, f0_2, f0_3, f0_4, f0_5, f0_6, f0_7, f1_0, f3_0, f4_0, f4_1, f7_0, f7_1, f7_2, f7_3, f7_4, f7_5, f7_6, f7_7, f7_8, f7_9, f17_0, f17_1, f17_2, f17_3, f17_4, f17_5, f0_8, f0_8p, f7_10, f7_10p, g9, g9r, g9w, g11, g11r, g11w, g12, g12r, g12w, g13, g13r, g13w, g14, g14r, g14w, g15, g15r, g15w, g25, g25r, g25w, h5, h5w, h5z, h6, h6w, h6z, h8, h8w, h8z, h21, h21w, h21z, h22, h22w, h22z, h23, h23w, fl10, fl16, fl18, fl20, fl24, g11f, g12f, g13f, g14f, g15f, g25f, cN2, cN10, cN16, cN18, cN19, cN20, cN24, z01, z11, ix1, ix2, nI_add, nI_clamp, vin, true_and, and_true, or_true, true_or]
  exact hp q R' I' hq rfl b1 b2 b3
theorem d_finds (hC : CI D nA nQ nE nT nw nc R I) (hB : ¬ (0 ≤ v ∧ v < D 0 11) → pox "java/lang/IndexOutOfBoundsException" (cp nA (nQ + 2) R I J)) (hp : ∀ q R' I', q < nQ → v = nI q → CI D nA nQ nE nT nw nc R' I' → post (nI (FL D nA t q nA).length) (cp nA (nQ + 2) R' I' J)) : wX8_finds pox post (some 0) v t (cp nA (nQ + 2) R I J) := by
  unfold wX8_finds
  simp (disch := first | decide | omega) only [brT, brF, c_I, c_rc, c_pI, c_pZ, c_aI, c_sI, ca_I, ca_rc, ca_pI, cq_I, cq_rc, cq_pI, cq_R, cq_aR, cs_I, cs_rc, cs_pI, cs_pZ, f0_0, f0_1, f0_2, f0_3, f0_4, f0_5, f0_6, f0_7, f1_0, f3_0, f4_0, f4_1, f7_0, f7_1, f7_2, f7_3, f7_4, f7_5, f7_6, f7_7, f7_8, f7_9, f17_0, f17_1, f17_2, f17_3, f17_4, f17_5, f0_8, f0_8p, f7_10, f7_10p, g9, g9r, g9w, g11, g11r, g11w, g12, g12r, g12w, g13, g13r, g13w, g14, g14r, g14w, g15, g15r, g15w, g25, g25r, g25w, h5, h5w, h5z, h6, h6w, h6z, h8, h8w, h8z, h21, h21w, h21z, h22, h22w, h22z, h23, h23w, fl10, fl16, fl18, fl20, fl24, g11f, g12f, g13f, g14f, g15f, g25f, cN2, cN10, cN16, cN18, cN19, cN20, cN24, z01, z11, ix1, ix2, nI_add, nI_clamp, vin, true_and, and_true, or_true, true_or]
  refine v_sweepOf hC hB fun q R' I' hq e b1 b2 b3 => ?_
  simp (disch := first | decide | omega) only [brT, brF, c_I, c_rc, c_pI, c_pZ, c_aI, c_sI, ca_I, ca_rc, ca_pI, cq_I, cq_rc, cq_pI, cq_R, cq_aR, cs_I, cs_rc, cs_pI, cs_pZ, f0_0, f0_1, f0_2, f0_3, f0_4, f0_5, f0_6, f0_7, f1_0, f3_0, f4_0, f4_1, f7_0, f7_1, f7_2, f7_3, f7_4, f7_5, f7_6, f7_7, f7_8, f7_9, f17_0, f17_1, f17_2, f17_3, f17_4, f17_5, f0_8, f0_8p, f7_10, f7_10p, g9, g9r, g9w, g11, g11r, g11w, g12, g12r, g12w, g13, g13r, g13w, g14, g14r, g14w, g15, g15r, g15w, g25, g25r, g25w, h5, h5w, h5z, h6, h6w, h6z, h8, h8w, h8z, h21, h21w, h21z, h22, h22w, h22z, h23, h23w, fl10, fl16, fl18, fl20, fl24, g11f, g12f, g13f, g14f, g15f, g25f, cN2, cN10, cN16, cN18, cN19, cN20, cN24, z01, z11, ix1, ix2, nI_add, nI_clamp, vin, true_and, and_true, or_true, true_or, b3.2.2.2.2.2.2.1]
  exact hp q R' I' hq e b2
theorem d_found (hC : CI D nA nQ nE nT nw nc R I) (hB : ¬ (0 ≤ v ∧ v < D 0 11) → pox "java/lang/IndexOutOfBoundsException" (cp nA (nQ + 2) R I J)) (hp : ∀ q R' I', q < nQ → v = nI q → CI D nA nQ nE nT nw nc R' I' → post (nth (FL D nA t q nA) n) (cp nA (nQ + 2) R' I' J)) : wX8_found pox post (some 0) v t n (cp nA (nQ + 2) R I J) := by
  unfold wX8_found
  simp (disch := first | decide | omega) only [brT, brF, c_I, c_rc, c_pI, c_pZ, c_aI, c_sI, ca_I, ca_rc, ca_pI, cq_I, cq_rc, cq_pI, cq_R, cq_aR, cs_I, cs_rc, cs_pI, cs_pZ, f0_0, f0_1, f0_2, f0_3, f0_4, f0_5, f0_6, f0_7, f1_0, f3_0, f4_0, f4_1, f7_0, f7_1, f7_2, f7_3, f7_4, f7_5, f7_6, f7_7, f7_8, f7_9, f17_0, f17_1, f17_2, f17_3, f17_4, f17_5, f0_8, f0_8p, f7_10, f7_10p, g9, g9r, g9w, g11, g11r, g11w, g12, g12r, g12w, g13, g13r, g13w, g14, g14r, g14w, g15, g15r, g15w, g25, g25r, g25w, h5, h5w, h5z, h6, h6w, h6z, h8, h8w, h8z, h21, h21w, h21z, h22, h22w, h22z, h23, h23w, fl10, fl16, fl18, fl20, fl24, g11f, g12f, g13f, g14f, g15f, g25f, cN2, cN10, cN16, cN18, cN19, cN20, cN24, z01, z11, ix1, ix2, nI_add, nI_clamp, vin, true_and, and_true, or_true, true_or]
  refine v_sweepOf hC hB fun q R' I' hq e b1 b2 b3 => ?_
  have hA := b2.1.1.1.1
  have hFl := FL_250 (D := D) (t := t) (q := q) hA
  have hp' := hp q R' I' hq e b2
  unfold nth at hp'
  simp (disch := first | decide | omega) only [brT, brF, c_I, c_rc, c_pI, c_pZ, c_aI, c_sI, ca_I, ca_rc, ca_pI, cq_I, cq_rc, cq_pI, cq_R, cq_aR, cs_I, cs_rc, cs_pI, cs_pZ, f0_0, f0_1, f0_2, f0_3, f0_4, f0_5, f0_6, f0_7, f1_0, f3_0, f4_0, f4_1, f7_0, f7_1, f7_2, f7_3, f7_4, f7_5, f7_6, f7_7, f7_8, f7_9, f17_0, f17_1, f17_2, f17_3, f17_4, f17_5, f0_8, f0_8p, f7_10, f7_10p, g9, g9r, g9w, g11, g11r, g11w, g12, g12r, g12w, g13, g13r, g13w, g14, g14r, g14w, g15, g15r, g15w, g25, g25r, g25w, h5, h5w, h5z, h6, h6w, h6z, h8, h8w, h8z, h21, h21w, h21z, h22, h22w, h22z, h23, h23w, fl10, fl16, fl18, fl20, fl24, g11f, g12f, g13f, g14f, g15f, g25f, cN2, cN10, cN16, cN18, cN19, cN20, cN24, z01, z11, ix1, ix2, nI_add, nI_clamp, vin, true_and, and_true, or_true, true_or, v_findAt b3.2.2.2.2.2.2 hFl]
  by_cases h : 0 ≤ n ∧ n < nI (FL D nA t q nA).length
  · rw [if_pos h] at hp' ⊢
    rw [brf (by simp)]
    obtain ⟨m, hm, rfl⟩ := nI_of (Int32.not_lt.mpr h.1)
    have h2 := h.2
    rw [ilt hm (by omega)] at h2
    have hfa := FL_get (D := D) (t := t) (q := q) (nA := nA) h2
    rw [nI_clamp hm] at hp' ⊢
    obtain ⟨_, e0, _⟩ := b2.1.1.2.2.2.1 _ hfa
    simp (disch := first | decide | omega) only [brT, brF, c_I, c_rc, c_pI, c_pZ, c_aI, c_sI, ca_I, ca_rc, ca_pI, cq_I, cq_rc, cq_pI, cq_R, cq_aR, cs_I, cs_rc, cs_pI, cs_pZ, f0_0, f0_1, f0_2, f0_3, f0_4, f0_5, f0_6, f0_7, f1_0, f3_0, f4_0, f4_1, f7_0, f7_1, f7_2, f7_3, f7_4, f7_5, f7_6, f7_7, f7_8, f7_9, f17_0, f17_1, f17_2, f17_3, f17_4, f17_5, f0_8, f0_8p, f7_10, f7_10p, g9, g9r, g9w, g11, g11r, g11w, g12, g12r, g12w, g13, g13r, g13w, g14, g14r, g14w, g15, g15r, g15w, g25, g25r, g25w, h5, h5w, h5z, h6, h6w, h6z, h8, h8w, h8z, h21, h21w, h21z, h22, h22w, h22z, h23, h23w, fl10, fl16, fl18, fl20, fl24, g11f, g12f, g13f, g14f, g15f, g25f, cN2, cN10, cN16, cN18, cN19, cN20, cN24, z01, z11, ix1, ix2, nI_add, nI_clamp, vin, true_and, and_true, or_true, true_or, e0]
    exact hp'
  · rw [if_neg h] at hp' ⊢
    exact hp'
theorem d_proof (hC : CI D nA nQ nE nT nw nc R I) (hB : ¬ (0 ≤ v ∧ v < D 0 11) → pox "java/lang/IndexOutOfBoundsException" (cp nA (nQ + 2) R I J)) (hp : ∀ q R' I' fb pf l x, q < nQ → v = nI q → CI D nA nQ nE nT nw nc R' I' → QV D nA q fb (nsq D q) pf l → PF D nA t q l (FL D nA t q nA) n i x → post x (cp nA (nQ + 2) R' I' J)) : wX8_proof pox post (some 0) v t n i (cp nA (nQ + 2) R I J) := by
  unfold wX8_proof
  simp (disch := first | decide | omega) only [brT, brF, c_I, c_rc, c_pI, c_pZ, c_aI, c_sI, ca_I, ca_rc, ca_pI, cq_I, cq_rc, cq_pI, cq_R, cq_aR, cs_I, cs_rc, cs_pI, cs_pZ, f0_0, f0_1, f0_2, f0_3, f0_4, f0_5, f0_6, f0_7, f1_0, f3_0, f4_0, f4_1, f7_0, f7_1, f7_2, f7_3, f7_4, f7_5, f7_6, f7_7, f7_8, f7_9, f17_0, f17_1, f17_2, f17_3, f17_4, f17_5, f0_8, f0_8p, f7_10, f7_10p, g9, g9r, g9w, g11, g11r, g11w, g12, g12r, g12w, g13, g13r, g13w, g14, g14r, g14w, g15, g15r, g15w, g25, g25r, g25w, h5, h5w, h5z, h6, h6w, h6z, h8, h8w, h8z, h21, h21w, h21z, h22, h22w, h22z, h23, h23w, fl10, fl16, fl18, fl20, fl24, g11f, g12f, g13f, g14f, g15f, g25f, cN2, cN10, cN16, cN18, cN19, cN20, cN24, z01, z11, ix1, ix2, nI_add, nI_clamp, vin, true_and, and_true, or_true, true_or]
  refine v_sweepOf hC hB fun q R' I' hq e b1 b2 b3 => ?_
  obtain ⟨fb, pf, l, h1, h2⟩ := b2.1.2.1.2.2.1 q hq
  have h8 := b2.1.2.1.1
  simp (disch := first | decide | omega) only [brT, brF, c_I, c_rc, c_pI, c_pZ, c_aI, c_sI, ca_I, ca_rc, ca_pI, cq_I, cq_rc, cq_pI, cq_R, cq_aR, cs_I, cs_rc, cs_pI, cs_pZ, f0_0, f0_1, f0_2, f0_3, f0_4, f0_5, f0_6, f0_7, f1_0, f3_0, f4_0, f4_1, f7_0, f7_1, f7_2, f7_3, f7_4, f7_5, f7_6, f7_7, f7_8, f7_9, f17_0, f17_1, f17_2, f17_3, f17_4, f17_5, f0_8, f0_8p, f7_10, f7_10p, g9, g9r, g9w, g11, g11r, g11w, g12, g12r, g12w, g13, g13r, g13w, g14, g14r, g14w, g15, g15r, g15w, g25, g25r, g25w, h5, h5w, h5z, h6, h6w, h6z, h8, h8w, h8z, h21, h21w, h21z, h22, h22w, h22z, h23, h23w, fl10, fl16, fl18, fl20, fl24, g11f, g12f, g13f, g14f, g15f, g25f, cN2, cN10, cN16, cN18, cN19, cN20, cN24, z01, z11, ix1, ix2, nI_add, nI_clamp, vin, true_and, and_true, or_true, true_or]
  exact v_proofAct b2.1.1.1 h1 (by omega) b2.1.1.2.2.2.1 h2 b3 fun x hx => hp q R' I' fb pf l x hq e b2 h1 hx
theorem d_cost (hC : CI D nA nQ nE nT nw nc R I) (hB : ¬ (0 ≤ v ∧ v < D 0 11) → pox "java/lang/IndexOutOfBoundsException" (cp nA (nQ + 2) R I J)) (hp : ∀ q R' I' x, q < nQ → v = nI q → CI D nA nQ nE nT nw nc R' I' → CO D nA t q (nsq D q) x → post x (cp nA (nQ + 2) R' I' J)) : wX8_cost pox post (some 0) v t (cp nA (nQ + 2) R I J) := by
  unfold wX8_cost
  simp (disch := first | decide | omega) only [brT, brF, c_I, c_rc, c_pI, c_pZ, c_aI, c_sI, ca_I, ca_rc, ca_pI, cq_I, cq_rc, cq_pI, cq_R, cq_aR, cs_I, cs_rc, cs_pI, cs_pZ, f0_0, f0_1, f0_2, f0_3, f0_4, f0_5, f0_6, f0_7, f1_0, f3_0, f4_0, f4_1, f7_0, f7_1, f7_2, f7_3, f7_4, f7_5, f7_6, f7_7, f7_8, f7_9, f17_0, f17_1, f17_2, f17_3, f17_4, f17_5, f0_8, f0_8p, f7_10, f7_10p, g9, g9r, g9w, g11, g11r, g11w, g12, g12r, g12w, g13, g13r, g13w, g14, g14r, g14w, g15, g15r, g15w, g25, g25r, g25w, h5, h5w, h5z, h6, h6w, h6z, h8, h8w, h8z, h21, h21w, h21z, h22, h22w, h22z, h23, h23w, fl10, fl16, fl18, fl20, fl24, g11f, g12f, g13f, g14f, g15f, g25f, cN2, cN10, cN16, cN18, cN19, cN20, cN24, z01, z11, ix1, ix2, nI_add, nI_clamp, vin, true_and, and_true, or_true, true_or]
  refine v_sweepOf hC hB fun q R' I' hq e b1 b2 b3 => ?_
  obtain ⟨fb, pf, l, h1, h2⟩ := b2.1.2.1.2.2.1 q hq
  simp (disch := first | decide | omega) only [brT, brF, c_I, c_rc, c_pI, c_pZ, c_aI, c_sI, ca_I, ca_rc, ca_pI, cq_I, cq_rc, cq_pI, cq_R, cq_aR, cs_I, cs_rc, cs_pI, cs_pZ, f0_0, f0_1, f0_2, f0_3, f0_4, f0_5, f0_6, f0_7, f1_0, f3_0, f4_0, f4_1, f7_0, f7_1, f7_2, f7_3, f7_4, f7_5, f7_6, f7_7, f7_8, f7_9, f17_0, f17_1, f17_2, f17_3, f17_4, f17_5, f0_8, f0_8p, f7_10, f7_10p, g9, g9r, g9w, g11, g11r, g11w, g12, g12r, g12w, g13, g13r, g13w, g14, g14r, g14w, g15, g15r, g15w, g25, g25r, g25w, h5, h5w, h5z, h6, h6w, h6z, h8, h8w, h8z, h21, h21w, h21z, h22, h22w, h22z, h23, h23w, fl10, fl16, fl18, fl20, fl24, g11f, g12f, g13f, g14f, g15f, g25f, cN2, cN10, cN16, cN18, cN19, cN20, cN24, z01, z11, ix1, ix2, nI_add, nI_clamp, vin, true_and, and_true, or_true, true_or]
  exact v_fewest b2.1.1.1 h1 (by omega) h2 b3 fun x hx => hp q R' I' x hq e b2 hx
theorem d_widest (hC : CI D nA nQ nE nT nw nc R I) (hB : ¬ (0 ≤ v ∧ v < D 0 11) → pox "java/lang/IndexOutOfBoundsException" (cp nA (nQ + 2) R I J)) (hp : ∀ q R' I', q < nQ → v = nI q → CI D nA nQ nE nT nw nc R' I' → post (wst (fun f => fvs D (FL D nA t q nA) f (FL D nA t q nA).length) 3).1 (cp nA (nQ + 2) R' I' J)) : wX8_widest pox post (some 0) v t (cp nA (nQ + 2) R I J) := by
  unfold wX8_widest
  simp (disch := first | decide | omega) only [brT, brF, c_I, c_rc, c_pI, c_pZ, c_aI, c_sI, ca_I, ca_rc, ca_pI, cq_I, cq_rc, cq_pI, cq_R, cq_aR, cs_I, cs_rc, cs_pI, cs_pZ, f0_0, f0_1, f0_2, f0_3, f0_4, f0_5, f0_6, f0_7, f1_0, f3_0, f4_0, f4_1, f7_0, f7_1, f7_2, f7_3, f7_4, f7_5, f7_6, f7_7, f7_8, f7_9, f17_0, f17_1, f17_2, f17_3, f17_4, f17_5, f0_8, f0_8p, f7_10, f7_10p, g9, g9r, g9w, g11, g11r, g11w, g12, g12r, g12w, g13, g13r, g13w, g14, g14r, g14w, g15, g15r, g15w, g25, g25r, g25w, h5, h5w, h5z, h6, h6w, h6z, h8, h8w, h8z, h21, h21w, h21z, h22, h22w, h22z, h23, h23w, fl10, fl16, fl18, fl20, fl24, g11f, g12f, g13f, g14f, g15f, g25f, cN2, cN10, cN16, cN18, cN19, cN20, cN24, z01, z11, ix1, ix2, nI_add, nI_clamp, vin, true_and, and_true, or_true, true_or]
  refine v_sweepOf hC hB fun q R' I' hq e b1 b2 b3 => ?_
  simp (disch := first | decide | omega) only [brT, brF, c_I, c_rc, c_pI, c_pZ, c_aI, c_sI, ca_I, ca_rc, ca_pI, cq_I, cq_rc, cq_pI, cq_R, cq_aR, cs_I, cs_rc, cs_pI, cs_pZ, f0_0, f0_1, f0_2, f0_3, f0_4, f0_5, f0_6, f0_7, f1_0, f3_0, f4_0, f4_1, f7_0, f7_1, f7_2, f7_3, f7_4, f7_5, f7_6, f7_7, f7_8, f7_9, f17_0, f17_1, f17_2, f17_3, f17_4, f17_5, f0_8, f0_8p, f7_10, f7_10p, g9, g9r, g9w, g11, g11r, g11w, g12, g12r, g12w, g13, g13r, g13w, g14, g14r, g14w, g15, g15r, g15w, g25, g25r, g25w, h5, h5w, h5z, h6, h6w, h6z, h8, h8w, h8z, h21, h21w, h21z, h22, h22w, h22z, h23, h23w, fl10, fl16, fl18, fl20, fl24, g11f, g12f, g13f, g14f, g15f, g25f, cN2, cN10, cN16, cN18, cN19, cN20, cN24, z01, z11, ix1, ix2, nI_add, nI_clamp, vin, true_and, and_true, or_true, true_or]
  exact v_widest b2.1.1.1 b2.1.1.2.2.2.1 b3.2.2.2.2.2.2 (FL_250 b2.1.1.1.1) (fun x hx => FL_get hx) (hp q R' I' hq e b2)
theorem v_isEx {q : Nat} (hC : CB D nA nQ nE nT nw R I) (hq : q < 8) (ha : a < nA) : wX8_isExempt post (some 0) (nI q) (some (1000 + a)) (cp nA (nQ + 2) R I J) = post (bI (EXQ D nE q a)) (cp nA (nQ + 2) R I J) := by
  obtain ⟨⟨a1, a2, a3, a4, a5, a6⟩, _, _, ⟨e1, e2, e3, e4⟩, _⟩ := hC
  have hA := a1.1
  obtain ⟨_, _, _, f2, f5, _⟩ := a4 a ha
  have hv := (a1.2.2 a ha).2.2.2.2.1 0 (by decide)
  have w0 : I (1000 + a) 2 = nI (vv D a 0) := (f2 0 (by decide)).trans hv.1
  have hv31 := hv.2
  obtain ⟨u1, u2⟩ := e4 q (vv D a 0) hq hv31
  have htk := tk_toInt a1 ha
  have h8 : 0 ≤ nI q ∧ nI q < 8 := ⟨nI_pos' (by omega), by rw [show (8 : Int32) = nI 8 from rfl, ilt (by omega) (by decide)]; exact hq⟩
  unfold wX8_isExempt
  rw [brf (by simp), v_below, bI_br, brt h8]
  simp (disch := first | decide | omega) only [brT, brF, c_I, c_rc, c_pI, c_pZ, c_aI, c_sI, ca_I, ca_rc, ca_pI, cq_I, cq_rc, cq_pI, cq_R, cq_aR, cs_I, cs_rc, cs_pI, cs_pZ, f0_0, f0_1, f0_2, f0_3, f0_4, f0_5, f0_6, f0_7, f1_0, f3_0, f4_0, f4_1, f7_0, f7_1, f7_2, f7_3, f7_4, f7_5, f7_6, f7_7, f7_8, f7_9, f17_0, f17_1, f17_2, f17_3, f17_4, f17_5, f0_8, f0_8p, f7_10, f7_10p, g9, g9r, g9w, g11, g11r, g11w, g12, g12r, g12w, g13, g13r, g13w, g14, g14r, g14w, g15, g15r, g15w, g25, g25r, g25w, h5, h5w, h5z, h6, h6w, h6z, h8, h8w, h8z, h21, h21w, h21z, h22, h22w, h22z, h23, h23w, fl10, fl16, fl18, fl20, fl24, g11f, g12f, g13f, g14f, g15f, g25f, cN2, cN10, cN16, cN18, cN19, cN20, cN24, z01, z11, ix1, ix2, nI_add, nI_clamp, vin, true_and, and_true, or_true, true_or, w0, f5, br_if]
  have key : EXQ D nE q a ↔ ¬ I (87 + q) (vv D a 0) < D 8 a := by
    constructor
    · rintro ⟨k, k1, k2, k3, k4⟩
      have k3 : D 24 k = nI (vv D a 0) := k3.trans hv.1
      exact Int32.not_lt.mpr (Int32.le_trans k4 (u1 k k1 k2 k3))
    · intro h
      rcases u2 with u2 | ⟨k, k1, k2, k3, k4⟩
      · rw [u2, Int32.lt_iff_toInt_lt, m1_toInt] at h
        omega
      · exact ⟨k, k1, k2, k3.trans hv.1.symm, by rw [← k4]; exact Int32.not_lt.mp h⟩
  by_cases h : I (87 + q) (vv D a 0) < D 8 a
  · rw [if_pos h, bI_f (fun z => key.mp z h)]
  · rw [if_neg h, bI_t (key.mpr h)]
theorem d_spared (hC : CI D nA nQ nE nT nw nc R I) (hB : ¬ (0 ≤ v ∧ v < D 0 11) → pox "java/lang/IndexOutOfBoundsException" (cp nA (nQ + 2) R I J)) (hp : ∀ q R' I', q < nQ → v = nI q → CI D nA nQ nE nT nw nc R' I' → post (nI (cnt (fun k => EXQ D nE q ((FL D nA t q nA).getD k 0)) (FL D nA t q nA).length)) (cp nA (nQ + 2) R' I' J)) : wX8_spared pox post (some 0) v t (cp nA (nQ + 2) R I J) := by
  unfold wX8_spared
  simp (disch := first | decide | omega) only [brT, brF, c_I, c_rc, c_pI, c_pZ, c_aI, c_sI, ca_I, ca_rc, ca_pI, cq_I, cq_rc, cq_pI, cq_R, cq_aR, cs_I, cs_rc, cs_pI, cs_pZ, f0_0, f0_1, f0_2, f0_3, f0_4, f0_5, f0_6, f0_7, f1_0, f3_0, f4_0, f4_1, f7_0, f7_1, f7_2, f7_3, f7_4, f7_5, f7_6, f7_7, f7_8, f7_9, f17_0, f17_1, f17_2, f17_3, f17_4, f17_5, f0_8, f0_8p, f7_10, f7_10p, g9, g9r, g9w, g11, g11r, g11w, g12, g12r, g12w, g13, g13r, g13w, g14, g14r, g14w, g15, g15r, g15w, g25, g25r, g25w, h5, h5w, h5z, h6, h6w, h6z, h8, h8w, h8z, h21, h21w, h21z, h22, h22w, h22z, h23, h23w, fl10, fl16, fl18, fl20, fl24, g11f, g12f, g13f, g14f, g15f, g25f, cN2, cN10, cN16, cN18, cN19, cN20, cN24, z01, z11, ix1, ix2, nI_add, nI_clamp, vin, true_and, and_true, or_true, true_or]
  refine v_sweepOf hC hB fun q R' I' hq e b1 b2 b3 => ?_
  subst e
  have hA := b2.1.1.1.1
  have h8 := b2.1.2.1.1
  have hFl := FL_250 (D := D) (t := t) (q := q) hA
  have hND := b3.2.2.2.2.2.2
  have key : ∀ k' m, (FL D nA t q nA).length = m + k' → wX8_spared_13 pox post (k' + 1) (some 0) (nI q) (some 7) (nI (cnt (fun k => EXQ D nE q ((FL D nA t q nA).getD k 0)) m)) (nI m) (cp nA (nQ + 2) R' I' J) := by
    intro k'
    induction k' with
    | zero =>
      intro m hm
      have e : (FL D nA t q nA).length = m := by omega
      unfold wX8_spared_13
      simp (disch := first | decide | omega) only [brT, brF, c_I, c_rc, c_pI, c_pZ, c_aI, c_sI, ca_I, ca_rc, ca_pI, cq_I, cq_rc, cq_pI, cq_R, cq_aR, cs_I, cs_rc, cs_pI, cs_pZ, f0_0, f0_1, f0_2, f0_3, f0_4, f0_5, f0_6, f0_7, f1_0, f3_0, f4_0, f4_1, f7_0, f7_1, f7_2, f7_3, f7_4, f7_5, f7_6, f7_7, f7_8, f7_9, f17_0, f17_1, f17_2, f17_3, f17_4, f17_5, f0_8, f0_8p, f7_10, f7_10p, g9, g9r, g9w, g11, g11r, g11w, g12, g12r, g12w, g13, g13r, g13w, g14, g14r, g14w, g15, g15r, g15w, g25, g25r, g25w, h5, h5w, h5z, h6, h6w, h6z, h8, h8w, h8z, h21, h21w, h21z, h22, h22w, h22z, h23, h23w, fl10, fl16, fl18, fl20, fl24, g11f, g12f, g13f, g14f, g15f, g25f, cN2, cN10, cN16, cN18, cN19, cN20, cN24, z01, z11, ix1, ix2, nI_add, nI_clamp, vin, true_and, and_true, or_true, true_or, hND.1, ile, brt (show (FL D nA t q nA).length ≤ m by omega)]
      have := hp q R' I' hq rfl b2
      rw [e] at this
      exact this
    | succ k' ih =>
      intro m hm
      have hml : m < (FL D nA t q nA).length := by omega
      unfold wX8_spared_13 wX8_spared_39
      simp (disch := first | decide | omega) only [brT, brF, c_I, c_rc, c_pI, c_pZ, c_aI, c_sI, ca_I, ca_rc, ca_pI, cq_I, cq_rc, cq_pI, cq_R, cq_aR, cs_I, cs_rc, cs_pI, cs_pZ, f0_0, f0_1, f0_2, f0_3, f0_4, f0_5, f0_6, f0_7, f1_0, f3_0, f4_0, f4_1, f7_0, f7_1, f7_2, f7_3, f7_4, f7_5, f7_6, f7_7, f7_8, f7_9, f17_0, f17_1, f17_2, f17_3, f17_4, f17_5, f0_8, f0_8p, f7_10, f7_10p, g9, g9r, g9w, g11, g11r, g11w, g12, g12r, g12w, g13, g13r, g13w, g14, g14r, g14w, g15, g15r, g15w, g25, g25r, g25w, h5, h5w, h5z, h6, h6w, h6z, h8, h8w, h8z, h21, h21w, h21z, h22, h22w, h22z, h23, h23w, fl10, fl16, fl18, fl20, fl24, g11f, g12f, g13f, g14f, g15f, g25f, cN2, cN10, cN16, cN18, cN19, cN20, cN24, z01, z11, ix1, ix2, nI_add, nI_clamp, vin, true_and, and_true, or_true, true_or, hND.1, ile, brf (show ¬ (FL D nA t q nA).length ≤ m by omega), v_findAt_n hND hFl hml]
      rw [v_isEx b2.1 (by omega) (FL_get hml), bI_br]
      have := ih (m + 1) (by omega)
      refine brc (fun g => ?_) fun g => ?_
      · rw [cnt_t (p := fun k => EXQ D nE q ((FL D nA t q nA).getD k 0)) g] at this; exact this
      · rw [cnt_f (p := fun k => EXQ D nE q ((FL D nA t q nA).getD k 0)) g] at this; exact this
  exact ⟨_, key (FL D nA t q nA).length 0 (by omega)⟩
end
