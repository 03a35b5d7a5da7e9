section
variable {D : Mem} {nA nK nw q k fb ns pf l kn st j s p x u y m : Nat} {t v : Int32} {R : RMem} {I : Mem} {J : Nat → Nat → Int64} {post : Int32 → Pool → Prop} {pst : Pool → Prop} {pr : Option Nat → Pool → Prop} {F : List Nat} {P : Nat → Prop}
theorem FL_250 (hA : nA ≤ 250) : (FL D nA t q nA).length ≤ 250 := by
  have := FL_len (D := D) (nA := nA) (t := t) (q := q) nA
  omega
theorem v_proofAct {n i : Int32} (hW : WA D nA nw) (hQ : QV D nA q fb ns pf l) (hk : k < nK) (hAC : AC D nA R I) (hQC : QC D q ns I k) (hS : SWR D nA q k ns t R I) (hp : ∀ v, PF D nA t q l (FL D nA t q nA) n i v → post v (cp nA nK R I J)) : wX6_proofAct post (some 7) n i (cp nA nK R I J) := by
  have hA := hW.1
  have hns : ns ≤ 6 := hQ.1.2.2.2.1
  obtain ⟨s1, s2, s3, s4, hFI, hBF, hND⟩ := hS
  have hFl := FL_250 (D := D) (t := t) (q := q) hA
  have hrl := rk_s hQ.2.1
  have hl0 := bfr_lt hQ.2.1
  have hrk := rk_le (D := D) (q := q) l
  unfold wX6_proofAct
  simp (disch := first | decide | omega) only [brT, brF, c_I, c_rc, c_pI, c_pZ, c_aI, c_sI, ca_I, ca_rc, ca_pI, cq_I, cq_rc, cq_pI, cq_R, cq_aR, cs_I, cs_rc, cs_pI, cs_pZ, f0_0, f0_1, f0_2, f0_3, f0_4, f0_5, f0_6, f0_7, f1_0, f3_0, f4_0, f4_1, f7_0, f7_1, f7_2, f7_3, f7_4, f7_5, f7_6, f7_7, f7_8, f7_9, f17_0, f17_1, f17_2, f17_3, f17_4, f17_5, f0_8, f0_8p, f7_10, f7_10p, g9, g9r, g9w, g11, g11r, g11w, g12, g12r, g12w, g13, g13r, g13w, g14, g14r, g14w, g15, g15r, g15w, g25, g25r, g25w, h5, h5w, h5z, h6, h6w, h6z, h8, h8w, h8z, h21, h21w, h21z, h22, h22w, h22z, h23, h23w, fl10, fl16, fl18, fl20, fl24, g11f, g12f, g13f, g14f, g15f, g25f, cN2, cN10, cN16, cN18, cN19, cN20, cN24, z01, z11, ix1, ix2, nI_add, nI_clamp, vin, true_and, and_true, or_true, true_or, v_findAt hND hFl]
  by_cases hn : 0 ≤ n ∧ n < nI (FL D nA t q nA).length
  · rw [if_pos hn]
    obtain ⟨n', hn1, rfl⟩ := nI_of (Int32.not_lt.mpr hn.1)
    have hn2 := hn.2
    rw [ilt hn1 (by omega)] at hn2
    have hfa := FL_get (D := D) (t := t) (q := q) (nA := nA) hn2
    obtain ⟨_, e0, _⟩ := hAC _ hfa
    have hmem : (FL D nA t q nA).getD n' 0 ∈ FL D nA t q nA := by rw [getD_lt hn2]; exact List.getElem_mem hn2
    have hfd := (FD_iff hQ).mp (FL_FD hmem)
    rw [nI_clamp hn1, brf (by simp)]
    have hbad : ¬ (0 ≤ i ∧ i < nI (rk D q l + 1)) → post (-1) (cp nA nK R I J) := fun z => hp _ (by unfold PF; rw [if_neg (fun y => z y.2)])
    simp (disch := first | decide | omega) only [brT, brF, c_I, c_rc, c_pI, c_pZ, c_aI, c_sI, ca_I, ca_rc, ca_pI, cq_I, cq_rc, cq_pI, cq_R, cq_aR, cs_I, cs_rc, cs_pI, cs_pZ, f0_0, f0_1, f0_2, f0_3, f0_4, f0_5, f0_6, f0_7, f1_0, f3_0, f4_0, f4_1, f7_0, f7_1, f7_2, f7_3, f7_4, f7_5, f7_6, f7_7, f7_8, f7_9, f17_0, f17_1, f17_2, f17_3, f17_4, f17_5, f0_8, f0_8p, f7_10, f7_10p, g9, g9r, g9w, g11, g11r, g11w, g12, g12r, g12w, g13, g13r, g13w, g14, g14r, g14w, g15, g15r, g15w, g25, g25r, g25w, h5, h5w, h5z, h6, h6w, h6z, h8, h8w, h8z, h21, h21w, h21z, h22, h22w, h22z, h23, h23w, fl10, fl16, fl18, fl20, fl24, g11f, g12f, g13f, g14f, g15f, g25f, cN2, cN10, cN16, cN18, cN19, cN20, cN24, z01, z11, ix1, ix2, nI_add, nI_clamp, vin, true_and, and_true, or_true, true_or, s4, hQC.2.1]
    refine brc (fun g => hbad fun z => Int32.not_le.mpr g z.1) fun g => brc (fun g2 => ?_) fun g2 => hbad fun z => g2 (by rw [hrl]; exact z.2)
    obtain ⟨m, hm, rfl⟩ := nI_of g
    have g3 := g2
    rw [hrl] at g3
    rw [ilt hm (by omega)] at g2
    have key : ∀ d r s x, r = m + d → r ≤ rk D q l → rk D q s = r → CH D nA t q l ((FL D nA t q nA).getD n' 0) (rk D q l - r) s x → EN D nA t q s x → x < nA → s < ns → wX6_proofAct_44 post (d + 1) (some 7) (nI m) (nI x) (nI r) (cp nA nK R I J) := by
      intro d
      induction d with
      | zero =>
        intro r s x h1 h2 h3 h4 h5 h6 h7
        have e : r = m := by omega
        subst e
        unfold wX6_proofAct_44
        simp (disch := first | decide | omega) only [ile, brt (show r ≤ r by omega)]
        refine hp _ ?_
        unfold PF
        rw [if_pos ⟨hn, Int32.not_lt.mp g, g3⟩, nI_clamp hn1, nI_clamp hm]
        exact ⟨s, x, h4, rfl⟩
      | succ d ih =>
        intro r s x h1 h2 h3 h4 h5 h6 h7
        have hs0 := (EN_iff.mp h5).1
        obtain ⟨jx, hjx, ejx⟩ := bt_at (D := D) h6
        have hbv := hBF s h7 hs0 jx hjx (by rw [ejx]; exact EN_kn h5)
        rw [ejx, h3] at hbv
        have hnot : ¬ r ≤ m := by omega
        unfold wX6_proofAct_44
        simp (disch := first | decide | omega) only [ile, brf hnot, llt0, brT, brF, c_I, c_rc, c_pI, c_pZ, c_aI, c_sI, ca_I, ca_rc, ca_pI, cq_I, cq_rc, cq_pI, cq_R, cq_aR, cs_I, cs_rc, cs_pI, cs_pZ, f0_0, f0_1, f0_2, f0_3, f0_4, f0_5, f0_6, f0_7, f1_0, f3_0, f4_0, f4_1, f7_0, f7_1, f7_2, f7_3, f7_4, f7_5, f7_6, f7_7, f7_8, f7_9, f17_0, f17_1, f17_2, f17_3, f17_4, f17_5, f0_8, f0_8p, f7_10, f7_10p, g9, g9r, g9w, g11, g11r, g11w, g12, g12r, g12w, g13, g13r, g13w, g14, g14r, g14w, g15, g15r, g15w, g25, g25r, g25w, h5, h5w, h5z, h6, h6w, h6z, h8, h8w, h8z, h21, h21w, h21z, h22, h22w, h22z, h23, h23w, fl10, fl16, fl18, fl20, fl24, g11f, g12f, g13f, g14f, g15f, g25f, cN2, cN10, cN16, cN18, cN19, cN20, cN24, z01, z11, ix1, ix2, nI_add, nI_clamp, vin, true_and, and_true, or_true, true_or]
        rcases hbv with ⟨z, _⟩ | ⟨_, ⟨z, _⟩ | ⟨p, y, hb1, hb2, hb3⟩⟩
        · exact absurd h5 z
        · have := rk_n z; omega
        · rw [hb3, ixm r (by omega)]
          have hrp := rk_s hb1
          have hpl := bfr_lt hb1
          refine ih (r - 1) p y (by omega) (by omega) (by omega) ?_ hb2.2.1 hb2.1 (by omega)
          rw [show rk D q l - (r - 1) = (rk D q l - r) + 1 by omega]
          exact ⟨s, x, h4, hb1, hb2⟩
    simp (disch := first | decide | omega) only [brT, brF, c_I, c_rc, c_pI, c_pZ, c_aI, c_sI, ca_I, ca_rc, ca_pI, cq_I, cq_rc, cq_pI, cq_R, cq_aR, cs_I, cs_rc, cs_pI, cs_pZ, f0_0, f0_1, f0_2, f0_3, f0_4, f0_5, f0_6, f0_7, f1_0, f3_0, f4_0, f4_1, f7_0, f7_1, f7_2, f7_3, f7_4, f7_5, f7_6, f7_7, f7_8, f7_9, f17_0, f17_1, f17_2, f17_3, f17_4, f17_5, f0_8, f0_8p, f7_10, f7_10p, g9, g9r, g9w, g11, g11r, g11w, g12, g12r, g12w, g13, g13r, g13w, g14, g14r, g14w, g15, g15r, g15w, g25, g25r, g25w, h5, h5w, h5z, h6, h6w, h6z, h8, h8w, h8z, h21, h21w, h21z, h22, h22w, h22z, h23, h23w, fl10, fl16, fl18, fl20, fl24, g11f, g12f, g13f, g14f, g15f, g25f, cN2, cN10, cN16, cN18, cN19, cN20, cN24, z01, z11, ix1, ix2, nI_add, nI_clamp, vin, true_and, and_true, or_true, true_or, e0, s4, hQC.2.1]
    rw [hrl, ixs _ (by omega), Nat.add_sub_cancel]
    refine ⟨_, key (rk D q l - m) (rk D q l) l _ (by omega) (Nat.le_refl _) rfl ?_ hfd.1.1 hfa hl0.1⟩
    rw [Nat.sub_self]
    exact ⟨rfl, rfl⟩
  · rw [if_neg hn]
    exact hp _ (by unfold PF; rw [if_neg (fun y => hn y.1)])
theorem rk_surj : ∀ {n r : Nat}, r < rk D q n → ∃ s, s < n ∧ D 14 (6 * q + s) = 0 ∧ rk D q s = r := by
  intro n
  induction n with
  | zero => intro r h; exact absurd h (Nat.not_lt_zero _)
  | succ n ih =>
    intro r h
    by_cases e : D 14 (6 * q + n) = 0
    · rw [rk_t e] at h
      by_cases e2 : r = rk D q n
      · exact ⟨n, by omega, e, e2.symm⟩
      · obtain ⟨s, h1, h2⟩ := ih (show r < rk D q n by omega)
        exact ⟨s, by omega, h2⟩
    · rw [rk_f e] at h
      obtain ⟨s, h1, h2⟩ := ih h
      exact ⟨s, by omega, h2⟩
theorem CO_one {v w : Int32} (h1 : CO D nA t q ns v) (h2 : CO D nA t q ns w) : v = w := by
  obtain ⟨⟨s, a1, a2, rfl⟩, a3⟩ := h1
  obtain ⟨⟨s', b1, b2, rfl⟩, b3⟩ := h2
  have c1 := a3 s' b1 b2
  have c2 := b3 s a1 a2
  rw [← Int32.toInt_inj]
  rw [Int32.le_iff_toInt_le] at c1 c2
  omega
theorem v_fewest (hW : WA D nA nw) (hQ : QV D nA q fb ns pf l) (hk : k < nK) (hQC : QC D q ns I k) (hS : SWR D nA q k ns t R I) (hp : ∀ v, CO D nA t q ns v → post v (cp nA nK R I J)) : wX6_fewestFits post (some 7) (cp nA nK R I J) := by
  have hA := hW.1
  have hns : ns ≤ 6 := hQ.1.2.2.2.1
  obtain ⟨s1, s2, s3, s4, hFI, hBF, hND⟩ := hS
  have hrk := rk_le (D := D) (q := q) ns
  have hrl := rk_s hQ.2.1
  have hfi : ∀ s, s < ns → D 14 (6 * q + s) = 0 → I 10 (rk D q s) = nI (cnt (FT D nA t q s) nA) := fun s h1 h2 => by
    rw [hFI s h1 h2, flt_all, flt_cnt]
  have key : ∀ d r x, rk D q ns = r + d → x ≤ 250 → (r = 0 → x = 250) → (0 < r → ∃ s, s < ns ∧ D 14 (6 * q + s) = 0 ∧ x = cnt (FT D nA t q s) nA) → (∀ s, s < ns → D 14 (6 * q + s) = 0 → rk D q s < r → x ≤ cnt (FT D nA t q s) nA) → wX6_fewestFits_6 post (d + 1) (some 7) (nI x) (nI r) (cp nA nK R I J) := by
    intro d
    induction d with
    | zero =>
      intro r x h1 h2 h3 h4 h5
      unfold wX6_fewestFits_6
      simp (disch := first | decide | omega) only [brT, brF, c_I, c_rc, c_pI, c_pZ, c_aI, c_sI, ca_I, ca_rc, ca_pI, cq_I, cq_rc, cq_pI, cq_R, cq_aR, cs_I, cs_rc, cs_pI, cs_pZ, f0_0, f0_1, f0_2, f0_3, f0_4, f0_5, f0_6, f0_7, f1_0, f3_0, f4_0, f4_1, f7_0, f7_1, f7_2, f7_3, f7_4, f7_5, f7_6, f7_7, f7_8, f7_9, f17_0, f17_1, f17_2, f17_3, f17_4, f17_5, f0_8, f0_8p, f7_10, f7_10p, g9, g9r, g9w, g11, g11r, g11w, g12, g12r, g12w, g13, g13r, g13w, g14, g14r, g14w, g15, g15r, g15w, g25, g25r, g25w, h5, h5w, h5z, h6, h6w, h6z, h8, h8w, h8z, h21, h21w, h21z, h22, h22w, h22z, h23, h23w, fl10, fl16, fl18, fl20, fl24, g11f, g12f, g13f, g14f, g15f, g25f, cN2, cN10, cN16, cN18, cN19, cN20, cN24, z01, z11, ix1, ix2, nI_add, nI_clamp, vin, true_and, and_true, or_true, true_or, s4, hQC.2.1, ile, brt (show rk D q ns ≤ r by omega)]
      obtain ⟨s, a1, a2, a3⟩ := h4 (by omega)
      refine hp _ ⟨⟨s, a1, a2, by rw [a3]⟩, fun s' b1 b2 => ?_⟩
      have hc := cnt_le (FT D nA t q s') nA
      rw [ile (by omega) (by omega)]
      refine h5 s' b1 b2 ?_
      have := rk_mono (D := D) (q := q) (show s' + 1 ≤ ns by omega)
      rw [rk_t b2] at this
      omega
    | succ d ih =>
      intro r x h1 h2 h3 h4 h5
      obtain ⟨s, a1, a2, a3⟩ := rk_surj (D := D) (q := q) (n := ns) (r := r) (by omega)
      have hf := hfi s a1 a2
      have hc := cnt_le (FT D nA t q s) nA
      rw [a3] at hf
      unfold wX6_fewestFits_6
      simp (disch := first | decide | omega) only [brT, brF, c_I, c_rc, c_pI, c_pZ, c_aI, c_sI, ca_I, ca_rc, ca_pI, cq_I, cq_rc, cq_pI, cq_R, cq_aR, cs_I, cs_rc, cs_pI, cs_pZ, f0_0, f0_1, f0_2, f0_3, f0_4, f0_5, f0_6, f0_7, f1_0, f3_0, f4_0, f4_1, f7_0, f7_1, f7_2, f7_3, f7_4, f7_5, f7_6, f7_7, f7_8, f7_9, f17_0, f17_1, f17_2, f17_3, f17_4, f17_5, f0_8, f0_8p, f7_10, f7_10p, g9, g9r, g9w, g11, g11r, g11w, g12, g12r, g12w, g13, g13r, g13w, g14, g14r, g14w, g15, g15r, g15w, g25, g25r, g25w, h5, h5w, h5z, h6, h6w, h6z, h8, h8w, h8z, h21, h21w, h21z, h22, h22w, h22z, h23, h23w, fl10, fl16, fl18, fl20, fl24, g11f, g12f, g13f, g14f, g15f, g25f, cN2, cN10, cN16, cN18, cN19, cN20, cN24, z01, z11, ix1, ix2, nI_add, nI_clamp, vin, true_and, and_true, or_true, true_or, s4, hQC.2.1, ile, brf (show ¬ rk D q ns ≤ r by omega), hf, ilt]
      have hin : ∀ s', s' < ns → D 14 (6 * q + s') = 0 → rk D q s' < r + 1 → s' = s ∨ rk D q s' < r := fun s' b1 b2 b3 => by
        by_cases e : rk D q s' = r
        · exact .inl (rk_inj b2 a2 (e.trans a3.symm))
        · exact .inr (by omega)
      by_cases e : cnt (FT D nA t q s) nA < x
      · rw [if_pos e]
        refine ih (r + 1) _ (by omega) (by omega) (fun z => by omega) (fun _ => ⟨s, a1, a2, rfl⟩) fun s' b1 b2 b3 => ?_
        rcases hin s' b1 b2 b3 with rfl | h
        · exact Nat.le_refl _
        · have := h5 s' b1 b2 h; omega
      · rw [if_neg e]
        refine ih (r + 1) x (by omega) h2 (fun z => by omega) (fun _ => ?_) fun s' b1 b2 b3 => ?_
        · by_cases e2 : r = 0
          · have := h3 e2
            exact ⟨s, a1, a2, by omega⟩
          · exact h4 (by omega)
        · rcases hin s' b1 b2 b3 with rfl | h
          · omega
          · exact h5 s' b1 b2 h
  unfold wX6_fewestFits
  exact ⟨_, key (rk D q ns) 0 250 (by omega) (Nat.le_refl _) (fun _ => rfl) (fun z => by omega) fun s _ _ z => by omega⟩
theorem v_widest (hW : WA D nA nw) (hAC : AC D nA R I) (hND : NDs F R I) (hF : F.length ≤ 250) (hFA : ∀ x, x < F.length → F.getD x 0 < nA) (hp : post (wst (fun f => fvs D F f F.length) 3).1 (cp nA nK R I J)) : wX6_widestField post (some 7) (cp nA nK R I J) := by
  have hA := hW.1
  have hc31 : ∀ f, fvs D F f F.length ≤ 31 := fun f => cnt_le _ 31
  have hwl := wst_le hc31
  have inner : ∀ (K : Option Nat → Int32 → Int32 → Int32 → Pool → Prop) (f : Nat) (best most : Int32), f < 3 → (br (nI (fvs D F f F.length) ≤ most) (K (some 7) best most (nI (f + 1)) (cp nA nK R I J)) (K (some 7) (nI f) (nI (fvs D F f F.length)) (nI (f + 1)) (cp nA nK R I J))) → ∀ k' m x, F.length = m + k' → (∀ v, v < 31 → (btt x v = true ↔ ∃ k, k < m ∧ D 7 (3 * F.getD k 0 + f) = nI v)) → btt x 31 = false → wX6_widestField_17 K post (k' + 1) (some 7) best most (nI f) x (nI m) (cp nA nK R I J) := by
    intro K f best most hf hK k'
    induction k' with
    | zero =>
      intro m x hm hb h31
      have e : m = F.length := by omega
      subst e
      unfold wX6_widestField_17 wX6_widestField_67
      have ec : cnt (fun i => btt x i = true) 32 = fvs D F f F.length := by
        rw [cnt_f (p := fun i => btt x i = true) (n := 31) (by rw [h31]; simp)]
        unfold fvs
        exact cnt_cong hb
      simp (disch := first | decide | omega) only [brT, brF, c_I, c_rc, c_pI, c_pZ, c_aI, c_sI, ca_I, ca_rc, ca_pI, cq_I, cq_rc, cq_pI, cq_R, cq_aR, cs_I, cs_rc, cs_pI, cs_pZ, f0_0, f0_1, f0_2, f0_3, f0_4, f0_5, f0_6, f0_7, f1_0, f3_0, f4_0, f4_1, f7_0, f7_1, f7_2, f7_3, f7_4, f7_5, f7_6, f7_7, f7_8, f7_9, f17_0, f17_1, f17_2, f17_3, f17_4, f17_5, f0_8, f0_8p, f7_10, f7_10p, g9, g9r, g9w, g11, g11r, g11w, g12, g12r, g12w, g13, g13r, g13w, g14, g14r, g14w, g15, g15r, g15w, g25, g25r, g25w, h5, h5w, h5z, h6, h6w, h6z, h8, h8w, h8z, h21, h21w, h21z, h22, h22w, h22z, h23, h23w, fl10, fl16, fl18, fl20, fl24, g11f, g12f, g13f, g14f, g15f, g25f, cN2, cN10, cN16, cN18, cN19, cN20, cN24, z01, z11, ix1, ix2, nI_add, nI_clamp, vin, true_and, and_true, or_true, true_or, hND.1, ile, brt (Nat.le_refl F.length), v_bits, ec]
      exact hK
    | succ k' ih =>
      intro m x hm hb h31
      have hml : m < F.length := by omega
      have hfa := hFA m hml
      obtain ⟨_, e0, _, e3, _⟩ := hAC _ hfa
      have ev := e3 f hf
      have hv := (hW.2.2 _ hfa).2.2.2.2.1 f hf
      have hfs := fvs_s (F := F) (f := f) (j := m) hv.2 hv.1 hb
      unfold wX6_widestField_17
      simp (disch := first | decide | omega) only [brT, brF, c_I, c_rc, c_pI, c_pZ, c_aI, c_sI, ca_I, ca_rc, ca_pI, cq_I, cq_rc, cq_pI, cq_R, cq_aR, cs_I, cs_rc, cs_pI, cs_pZ, f0_0, f0_1, f0_2, f0_3, f0_4, f0_5, f0_6, f0_7, f1_0, f3_0, f4_0, f4_1, f7_0, f7_1, f7_2, f7_3, f7_4, f7_5, f7_6, f7_7, f7_8, f7_9, f17_0, f17_1, f17_2, f17_3, f17_4, f17_5, f0_8, f0_8p, f7_10, f7_10p, g9, g9r, g9w, g11, g11r, g11w, g12, g12r, g12w, g13, g13r, g13w, g14, g14r, g14w, g15, g15r, g15w, g25, g25r, g25w, h5, h5w, h5z, h6, h6w, h6z, h8, h8w, h8z, h21, h21w, h21z, h22, h22w, h22z, h23, h23w, fl10, fl16, fl18, fl20, fl24, g11f, g12f, g13f, g14f, g15f, g25f, cN2, cN10, cN16, cN18, cN19, cN20, cN24, z01, z11, ix1, ix2, nI_add, nI_clamp, vin, true_and, and_true, or_true, true_or, hND.1, ile, brf (show ¬ F.length ≤ m by omega), hND.2 m hml, v_valueIn, ev, hv.1]
      refine ih (m + 1) _ (by omega) hfs.2 ?_
      rw [b_set x (by decide) (by have := hv.2; omega), h31]
      rw [decide_eq_false (show ¬ vv D (F.getD m 0) f = 31 by have := hv.2; omega)]
      rfl
  have key : ∀ k' f, 3 = f + k' → wX6_widestField_6 post (k' + 1) (some 7) (wst (fun f => fvs D F f F.length) f).1 (nI (wst (fun f => fvs D F f F.length) f).2) (nI f) (cp nA nK R I J) := by
    intro k'
    induction k' with
    | zero =>
      intro f hf
      have e : f = 3 := by omega
      subst e
      unfold wX6_widestField_6
      rw [brt (by decide)]
      exact hp
    | succ k' ih =>
      intro f hf
      have h3 : ¬ (3 : Int32) ≤ nI f := by rw [l3le (by omega)]; omega
      unfold wX6_widestField_6
      rw [brf h3]
      refine ⟨_, inner _ f _ _ (by omega) ?_ F.length 0 0 (by omega) (fun v hv => ?_) (b_zero 31)⟩
      · have h1 := hwl f
        have h2 := hc31 f
        have := ih (f + 1) (by omega)
        rw [wst] at this
        rw [ile (by omega) (by omega)]
        refine brc (fun g => ?_) fun g => ?_
        · rw [if_neg (by omega)] at this; exact this
        · rw [if_pos (by omega)] at this; exact this
      · rw [b_zero]
        exact ⟨fun z => (by cases z), fun ⟨k, hk, _⟩ => by omega⟩
  unfold wX6_widestField
  exact ⟨_, key 3 0 (by omega)⟩
end
