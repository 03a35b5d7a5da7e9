section
variable {D : Mem} {nA nK nw q k fb ns pf l kn st i s p x : Nat} {t v : Int32} {R : RMem} {I : Mem} {J : Nat → Nat → Int64} {post : Int32 → Pool → Prop} {pst : Pool → Prop}
def FI (D : Mem) (nA : Nat) (t : Int32) (q ns : Nat) (I : Mem) (ix : Nat → Nat) : Prop := ∀ s, s < ns → D 14 (6 * q + s) = 0 → I 10 (rk D q s) = nI (flt (FT D nA t q s) ((byT D nA).take (ix s))).length
def FM (D : Mem) (nA : Nat) (t : Int32) (I : Mem) (m : Nat) : Prop := ∀ f, f < nA → I 16 f = otd D (-1) (frB (bt D nA) (fun x => D 9 x ≤ t ∧ fam D x = f) m)
def BF (D : Mem) (nA : Nat) (t : Int32) (q ns : Nat) (I : Mem) (ix : Nat → Nat) : Prop := ∀ s, s < ns → D 14 (6 * q + s) = 0 → ∀ j, j < ix s → D 9 (bt D nA j) ≤ t → BV D nA t q s (bt D nA j) (I (26 + rk D q s) (bt D nA j))
def SDp (D : Mem) (nA : Nat) (t : Int32) (q pf l : Nat) (I : Mem) (m : Nat) : Prop := ¬ D 19 q = -1 → ∀ v w, v < 31 → w < 31 → I (56 + v) w = otd D (-1000000) (lsB (bt D nA) (fun c => FT D nA t q l c ∧ vl D q c = nI v ∧ D 7 (3 * c + pf) = nI w) m)
def up (s i x : Nat) : Nat := if x < s then i + 1 else i
theorem up_same {i x : Nat} (h : x ≠ s) : up (s + 1) i x = up s i x := by unfold up; have : (x < s + 1) = (x < s) := propext ⟨fun z => by omega, fun z => by omega⟩; simp only [this]
theorem up_at {i : Nat} : up s i s = i ∧ up (s + 1) i s = i + 1 := by unfold up; simp
/-- first, as the class tests it -/
theorem first_ok (hW : WA D nA nw) (hi : i < nA) (hkn : D 9 (bt D nA i) ≤ t) (hFM : FM D nA t I (i + 1)) : (∀ b, b < nA → ¬ (D 9 b ≤ t ∧ alk D (bt D nA i) b ∧ D 8 b < D 8 (bt D nA i))) ↔ D 8 (bt D nA i) ≤ I 16 (fam D (bt D nA i)) := by
  have hb := bt_lt (D := D) hi
  have hf := (@fam_ok D (bt D nA i)).1
  rw [hFM _ (by omega)]
  cases hfr : frB (bt D nA) (fun x => D 9 x ≤ t ∧ fam D x = fam D (bt D nA i)) (i + 1) with
  | none =>
    have : ∀ m, frB (bt D nA) (fun x => D 9 x ≤ t ∧ fam D x = fam D (bt D nA i)) m = none → ∀ j, j < m → ¬ (D 9 (bt D nA j) ≤ t ∧ fam D (bt D nA j) = fam D (bt D nA i)) := by
      intro m
      induction m with
      | zero => intro _ j hj; omega
      | succ m ih =>
        intro h j hj
        unfold frB at h
        cases e3 : frB (bt D nA) (fun x => D 9 x ≤ t ∧ fam D x = fam D (bt D nA i)) m with
        | some z => rw [e3] at h; cases h
        | none =>
          rw [e3] at h
          by_cases e4 : D 9 (bt D nA m) ≤ t ∧ fam D (bt D nA m) = fam D (bt D nA i)
          · simp only [if_pos e4] at h; cases h
          · by_cases e5 : j = m
            · rw [e5]; exact e4
            · exact ih e3 j (by omega)
    exact absurd ⟨hkn, rfl⟩ (this (i + 1) hfr i (by omega))
  | some x =>
    obtain ⟨j, hj, rfl, ⟨h1, h2⟩, h3⟩ := frB_some hfr
    have hjA : j < nA := by omega
    show _ ↔ D 8 (bt D nA i) ≤ D 8 (bt D nA j)
    constructor
    · intro h
      have := h (bt D nA j) (bt_lt hjA)
      apply Decidable.byContradiction
      intro hc
      exact this ⟨h1, alk_sym (fam_eq.mp h2), Int32.not_le.mp hc⟩
    · intro h b hbA ⟨b1, b2, b3⟩
      obtain ⟨jb, hjb, rfl⟩ := bt_at (D := D) hbA
      have h4 : j ≤ jb := by
        apply Decidable.byContradiction
        intro hc
        exact h3 jb (by omega) ⟨b1, fam_eq.mpr (alk_sym b2)⟩
      have h5 := bt_le (D := D) h4 hjb
      exact Int32.not_lt.mpr (Int32.le_trans h h5) b3
theorem FI_f (h : FI D nA t q ns I (up s i)) (hi : i < nA) (hF : ¬ FT D nA t q s (bt D nA i)) : FI D nA t q ns I (up (s + 1) i) := by
  intro s' hs' h0
  have := h s' hs' h0
  by_cases e : s' = s
  · subst e
    rw [up_at.1] at this
    rw [up_at.2, flt_take hi, if_neg hF, List.append_nil]
    exact this
  · rw [up_same e]; exact this
theorem FI_t (h : FI D nA t q ns I (up s i)) (hi : i < nA) (hs : s < ns) (hs0 : D 14 (6 * q + s) = 0) (hF : FT D nA t q s (bt D nA i)) : FI D nA t q ns (p2 I 10 (rk D q s) (I 10 (rk D q s) + 1)) (up (s + 1) i) := by
  intro s' hs' h0
  have := h s' hs' h0
  by_cases e : s' = s
  · subst e
    rw [up_at.1] at this
    rw [up_at.2, flt_take hi, if_pos hF, List.length_append, p2_same, this, ix1]
    rfl
  · rw [up_same e, p2_row (fun z => e (rk_inj h0 hs0 z))]; exact this
theorem SDp_f (h : SDp D nA t q pf l I (up s i l)) (hF : s = l → ¬ FT D nA t q l (bt D nA i)) : SDp D nA t q pf l I (up (s + 1) i l) := by
  intro hn v w hv hw
  have := h hn v w hv hw
  by_cases e : l = s
  · subst e
    rw [up_at.1] at this
    rw [up_at.2, lsB_f (fun z => hF rfl z.1)]
    exact this
  · rw [up_same e]; exact this
theorem SDp_t {a b : Nat} (h : SDp D nA t q pf l I (up s i l)) (hs : s = l) (hF : FT D nA t q l (bt D nA i)) (ha : vl D q (bt D nA i) = nI a) (ha2 : a < 31) (hb : D 7 (3 * bt D nA i + pf) = nI b) (hb2 : b < 31) : SDp D nA t q pf l (p2 I (56 + a) b (D 8 (bt D nA i))) (up (s + 1) i l) := by
  intro hn v w hv hw
  have := h hn v w hv hw
  subst hs
  rw [up_at.1] at this
  rw [up_at.2]
  by_cases e : v = a ∧ w = b
  · obtain ⟨rfl, rfl⟩ := e
    rw [p2_same, lsB_t (P := fun c => FT D nA t q s c ∧ vl D q c = nI v ∧ D 7 (3 * c + pf) = nI w) ⟨hF, ha, hb⟩]
    rfl
  · rw [lsB_f]
    · by_cases e1 : v = a
      · rw [e1, p2_row (fun z => e ⟨e1, z⟩), ← e1]; exact this
      · rw [p2_ne (by omega)]; exact this
    · intro z
      rw [ha, hb] at z
      rw [ieq (by omega) (by omega), ieq (by omega) (by omega)] at z
      exact e ⟨z.2.1.symm, z.2.2.symm⟩
theorem v_reachAt (hX : CX D nA nK nw q k fb ns pf l kn t R I) (hi : i < nA) (hkn : D 9 (bt D nA i) ≤ t) (hst : ∀ j, j < nA → (j < st ↔ D 8 (bt D nA j) < D 8 (bt D nA i))) (hst2 : st ≤ nA) (hLA : LA D nA t q ns I (fun _ => st)) (hLN : LN D nA t q ns I st) (hFM : FM D nA t I (i + 1)) (hFI : FI D nA t q ns I (up s i)) (hSd : SDp D nA t q pf l I (up s i l)) (hs : s < ns) (hs0 : D 14 (6 * q + s) = 0)
    (hp : ∀ v I', BV D nA t q s (bt D nA i) v → FI D nA t q ns I' (up (s + 1) i) → SDp D nA t q pf l I' (up (s + 1) i l) → (∀ c, c ≠ 10 → ¬ (56 ≤ c ∧ c < 87) → I' c = I c) → post v (cp nA nK R I' J)) :
    wX6_reachAt post (some 7) (some (2000 + 8 * k + 2 + s)) (some (1000 + bt D nA i)) (cp nA nK R I J) := by
  have hX0 := hX
  obtain ⟨hW, hQ, hk, hAC, hBT, hl, hQC, h710, h713, hkn0, hknw, h712⟩ := hX
  have hA := hW.1
  have hns : ns ≤ 6 := hQ.1.2.2.2.1
  have hfb : fb < 3 := hQ.1.2.1
  have hpf : pf < 3 := hQ.1.2.2.2.2.2.2.1
  have hb := bt_lt (D := D) hi
  obtain ⟨_, a0, a1, a2, a5, a6, a7, a8⟩ := hAC (bt D nA i) hb
  have hadm := adm_FT0 hAC hQC hb hs
  obtain ⟨q1, q2, q3, q4, q5, q6⟩ := hQC
  obtain ⟨c0, c1, c4, c5, c6, c7⟩ := q6 s hs
  have hrl := rk_le (D := D) (q := q) s
  have hfam := (@fam_ok D (bt D nA i)).1
  have hfo := first_ok hW hi hkn hFM
  have hvl := vl_nI hW hQ hb
  have hby : D 12 q = nI fb := hQ.1.2.2.1
  have hvb := a2 fb hfb
  have hv2 := ((hW.2.2 (bt D nA i) hb).2.2.2.2.1 fb hfb)
  have hFTe : FT D nA t q s (bt D nA i) ↔ FT0 D q s (bt D nA i) ∧ (D 17 (6 * q + s) = 0 ∨ D 8 (bt D nA i) ≤ I 16 (fam D (bt D nA i))) := by
    unfold FT
    rw [hfo]
    exact ⟨fun z => z.2, fun z => ⟨hkn, z⟩⟩
  have hno : ¬ FT D nA t q s (bt D nA i) → post (-2) (cp nA nK R I J) := fun z => hp _ _ (.inl ⟨fun y => z (EN_FT y), rfl⟩) (FI_f hFI hi z) (SDp_f hSd fun e => e ▸ z) (fun _ _ _ => rfl)
  have hyes : FT D nA t q s (bt D nA i) → wX6_reachAt_34 post (some 7) (some (2000 + 8 * k + 2 + s)) (some (1000 + bt D nA i)) (cp nA nK R I J) := by
    intro hF
    have hFI' := FI_t hFI hi hs hs0 hF
    have hlast := rk_s hQ.2.1
    have hl0 := (bfr_lt hQ.2.1)
    -- behind the spread
    have hend : ∀ I', FI D nA t q ns I' (up (s + 1) i) → SDp D nA t q pf l I' (up (s + 1) i l) → (∀ c, c ≠ 10 → ¬ (56 ≤ c ∧ c < 87) → I' c = I c) → wX6_reachAt_108 post (some 7) (some (2000 + 8 * k + 2 + s)) (some (1000 + bt D nA i)) (nI (vv D (bt D nA i) fb)) (cp nA nK R I' J) := by
      intro I' g1 g2 g3
      have hX' : CX D nA nK nw q k fb ns pf l kn t R I' := CX_I hX0 (fun c h1 h2 => g3 c (fun z => h2 (by unfold sw; omega)) (fun z => h2 (by unfold sw; omega))) (by rw [g3 7 (by decide) (by omega)]) (by rw [g3 7 (by decide) (by omega)])
      unfold wX6_reachAt_108
      have e7 : I' (2000 + 8 * k + 2 + s) 7 = nI (rk D q s) := by rw [g3 _ (by omega) (by omega)]; exact c7
      have e5 : I' (1000 + bt D nA i) 5 = D 8 (bt D nA i) := by rw [g3 _ (by omega) (by omega)]; exact a5
      simp (disch := first | decide | omega) only [c_I, c_rc, c_pI, c_pZ, c_aI, c_sI, ca_I, ca_rc, ca_pI, cq_I, cq_rc, cq_pI, cq_R, cq_aR, cs_I, cs_rc, cs_pI, cs_pZ, f0_0, f0_1, f0_2, f0_3, f0_4, f0_5, f0_6, f0_7, f1_0, f3_0, f4_0, f4_1, f7_0, f7_1, f7_2, f7_3, f7_4, f7_5, f7_6, f7_7, f7_8, f7_9, f17_0, f17_1, f17_2, f17_3, f17_4, f17_5, f0_8, f0_8p, f7_10, f7_10p, g9, g9r, g9w, g11, g11r, g11w, g12, g12r, g12w, g13, g13r, g13w, g14, g14r, g14w, g15, g15r, g15w, g25, g25r, g25w, h5, h5w, h5z, h6, h6w, h6z, h8, h8w, h8z, h21, h21w, h21z, h22, h22w, h22z, h23, h23w, fl10, fl16, fl18, fl20, fl24, g11f, g12f, g13f, g14f, g15f, g25f, cN2, cN10, cN16, cN18, cN19, cN20, cN24, z01, z11, ix1, ix2, nI_add, nI_clamp, vin, true_and, and_true, or_true, true_or, e7, e5]
      cases hbf : bfr D q s with
      | none =>
        rw [brt (show nI (rk D q s) = 0 by rw [rk_n hbf]; rfl)]
        exact hp _ _ (.inr ⟨EN_iff.mpr ⟨hs0, hF, fun p hp => by rw [hbf] at hp; cases hp⟩, .inl ⟨hbf, rfl⟩⟩) g1 g2 g3
      | some p =>
        have hr := rk_s hbf
        rw [brf (show ¬ nI (rk D q s) = 0 by rw [show (0 : Int32) = nI 0 from rfl, ieq (by omega) (by decide)]; omega)]
        refine v_ahead hX' hst2 (fun s' h1 h2 w hw => ?_) (fun r w h1 h2 => ?_) hs hs0 hbf hvl.2 (fun x ho ha => ?_) (fun hn => ?_)
        · have hr' := rk_le (D := D) (q := q) s'
          rw [g3 _ (by omega) (by omega), g3 _ (by omega) (by omega)]
          exact hLA s' h1 h2 w hw
        · rw [g3 _ (by omega) (by omega)]
          exact hLN r w h1 h2
        · rw [← hvl.1] at ho ha
          have hbs := AH_ok hW hQ hs hs0 hbf hi hst ho ha
          exact hp _ _ (.inr ⟨EN_iff.mpr ⟨hs0, hF, fun p' hp' => by rw [hbf] at hp'; cases hp'; exact ⟨x, hbs.1, hbs.2.1, hbs.2.2.1⟩⟩, .inr ⟨p, x, hbf, hbs, rfl⟩⟩) g1 g2 g3
        · refine hp _ _ (.inl ⟨fun z => ?_, rfl⟩) g1 g2 g3
          obtain ⟨x, x1, x2⟩ := AH_ex hW hQ hs hs0 hbf hi hst ((EN_iff.mp z).2.2 p hbf)
          rw [hvl.1] at x1 x2
          exact hn x x1 x2
    have f1 : ∀ c, c ≠ 10 → ¬ (56 ≤ c ∧ c < 87) → p2 I 10 (rk D q s) (I 10 (rk D q s) + 1) c = I c := fun c h1 h2 => p2_ne h1
    unfold wX6_reachAt_34
    have e0 : ∀ c, 1000 ≤ c → p2 I 10 (rk D q s) (I 10 (rk D q s) + 1) c = I c := fun c h1 => p2_ne (by omega)
    simp (disch := first | decide | omega) only [c_I, c_rc, c_pI, c_pZ, c_aI, c_sI, ca_I, ca_rc, ca_pI, cq_I, cq_rc, cq_pI, cq_R, cq_aR, cs_I, cs_rc, cs_pI, cs_pZ, f0_0, f0_1, f0_2, f0_3, f0_4, f0_5, f0_6, f0_7, f1_0, f3_0, f4_0, f4_1, f7_0, f7_1, f7_2, f7_3, f7_4, f7_5, f7_6, f7_7, f7_8, f7_9, f17_0, f17_1, f17_2, f17_3, f17_4, f17_5, f0_8, f0_8p, f7_10, f7_10p, g9, g9r, g9w, g11, g11r, g11w, g12, g12r, g12w, g13, g13r, g13w, g14, g14r, g14w, g15, g15r, g15w, g25, g25r, g25w, h5, h5w, h5z, h6, h6w, h6z, h8, h8w, h8z, h21, h21w, h21z, h22, h22w, h22z, h23, h23w, fl10, fl16, fl18, fl20, fl24, g11f, g12f, g13f, g14f, g15f, g25f, cN2, cN10, cN16, cN18, cN19, cN20, cN24, z01, z11, ix1, ix2, nI_add, nI_clamp, vin, true_and, and_true, or_true, true_or, c7, h710, p2_ne, q3, hby, v_valueIn, hvb, hv2.1, q2, q4]
    rw [hlast, ixs _ (by omega), Nat.add_sub_cancel, ieq (by omega) (by have := rk_le (D := D) (q := q) l; omega)]
    refine brc (fun e => ?_) fun e => ?_
    · have hsl := rk_inj hs0 hl0.2 e
      refine brc (fun e2 => ?_) fun e2 => ?_
      · exact hend _ hFI' (fun z => absurd e2 z) f1
      · obtain ⟨w, w1, w2, w3⟩ := hQ.2.2.2.2.2.resolve_left e2
        have hvp := a2 pf hpf
        have hv3 := ((hW.2.2 (bt D nA i) hb).2.2.2.2.1 pf hpf)
        have hvv := hv2.2
        have hvv3 := hv3.2
        simp (disch := first | decide | omega) only [c_I, c_rc, c_pI, c_pZ, c_aI, c_sI, ca_I, ca_rc, ca_pI, cq_I, cq_rc, cq_pI, cq_R, cq_aR, cs_I, cs_rc, cs_pI, cs_pZ, f0_0, f0_1, f0_2, f0_3, f0_4, f0_5, f0_6, f0_7, f1_0, f3_0, f4_0, f4_1, f7_0, f7_1, f7_2, f7_3, f7_4, f7_5, f7_6, f7_7, f7_8, f7_9, f17_0, f17_1, f17_2, f17_3, f17_4, f17_5, f0_8, f0_8p, f7_10, f7_10p, g9, g9r, g9w, g11, g11r, g11w, g12, g12r, g12w, g13, g13r, g13w, g14, g14r, g14w, g15, g15r, g15w, g25, g25r, g25w, h5, h5w, h5z, h6, h6w, h6z, h8, h8w, h8z, h21, h21w, h21z, h22, h22w, h22z, h23, h23w, fl10, fl16, fl18, fl20, fl24, g11f, g12f, g13f, g14f, g15f, g25f, cN2, cN10, cN16, cN18, cN19, cN20, cN24, z01, z11, ix1, ix2, nI_add, nI_clamp, vin, true_and, and_true, or_true, true_or, w1, v_valueIn, p2_ne, hvp, hv3.1, a5]
        refine hend _ ?_ ?_ ?_
        · intro s' h1 h2
          rw [p2_ne (by omega)]
          exact hFI' s' h1 h2
        · have hS' : SDp D nA t q pf l (p2 I 10 (rk D q s) (I 10 (rk D q s) + 1)) (up s i l) := fun g1 v w g2 g3 => by rw [p2_ne (by omega)]; exact hSd g1 v w g2 g3
          refine SDp_t hS' hsl (hsl ▸ hF) hvl.1 hvl.2 hv3.1 hv3.2
        · intro c h1 h2
          rw [p2_ne (by omega), p2_ne h1]
    · refine hend _ hFI' ?_ f1
      have hS' : SDp D nA t q pf l (p2 I 10 (rk D q s) (I 10 (rk D q s) + 1)) (up s i l) := fun g1 v w g2 g3 => by rw [p2_ne (by omega)]; exact hSd g1 v w g2 g3
      exact SDp_f hS' fun z => absurd (by rw [z]) e
  unfold wX6_reachAt wX6_reachAt_31
  simp (disch := first | decide | omega) only [c_I, c_rc, c_pI, c_pZ, c_aI, c_sI, ca_I, ca_rc, ca_pI, cq_I, cq_rc, cq_pI, cq_R, cq_aR, cs_I, cs_rc, cs_pI, cs_pZ, f0_0, f0_1, f0_2, f0_3, f0_4, f0_5, f0_6, f0_7, f1_0, f3_0, f4_0, f4_1, f7_0, f7_1, f7_2, f7_3, f7_4, f7_5, f7_6, f7_7, f7_8, f7_9, f17_0, f17_1, f17_2, f17_3, f17_4, f17_5, f0_8, f0_8p, f7_10, f7_10p, g9, g9r, g9w, g11, g11r, g11w, g12, g12r, g12w, g13, g13r, g13w, g14, g14r, g14w, g15, g15r, g15w, g25, g25r, g25w, h5, h5w, h5z, h6, h6w, h6z, h8, h8w, h8z, h21, h21w, h21z, h22, h22w, h22z, h23, h23w, fl10, fl16, fl18, fl20, fl24, g11f, g12f, g13f, g14f, g15f, g25f, cN2, cN10, cN16, cN18, cN19, cN20, cN24, z01, z11, ix1, ix2, nI_add, nI_clamp, vin, true_and, and_true, or_true, true_or, v_admits, hadm, bI_br, c5, a8, a5]
  refine brc (fun g1 => brc (fun g2 => ?_) fun g2 => ?_) fun g1 => ?_
  · exact hyes (hFTe.mpr ⟨g1, .inl g2⟩)
  · refine brc (fun g3 => ?_) fun g3 => ?_
    · exact hyes (hFTe.mpr ⟨g1, .inr g3⟩)
    · exact hno fun z => (hFTe.mp z).2.elim g2 g3
  · exact hno fun z => g1 (hFTe.mp z).1
end
