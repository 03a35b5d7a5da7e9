section
variable {D : Mem} {nA nK nw q k fb ns pf l kn st i j s p x n u y m : Nat} {t v : Int32} {R : RMem} {I : Mem} {J : Nat → Nat → Int64} {post : Int32 → Pool → Prop} {pst : Pool → Prop} {pr : Option Nat → Pool → Prop} {F : List Nat} {P : Nat → Prop}
/-- the sweep's state is that of q at t -/
def SWR (D : Mem) (nA q k ns : Nat) (t : Int32) (R : RMem) (I : Mem) : Prop := I 7 11 = nI q ∧ I 7 12 = t ∧ I 7 14 = nI nA ∧ R 7 10 = some (2000 + 8 * k) ∧ SA D nA t q ns R I (FL D nA t q nA)
/-- the frame of goOver -/
def FRG (R : RMem) (I : Mem) (R' : RMem) (I' : Mem) : Prop := (∀ c, c ≠ 7 → ¬ sw c → I' c = I c) ∧ ∀ c, c ≠ 7 → c ≠ 8 → R' c = R c
theorem FRG_rfl : FRG R I R I := ⟨fun _ _ _ => rfl, fun _ _ _ => rfl⟩
theorem FRG_trans {R' R'' : RMem} {I' I'' : Mem} (h : FRG R I R' I') (h' : FRG R' I' R'' I'') : FRG R I R'' I'' := ⟨fun c a b => (h'.1 c a b).trans (h.1 c a b), fun c a b => (h'.2 c a b).trans (h.2 c a b)⟩
theorem v_goOver (hW : WA D nA nw) (hQ : QV D nA q fb ns pf l) (hk : k < nK) (hAC : AC D nA R I) (hBT : BT D nA R) (hl : I 4 2 = nI nA) (hQC : QC D q ns I k)
    (hc : I 7 11 = nI q → I 7 12 = t → I 7 14 = nI nA → SWR D nA q k ns t R I)
    (hp : ∀ R' I', FRG R I R' I' → SWR D nA q k ns t R' I' → pst (cp nA nK R' I' J)) : wX6_goOver pst (some 7) (some (2000 + 8 * k)) (nI q) t (cp nA nK R I J) := by
  have hA := hW.1
  have h31 : wX6_goOver_31 pst (some 7) (some (2000 + 8 * k)) (nI q) t (cp nA nK R I J) := by
    unfold wX6_goOver_31
    simp (disch := first | decide | omega) only [brT, brF, c_I, c_rc, c_pI, c_pZ, c_aI, c_sI, ca_I, ca_rc, ca_pI, cq_I, cq_rc, cq_pI, cq_R, cq_aR, cs_I, cs_rc, cs_pI, cs_pZ, f0_0, f0_1, f0_2, f0_3, f0_4, f0_5, f0_6, f0_7, f1_0, f3_0, f4_0, f4_1, f7_0, f7_1, f7_2, f7_3, f7_4, f7_5, f7_6, f7_7, f7_8, f7_9, f17_0, f17_1, f17_2, f17_3, f17_4, f17_5, f0_8, f0_8p, f7_10, f7_10p, g9, g9r, g9w, g11, g11r, g11w, g12, g12r, g12w, g13, g13r, g13w, g14, g14r, g14w, g15, g15r, g15w, g25, g25r, g25w, h5, h5w, h5z, h6, h6w, h6z, h8, h8w, h8z, h21, h21w, h21z, h22, h22w, h22z, h23, h23w, fl10, fl16, fl18, fl20, fl24, g11f, g12f, g13f, g14f, g15f, g25f, cN2, cN10, cN16, cN18, cN19, cN20, cN24, z01, z11, ix1, ix2, nI_add, nI_clamp, vin, true_and, and_true, or_true, true_or, p2_ne, hl]
    have hAC1 : ∀ I', (∀ c, c ≠ 7 → I' c = I c) → AC D nA (p2 R 7 10 (some (2000 + 8 * k))) I' := fun I' h => AC_cg (fun c h1 h2 => h c (by omega)) hA (p2_ne (by decide)) hAC
    have hI3 : ∀ c, c ≠ 7 → p2 (p2 (p2 I 7 11 (nI q)) 7 12 t) 7 14 (nI nA) c = I c := fun c hc => by rw [p2_ne hc, p2_ne hc, p2_ne hc]
    refine v_known hW (hAC1 _ hI3) (by rw [hI3 4 (by decide)]; exact hl) fun kn hkn hknw => ?_
    simp (disch := first | decide | omega) only [brT, brF, c_I, c_rc, c_pI, c_pZ, c_aI, c_sI, ca_I, ca_rc, ca_pI, cq_I, cq_rc, cq_pI, cq_R, cq_aR, cs_I, cs_rc, cs_pI, cs_pZ, f0_0, f0_1, f0_2, f0_3, f0_4, f0_5, f0_6, f0_7, f1_0, f3_0, f4_0, f4_1, f7_0, f7_1, f7_2, f7_3, f7_4, f7_5, f7_6, f7_7, f7_8, f7_9, f17_0, f17_1, f17_2, f17_3, f17_4, f17_5, f0_8, f0_8p, f7_10, f7_10p, g9, g9r, g9w, g11, g11r, g11w, g12, g12r, g12w, g13, g13r, g13w, g14, g14r, g14w, g15, g15r, g15w, g25, g25r, g25w, h5, h5w, h5z, h6, h6w, h6z, h8, h8w, h8z, h21, h21w, h21z, h22, h22w, h22z, h23, h23w, fl10, fl16, fl18, fl20, fl24, g11f, g12f, g13f, g14f, g15f, g25f, cN2, cN10, cN16, cN18, cN19, cN20, cN24, z01, z11, ix1, ix2, nI_add, nI_clamp, vin, true_and, and_true, or_true, true_or]
    have hX : CX D nA nK nw q k fb ns pf l kn t (p2 R 7 10 (some (2000 + 8 * k))) (p2 (p2 (p2 (p2 I 7 11 (nI q)) 7 12 t) 7 14 (nI nA)) 7 13 (nI kn)) := by
      have hI4 : ∀ c, c ≠ 7 → p2 (p2 (p2 (p2 I 7 11 (nI q)) 7 12 t) 7 14 (nI nA)) 7 13 (nI kn) c = I c := fun c hc => by rw [p2_ne hc]; exact hI3 c hc
      refine ⟨hW, hQ, hk, hAC1 _ hI4, fun j hj => by rw [p2_ne (by decide)]; exact hBT j hj, by rw [hI4 4 (by decide)]; exact hl, QC_cg (fun c hc => hI4 c (by omega)) hQC, p2_same, p2_same, hkn, hknw, ?_⟩
      rw [p2_row (by decide), p2_row (by decide), p2_same]
    refine v_clear hX fun I' b1 b2 => ?_
    refine ⟨_, v_go79 (R0 := p2 R 7 10 (some (2000 + 8 * k))) (I0 := p2 (p2 (p2 (p2 I 7 11 (nI q)) 7 12 t) 7 14 (nI nA)) 7 13 (nI kn)) (fun R' I' d0 d1 d2 => v_drop d0 d2 fun R'' I'' e1 e2 => ?_) nA 0 0 _ I' (by omega) ⟨Nat.le_refl _, by omega, fun j h1 h2 => by omega, fun j h1 h2 => by omega⟩ (CX_frm hX b1) b1 b2⟩
    have hfr := FRM_trans d1 e1
    refine hp R'' I'' ⟨fun c h1 h2 => ?_, fun c h1 h2 => ?_⟩ ⟨?_, ?_, ?_, ?_, e2⟩
    · rw [hfr.1 c h1 h2, p2_ne h1, p2_ne h1, p2_ne h1, p2_ne h1]
    · rw [hfr.2.2 c h2, p2_ne h1]
    · rw [hfr.2.1 11 (by decide), p2_row (by decide), p2_row (by decide), p2_row (by decide), p2_same]
    · rw [hfr.2.1 12 (by decide), p2_row (by decide), p2_row (by decide), p2_same]
    · rw [hfr.2.1 14 (by decide), p2_row (by decide), p2_same]
    · rw [hfr.2.2 7 (by decide), p2_same]
  unfold wX6_goOver
  simp (disch := first | decide | omega) only [brT, brF, c_I, c_rc, c_pI, c_pZ, c_aI, c_sI, ca_I, ca_rc, ca_pI, cq_I, cq_rc, cq_pI, cq_R, cq_aR, cs_I, cs_rc, cs_pI, cs_pZ, f0_0, f0_1, f0_2, f0_3, f0_4, f0_5, f0_6, f0_7, f1_0, f3_0, f4_0, f4_1, f7_0, f7_1, f7_2, f7_3, f7_4, f7_5, f7_6, f7_7, f7_8, f7_9, f17_0, f17_1, f17_2, f17_3, f17_4, f17_5, f0_8, f0_8p, f7_10, f7_10p, g9, g9r, g9w, g11, g11r, g11w, g12, g12r, g12w, g13, g13r, g13w, g14, g14r, g14w, g15, g15r, g15w, g25, g25r, g25w, h5, h5w, h5z, h6, h6w, h6z, h8, h8w, h8z, h21, h21w, h21z, h22, h22w, h22z, h23, h23w, fl10, fl16, fl18, fl20, fl24, g11f, g12f, g13f, g14f, g15f, g25f, cN2, cN10, cN16, cN18, cN19, cN20, cN24, z01, z11, ix1, ix2, nI_add, nI_clamp, vin, true_and, and_true, or_true, true_or, hl]
  refine brc (fun g1 => brc (fun g2 => brc (fun g3 => ?_) fun g3 => h31) fun g2 => h31) fun g1 => h31
  exact hp R I FRG_rfl (hc g1.symm g2.symm g3.symm)
theorem v_findAt (h : NDs F R I) (hF : F.length ≤ 250) : wX6_findAt pr (some 7) v (cp nA nK R I J) = if 0 ≤ v ∧ v < nI F.length then pr (some (1000 + F.getD v.toNatClampNeg 0)) (cp nA nK R I J) else pr none (cp nA nK R I J) := by
  unfold wX6_findAt wX6_findAt_21
  simp (disch := first | decide | omega) only [brT, brF, c_I, c_rc, c_pI, c_pZ, c_aI, c_sI, ca_I, ca_rc, ca_pI, cq_I, cq_rc, cq_pI, cq_R, cq_aR, cs_I, cs_rc, cs_pI, cs_pZ, f0_0, f0_1, f0_2, f0_3, f0_4, f0_5, f0_6, f0_7, f1_0, f3_0, f4_0, f4_1, f7_0, f7_1, f7_2, f7_3, f7_4, f7_5, f7_6, f7_7, f7_8, f7_9, f17_0, f17_1, f17_2, f17_3, f17_4, f17_5, f0_8, f0_8p, f7_10, f7_10p, g9, g9r, g9w, g11, g11r, g11w, g12, g12r, g12w, g13, g13r, g13w, g14, g14r, g14w, g15, g15r, g15w, g25, g25r, g25w, h5, h5w, h5z, h6, h6w, h6z, h8, h8w, h8z, h21, h21w, h21z, h22, h22w, h22z, h23, h23w, fl10, fl16, fl18, fl20, fl24, g11f, g12f, g13f, g14f, g15f, g25f, cN2, cN10, cN16, cN18, cN19, cN20, cN24, z01, z11, ix1, ix2, nI_add, nI_clamp, vin, true_and, and_true, or_true, true_or, h.1, br_if]
  by_cases h1 : v < 0
  · rw [if_pos h1, if_neg (fun z => Int32.not_le.mpr h1 z.1)]
  · rw [if_neg h1]
    by_cases h2 : nI F.length ≤ v
    · rw [if_pos h2, if_neg (fun z => Int32.not_le.mpr z.2 h2)]
    · rw [if_neg h2, if_pos ⟨Int32.not_lt.mp h1, Int32.not_le.mp h2⟩]
      obtain ⟨m, hm, rfl⟩ := nI_of h1
      rw [ile (by omega) hm] at h2
      simp (disch := first | decide | omega) only [vin, true_and, nI_clamp, h.2 m (by omega)]
theorem v_findAt_n (h : NDs F R I) (hF : F.length ≤ 250) (hn : n < F.length) : wX6_findAt pr (some 7) (nI n) (cp nA nK R I J) = pr (some (1000 + F.getD n 0)) (cp nA nK R I J) := by
  rw [v_findAt h hF, if_pos ⟨nI_pos' (by omega), by rw [ilt (by omega) (by omega)]; exact hn⟩, nI_clamp (by omega)]
theorem v_isFind (hA : nA ≤ 250) (hAC : AC D nA R I) (h : NDs F R I) (hF : F.length ≤ 250) (hFA : ∀ x, x ∈ F → x < nA) (hx : x < nA) (hp : post (bI (x ∈ F)) (cp nA nK R I J)) : wX6_isFind post (some 7) (some (1000 + x)) (cp nA nK R I J) := by
  have key : ∀ k' m, F.length = m + k' → (∀ j, j < m → F.getD j 0 ≠ x) → wX6_isFind_2 post (k' + 1) (some 7) (some (1000 + x)) (nI m) (cp nA nK R I J) := by
    intro k'
    induction k' with
    | zero =>
      intro m hm hn
      unfold wX6_isFind_2
      simp (disch := first | decide | omega) only [brT, brF, c_I, c_rc, c_pI, c_pZ, c_aI, c_sI, ca_I, ca_rc, ca_pI, cq_I, cq_rc, cq_pI, cq_R, cq_aR, cs_I, cs_rc, cs_pI, cs_pZ, f0_0, f0_1, f0_2, f0_3, f0_4, f0_5, f0_6, f0_7, f1_0, f3_0, f4_0, f4_1, f7_0, f7_1, f7_2, f7_3, f7_4, f7_5, f7_6, f7_7, f7_8, f7_9, f17_0, f17_1, f17_2, f17_3, f17_4, f17_5, f0_8, f0_8p, f7_10, f7_10p, g9, g9r, g9w, g11, g11r, g11w, g12, g12r, g12w, g13, g13r, g13w, g14, g14r, g14w, g15, g15r, g15w, g25, g25r, g25w, h5, h5w, h5z, h6, h6w, h6z, h8, h8w, h8z, h21, h21w, h21z, h22, h22w, h22z, h23, h23w, fl10, fl16, fl18, fl20, fl24, g11f, g12f, g13f, g14f, g15f, g25f, cN2, cN10, cN16, cN18, cN19, cN20, cN24, z01, z11, ix1, ix2, nI_add, nI_clamp, vin, true_and, and_true, or_true, true_or, h.1, ile, brt (show F.length ≤ m by omega)]
      rw [bI_f] at hp
      · exact hp
      · intro z
        obtain ⟨j, hj, e⟩ := List.getElem_of_mem z
        exact hn j (by omega) (by rw [getD_lt hj]; exact e)
    | succ k' ih =>
      intro m hm hn
      have hml : m < F.length := by omega
      have hmem : F.getD m 0 ∈ F := by rw [getD_lt hml]; exact List.getElem_mem hml
      have hfa := hFA _ hmem
      obtain ⟨_, e0, _⟩ := hAC _ hfa
      obtain ⟨_, e1, _⟩ := hAC _ hx
      unfold wX6_isFind_2
      simp (disch := first | decide | omega) only [brT, brF, c_I, c_rc, c_pI, c_pZ, c_aI, c_sI, ca_I, ca_rc, ca_pI, cq_I, cq_rc, cq_pI, cq_R, cq_aR, cs_I, cs_rc, cs_pI, cs_pZ, f0_0, f0_1, f0_2, f0_3, f0_4, f0_5, f0_6, f0_7, f1_0, f3_0, f4_0, f4_1, f7_0, f7_1, f7_2, f7_3, f7_4, f7_5, f7_6, f7_7, f7_8, f7_9, f17_0, f17_1, f17_2, f17_3, f17_4, f17_5, f0_8, f0_8p, f7_10, f7_10p, g9, g9r, g9w, g11, g11r, g11w, g12, g12r, g12w, g13, g13r, g13w, g14, g14r, g14w, g15, g15r, g15w, g25, g25r, g25w, h5, h5w, h5z, h6, h6w, h6z, h8, h8w, h8z, h21, h21w, h21z, h22, h22w, h22z, h23, h23w, fl10, fl16, fl18, fl20, fl24, g11f, g12f, g13f, g14f, g15f, g25f, cN2, cN10, cN16, cN18, cN19, cN20, cN24, z01, z11, ix1, ix2, nI_add, nI_clamp, vin, true_and, and_true, or_true, true_or, h.1, ile, brf (show ¬ F.length ≤ m by omega), h.2 m hml, e0, e1, ieq]
      refine brc (fun g => ?_) fun g => ih (m + 1) (by omega) fun j hj => ?_
      · rw [bI_t (g ▸ hmem)] at hp; exact hp
      · by_cases e : j = m
        · rw [e]; exact g
        · exact hn j (by omega)
  unfold wX6_isFind
  exact ⟨_, key F.length 0 (by omega) fun j hj => by omega⟩
end
