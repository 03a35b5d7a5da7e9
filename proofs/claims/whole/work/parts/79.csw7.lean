section
variable {D : Mem} {nA nK nw q k fb ns pf l kn st i j s p x n u y m : Nat} {t v : Int32} {R : RMem} {I : Mem} {J : Nat → Nat → Int64} {post : Int32 → Pool → Prop} {pst : Pool → Prop} {F : List Nat} {P : Nat → Prop}
theorem nI_subb {a b : Nat} (h : b ≤ a) : nI a - nI b = nI (a - b) := by
  have : nI (a - b) + nI b = nI a := by rw [nI_add]; congr 1; omega
  rw [← this, Int32.add_sub_cancel]
theorem flt_drop (hu : u < F.length) : flt P (F.drop u) = @ite _ (P (F.getD u 0)) (Classical.propDecidable _) (F.getD u 0 :: flt P (F.drop (u + 1))) (flt P (F.drop (u + 1))) := by
  rw [List.drop_eq_getElem_cons hu, getD_lt hu]
  unfold flt
  rw [List.filter_cons]
  by_cases h : P (F[u])
  · simp [h]
  · simp [h]
theorem srt_get (h : srt D F) (hij : i ≤ j) (hj : j < F.length) : D 8 (F.getD i 0) ≤ D 8 (F.getD j 0) := by
  by_cases e : i = j
  · rw [e]; exact Int32.le_refl _
  · rw [getD_lt (show i < F.length by omega), getD_lt hj]
    exact List.pairwise_iff_getElem.mp h i j (by omega) hj (by omega)
def DI (R : RMem) (F : List Nat) (P : Nat → Prop) (u : Nat) : Prop := u ≤ F.length ∧ (∀ j, j < u → R 8 j = some (1000 + F.getD j 0)) ∧ ∀ z, z < (flt P (F.drop u)).length → R 8 (F.length - (flt P (F.drop u)).length + z) = some (1000 + (flt P (F.drop u)).getD z 0)
theorem DI_len : (flt P (F.drop u)).length ≤ F.length - u := by
  refine Nat.le_trans flt_len ?_
  rw [List.length_drop]
  exact Nat.le_refl _
theorem v_drop156 {R0 : RMem} {I0 : Mem} {G : List Nat} (hm : m ≤ 250) (hG : G.length ≤ m) (hGA : ∀ z, z < G.length → G.getD z 0 < nA) (hA : nA ≤ 250) (hI : I 7 15 = nI m) (hF : ∀ R, (∀ c, c ≠ 8 → R c = R0 c) → (∀ z, z < G.length → R 8 z = some (1000 + G.getD z 0)) → pst (cp nA nK R (p2 I 7 15 (nI G.length)) J)) : ∀ k' n R, m = n + k' → m - G.length ≤ n → (∀ c, c ≠ 8 → R c = R0 c) → (∀ z, z < n - (m - G.length) → R 8 z = some (1000 + G.getD z 0)) → (∀ z, n - (m - G.length) ≤ z → z < G.length → R 8 (m - G.length + z) = some (1000 + G.getD z 0)) → wX6_dropDisturbed_156 pst (k' + 1) (some 7) (nI (m - G.length)) (nI n) (cp nA nK R I J) := by
  intro k'
  induction k' with
  | zero =>
    intro n R hn hy h1 h2 h3
    unfold wX6_dropDisturbed_156
    simp (disch := first | decide | omega) only [brT, brF, c_I, c_rc, c_pI, c_pZ, c_aI, c_sI, ca_I, ca_rc, ca_pI, cq_I, cq_rc, cq_pI, cq_R, cq_aR, cs_I, cs_rc, cs_pI, cs_pZ, f0_0, f0_1, f0_2, f0_3, f0_4, f0_5, f0_6, f0_7, f1_0, f3_0, f4_0, f4_1, f7_0, f7_1, f7_2, f7_3, f7_4, f7_5, f7_6, f7_7, f7_8, f7_9, f17_0, f17_1, f17_2, f17_3, f17_4, f17_5, f0_8, f0_8p, f7_10, f7_10p, g9, g9r, g9w, g11, g11r, g11w, g12, g12r, g12w, g13, g13r, g13w, g14, g14r, g14w, g15, g15r, g15w, g25, g25r, g25w, h5, h5w, h5z, h6, h6w, h6z, h8, h8w, h8z, h21, h21w, h21z, h22, h22w, h22z, h23, h23w, fl10, fl16, fl18, fl20, fl24, g11f, g12f, g13f, g14f, g15f, g25f, cN2, cN10, cN16, cN18, cN19, cN20, cN24, z01, z11, ix1, ix2, nI_add, nI_clamp, vin, true_and, and_true, or_true, true_or, hI, ile, brt (show m ≤ n by omega)]
    rw [nI_subb (by omega), show m - (m - G.length) = G.length by omega]
    exact hF R h1 fun z hz => h2 z (by omega)
  | succ k' ih =>
    intro n R hn hy h1 h2 h3
    unfold wX6_dropDisturbed_156
    have e := h3 (n - (m - G.length)) (Nat.le_refl _) (by omega)
    rw [show m - G.length + (n - (m - G.length)) = n by omega] at e
    have hg := hGA (n - (m - G.length)) (by omega)
    have es : nI n - nI (m - G.length) = nI (n - (m - G.length)) := nI_subb (by omega)
    simp (disch := first | decide | omega) only [brT, brF, c_I, c_rc, c_pI, c_pZ, c_aI, c_sI, ca_I, ca_rc, ca_pI, cq_I, cq_rc, cq_pI, cq_R, cq_aR, cs_I, cs_rc, cs_pI, cs_pZ, f0_0, f0_1, f0_2, f0_3, f0_4, f0_5, f0_6, f0_7, f1_0, f3_0, f4_0, f4_1, f7_0, f7_1, f7_2, f7_3, f7_4, f7_5, f7_6, f7_7, f7_8, f7_9, f17_0, f17_1, f17_2, f17_3, f17_4, f17_5, f0_8, f0_8p, f7_10, f7_10p, g9, g9r, g9w, g11, g11r, g11w, g12, g12r, g12w, g13, g13r, g13w, g14, g14r, g14w, g15, g15r, g15w, g25, g25r, g25w, h5, h5w, h5z, h6, h6w, h6z, h8, h8w, h8z, h21, h21w, h21z, h22, h22w, h22z, h23, h23w, fl10, fl16, fl18, fl20, fl24, g11f, g12f, g13f, g14f, g15f, g25f, cN2, cN10, cN16, cN18, cN19, cN20, cN24, z01, z11, ix1, ix2, nI_add, nI_clamp, vin, true_and, and_true, or_true, true_or, hI, ile, brf (show ¬ m ≤ n by omega), e, es]
    refine ih (n + 1) _ (by omega) (by omega) (fun c hc => by rw [p2_ne hc]; exact h1 c hc) (fun z hz => ?_) (fun z hz hz2 => ?_)
    · by_cases e2 : z = n - (m - G.length)
      · rw [e2, p2_same]
      · rw [p2_row e2]; exact h2 z (by omega)
    · rw [p2_row (by omega)]; exact h3 z (by omega) hz2
theorem v_drop51 (hsF : srt D F) (hFA : ∀ j, j < F.length → F.getD j 0 < nA) (hFn : F.length ≤ nA) {R0 : RMem} {I0 : Mem} (h15 : I0 7 15 = nI F.length) (hp : ∀ R' I', FRM R0 I0 R' I' → (∀ c, ¬ (50 ≤ c ∧ c < 56) → c ≠ 7 → I' c = I0 c) → NDs (flt (QB D nA t q l) F) R' I' → pst (cp nA nK R' I' J)) : ∀ n u R I, n ≤ nA → CX D nA nK nw q k fb ns pf l kn t R I → FRM R0 I0 R I → (∀ c, ¬ (50 ≤ c ∧ c < 56) → I c = I0 c) → NXs D nA t q ns l I n → DI R F (QB D nA t q l) u → (n < nA → ∀ j, j < u → D 8 (F.getD j 0) < D 8 (bt D nA n)) → wX6_dropDisturbed_51 pst (n + 1) (some 7) (nI u) (nI (F.length - (flt (QB D nA t q l) (F.drop u)).length)) (nI n - 1) (cp nA nK R I J) := by
  intro n
  induction n with
  | zero =>
    intro u R I hn hX hFr hc hN hD hlt
    have hA := hX.1.1
    have hu : u = 0 := by
      apply Decidable.byContradiction
      intro hne
      have hu0 := hD.1
      have hf := hFA 0 (by omega)
      have h1 := hlt (by omega) 0 (by omega)
      obtain ⟨j, hj, e⟩ := bt_at (D := D) hf
      have h2 := bt_le (D := D) (show 0 ≤ j by omega) hj
      rw [e] at h2
      exact Int32.not_le.mpr h1 h2
    subst hu
    have hGl := DI_len (F := F) (P := QB D nA t q l) (u := 0)
    have h0 : F.drop 0 = F := rfl
    unfold wX6_dropDisturbed_51
    rw [brt (by decide)]
    unfold DI at hD
    rw [h0] at hGl hD ⊢
    refine ⟨_, v_drop156 (R0 := R) (I0 := I) (G := flt (QB D nA t q l) F) (show F.length ≤ 250 by omega) (by omega) (fun z hz => ?_) hA (by rw [hc 7 (by omega)]; exact h15) (fun R' r1 r2 => ?_) (flt (QB D nA t q l) F).length (F.length - (flt (QB D nA t q l) F).length) R (by omega) (Nat.le_refl _) (fun _ _ => rfl) (fun z hz => by omega) (fun z hz hz2 => hD.2.2 z hz2)⟩
    · have hmem : (flt (QB D nA t q l) F).getD z 0 ∈ flt (QB D nA t q l) F := by rw [getD_lt hz]; exact List.getElem_mem hz
      have hm2 := (flt_mem.mp hmem).1
      obtain ⟨j, hj, e⟩ := List.getElem_of_mem hm2
      rw [← e, ← getD_lt hj]
      exact hFA j hj
    · refine hp R' _ (FRM_15 ⟨hFr.1, hFr.2.1, fun c hc2 => (r1 c hc2).trans (hFr.2.2 c hc2)⟩) (fun c h1 h2 => by rw [p2_ne h2]; exact hc c h1) ⟨p2_same, r2⟩
  | succ n ih =>
    intro u R I hn hX hFr hc hN hD hlt
    have hW := hX.1
    have hA := hW.1
    have hnA : n < nA := by omega
    have hb := bt_lt (D := D) hnA
    -- behind the finds of this tick
    have h129 : ∀ u R I, CX D nA nK nw q k fb ns pf l kn t R I → FRM R0 I0 R I → (∀ c, ¬ (50 ≤ c ∧ c < 56) → I c = I0 c) → NXs D nA t q ns l I (n + 1) → DI R F (QB D nA t q l) u → (∀ j, j < u → D 8 (F.getD j 0) < D 8 (bt D nA n)) → wX6_dropDisturbed_129 (wX6_dropDisturbed_51 pst (n + 1)) pst (some 7) (nI u) (nI (F.length - (flt (QB D nA t q l) (F.drop u)).length)) (nI n) (some (1000 + bt D nA n)) (cp nA nK R I J) := by
      intro u R I hX hFr hc hN hD hlt
      have hX0 := hX
      obtain ⟨_, hQ, hk, hAC, hBT, hl, hQC, h710, h713, hkn0, hknw, h712⟩ := hX
      obtain ⟨_, a0, _⟩ := hAC (bt D nA n) hb
      unfold wX6_dropDisturbed_129 wX6_dropDisturbed_147
      simp (disch := first | decide | omega) only [brT, brF, c_I, c_rc, c_pI, c_pZ, c_aI, c_sI, ca_I, ca_rc, ca_pI, cq_I, cq_rc, cq_pI, cq_R, cq_aR, cs_I, cs_rc, cs_pI, cs_pZ, f0_0, f0_1, f0_2, f0_3, f0_4, f0_5, f0_6, f0_7, f1_0, f3_0, f4_0, f4_1, f7_0, f7_1, f7_2, f7_3, f7_4, f7_5, f7_6, f7_7, f7_8, f7_9, f17_0, f17_1, f17_2, f17_3, f17_4, f17_5, f0_8, f0_8p, f7_10, f7_10p, g9, g9r, g9w, g11, g11r, g11w, g12, g12r, g12w, g13, g13r, g13w, g14, g14r, g14w, g15, g15r, g15w, g25, g25r, g25w, h5, h5w, h5z, h6, h6w, h6z, h8, h8w, h8z, h21, h21w, h21z, h22, h22w, h22z, h23, h23w, fl10, fl16, fl18, fl20, fl24, g11f, g12f, g13f, g14f, g15f, g25f, cN2, cN10, cN16, cN18, cN19, cN20, cN24, z01, z11, ix1, ix2, nI_add, nI_clamp, vin, true_and, and_true, or_true, true_or, a0, h713, ile, ixsub]
      refine brc (fun h => ?_) fun h => ?_
      · have hu : ¬ D 9 (bt D nA n) ≤ t := fun z => by have := (hknw _ hb).mpr z; omega
        refine ih u R I (by omega) hX0 hFr hc (fun s v h1 h2 h3 => ?_) hD (fun _ => hlt)
        rw [hN s v h1 h2 h3, show nA - n = (nA - (n + 1)) + 1 by omega, nxB, if_neg]
        rw [show nA - (nA - (n + 1) + 1) = n by omega]
        exact fun z => hu z.1
      · have hkn := (hknw _ hb).mp (by omega)
        refine v_noteNot hnA hkn (R0 := R0) (I0 := I0) (fun I' b1 b2 b3 => ?_) hX0 hFr hc hN
        have hX2 : CX D nA nK nw q k fb ns pf l kn t R I' := CX_I hX0 (fun c h1 h2 => by rw [b2 c (fun z => h2 (by unfold sw; omega)), hc c (fun z => h2 (by unfold sw; omega))]) (by rw [b2 7 (by omega), hc 7 (by omega)]) (by rw [b2 7 (by omega), hc 7 (by omega)])
        exact ih u R I' (by omega) hX2 b1 b2 b3 hD (fun _ => hlt)
    have h68 : ∀ u R I, CX D nA nK nw q k fb ns pf l kn t R I → FRM R0 I0 R I → (∀ c, ¬ (50 ≤ c ∧ c < 56) → I c = I0 c) → NXs D nA t q ns l I (n + 1) → DI R F (QB D nA t q l) u → (n + 1 < nA → ∀ j, j < u → D 8 (F.getD j 0) < D 8 (bt D nA (n + 1))) → wX6_dropDisturbed_68 (wX6_dropDisturbed_51 pst (n + 1)) pst (u + 1) (some 7) (nI u) (nI (F.length - (flt (QB D nA t q l) (F.drop u)).length)) (nI n) (some (1000 + bt D nA n)) (cp nA nK R I J) := by
      intro u
      induction u with
      | zero =>
        intro R I hX hFr hc hN hD hlt
        unfold wX6_dropDisturbed_68
        rw [brt (by decide)]
        exact h129 0 R I hX hFr hc hN hD fun j hj => by omega
      | succ u ihu =>
        intro R I hX hFr hc hN hD hlt
        have hX0 := hX
        obtain ⟨_, hQ, hk, hAC, hBT, hl, hQC, h710, h713, hkn0, hknw, h712⟩ := hX
        have hu := hD.1
        have hfu := hFA u (by omega)
        have e8 := hD.2.1 u (by omega)
        obtain ⟨_, _, _, _, t5, _⟩ := hAC (F.getD u 0) hfu
        obtain ⟨_, _, _, _, s5, _⟩ := hAC (bt D nA n) hb
        have hGl := DI_len (F := F) (P := QB D nA t q l) (u := u + 1)
        unfold wX6_dropDisturbed_68 wX6_dropDisturbed_123
        simp (disch := first | decide | omega) only [brT, brF, c_I, c_rc, c_pI, c_pZ, c_aI, c_sI, ca_I, ca_rc, ca_pI, cq_I, cq_rc, cq_pI, cq_R, cq_aR, cs_I, cs_rc, cs_pI, cs_pZ, f0_0, f0_1, f0_2, f0_3, f0_4, f0_5, f0_6, f0_7, f1_0, f3_0, f4_0, f4_1, f7_0, f7_1, f7_2, f7_3, f7_4, f7_5, f7_6, f7_7, f7_8, f7_9, f17_0, f17_1, f17_2, f17_3, f17_4, f17_5, f0_8, f0_8p, f7_10, f7_10p, g9, g9r, g9w, g11, g11r, g11w, g12, g12r, g12w, g13, g13r, g13w, g14, g14r, g14w, g15, g15r, g15w, g25, g25r, g25w, h5, h5w, h5z, h6, h6w, h6z, h8, h8w, h8z, h21, h21w, h21z, h22, h22w, h22z, h23, h23w, fl10, fl16, fl18, fl20, fl24, g11f, g12f, g13f, g14f, g15f, g25f, cN2, cN10, cN16, cN18, cN19, cN20, cN24, z01, z11, ix1, ix2, nI_add, nI_clamp, vin, true_and, and_true, or_true, true_or, lle0, brf (show ¬ u + 1 ≤ 0 by omega), ixs, ixm, Nat.add_sub_cancel, e8, t5, s5]
        refine brc (fun h => ?_) fun h => ?_
        · refine h129 (u + 1) R I hX0 hFr hc hN hD fun j hj => ?_
          exact Int32.lt_of_le_of_lt (srt_get hsF (show j ≤ u by omega) (by omega)) h
        · have hge := Int32.not_lt.mp h
          refine v_undist hX0 hN hn hfu (fun j hj => ⟨fun z => ?_, fun z => ?_⟩) ?_
          · exact Int32.lt_of_lt_of_le (hlt (by omega) u (by omega)) (bt_le z hj)
          · apply Decidable.byContradiction
            intro hcn
            have h1 := bt_le (D := D) (show j ≤ n by omega) hnA
            exact Int32.not_le.mpr z (Int32.le_trans h1 hge)
          · have hfd := flt_drop (F := F) (P := QB D nA t q l) (u := u) (by omega)
            rw [bI_br]
            refine brc (fun hqb => ?_) fun hqb => ?_
            · rw [if_pos hqb] at hfd
              have e9 : F.length - (flt (QB D nA t q l) (F.drop (u + 1))).length - 1 = F.length - (flt (QB D nA t q l) (F.drop u)).length := by rw [hfd, List.length_cons]; omega
              have hGl2 := DI_len (F := F) (P := QB D nA t q l) (u := u)
              have hll : (flt (QB D nA t q l) (F.drop u)).length = (flt (QB D nA t q l) (F.drop (u + 1))).length + 1 := by rw [hfd, List.length_cons]
              simp (disch := first | decide | omega) only [brT, brF, c_I, c_rc, c_pI, c_pZ, c_aI, c_sI, ca_I, ca_rc, ca_pI, cq_I, cq_rc, cq_pI, cq_R, cq_aR, cs_I, cs_rc, cs_pI, cs_pZ, f0_0, f0_1, f0_2, f0_3, f0_4, f0_5, f0_6, f0_7, f1_0, f3_0, f4_0, f4_1, f7_0, f7_1, f7_2, f7_3, f7_4, f7_5, f7_6, f7_7, f7_8, f7_9, f17_0, f17_1, f17_2, f17_3, f17_4, f17_5, f0_8, f0_8p, f7_10, f7_10p, g9, g9r, g9w, g11, g11r, g11w, g12, g12r, g12w, g13, g13r, g13w, g14, g14r, g14w, g15, g15r, g15w, g25, g25r, g25w, h5, h5w, h5z, h6, h6w, h6z, h8, h8w, h8z, h21, h21w, h21z, h22, h22w, h22z, h23, h23w, fl10, fl16, fl18, fl20, fl24, g11f, g12f, g13f, g14f, g15f, g25f, cN2, cN10, cN16, cN18, cN19, cN20, cN24, z01, z11, ix1, ix2, nI_add, nI_clamp, vin, true_and, and_true, or_true, true_or, ixs, ixm, Nat.add_sub_cancel, e8, e9]
              refine ihu _ I (CX_frm hX0 (FRM_8 FRM_rfl)) (FRM_8 hFr) hc hN ⟨by omega, fun j hj => ?_, fun z hz => ?_⟩ (fun h1 j hj => hlt h1 j (by omega))
              · rw [p2_row (by omega)]; exact hD.2.1 j (by omega)
              · by_cases e10 : z = 0
                · rw [e10, Nat.add_zero, p2_same, hfd]; rfl
                · rw [p2_row (by omega)]
                  have := hD.2.2 (z - 1) (by omega)
                  rw [show F.length - (flt (QB D nA t q l) (F.drop u)).length + z = F.length - (flt (QB D nA t q l) (F.drop (u + 1))).length + (z - 1) by omega, this, hfd]
                  obtain ⟨z', rfl⟩ : ∃ z', z = z' + 1 := ⟨z - 1, by omega⟩
                  rw [List.getD_cons_succ]
                  rfl
            · rw [if_neg hqb] at hfd
              have e9 : F.length - (flt (QB D nA t q l) (F.drop (u + 1))).length = F.length - (flt (QB D nA t q l) (F.drop u)).length := by rw [hfd]
              simp (disch := first | decide | omega) only [brT, brF, c_I, c_rc, c_pI, c_pZ, c_aI, c_sI, ca_I, ca_rc, ca_pI, cq_I, cq_rc, cq_pI, cq_R, cq_aR, cs_I, cs_rc, cs_pI, cs_pZ, f0_0, f0_1, f0_2, f0_3, f0_4, f0_5, f0_6, f0_7, f1_0, f3_0, f4_0, f4_1, f7_0, f7_1, f7_2, f7_3, f7_4, f7_5, f7_6, f7_7, f7_8, f7_9, f17_0, f17_1, f17_2, f17_3, f17_4, f17_5, f0_8, f0_8p, f7_10, f7_10p, g9, g9r, g9w, g11, g11r, g11w, g12, g12r, g12w, g13, g13r, g13w, g14, g14r, g14w, g15, g15r, g15w, g25, g25r, g25w, h5, h5w, h5z, h6, h6w, h6z, h8, h8w, h8z, h21, h21w, h21z, h22, h22w, h22z, h23, h23w, fl10, fl16, fl18, fl20, fl24, g11f, g12f, g13f, g14f, g15f, g25f, cN2, cN10, cN16, cN18, cN19, cN20, cN24, z01, z11, ix1, ix2, nI_add, nI_clamp, vin, true_and, and_true, or_true, true_or, ixs, ixm, Nat.add_sub_cancel, e9]
              refine ihu R I hX0 hFr hc hN ⟨by omega, fun j hj => hD.2.1 j (by omega), fun z hz => ?_⟩ (fun h1 j hj => hlt h1 j (by omega))
              rw [hfd] at hz ⊢
              exact hD.2.2 z hz
    have hbt := hX.2.2.2.2.1 n hnA
    rw [show (byT D nA).getD n 0 = bt D nA n from rfl] at hbt
    unfold wX6_dropDisturbed_51
    rw [ixs (n + 1) (by omega), Nat.add_sub_cancel]
    simp (disch := first | decide | omega) only [llt0, brT, brF, c_I, c_rc, c_pI, c_pZ, c_aI, c_sI, ca_I, ca_rc, ca_pI, cq_I, cq_rc, cq_pI, cq_R, cq_aR, cs_I, cs_rc, cs_pI, cs_pZ, f0_0, f0_1, f0_2, f0_3, f0_4, f0_5, f0_6, f0_7, f1_0, f3_0, f4_0, f4_1, f7_0, f7_1, f7_2, f7_3, f7_4, f7_5, f7_6, f7_7, f7_8, f7_9, f17_0, f17_1, f17_2, f17_3, f17_4, f17_5, f0_8, f0_8p, f7_10, f7_10p, g9, g9r, g9w, g11, g11r, g11w, g12, g12r, g12w, g13, g13r, g13w, g14, g14r, g14w, g15, g15r, g15w, g25, g25r, g25w, h5, h5w, h5z, h6, h6w, h6z, h8, h8w, h8z, h21, h21w, h21z, h22, h22w, h22z, h23, h23w, fl10, fl16, fl18, fl20, fl24, g11f, g12f, g13f, g14f, g15f, g25f, cN2, cN10, cN16, cN18, cN19, cN20, cN24, z01, z11, ix1, ix2, nI_add, nI_clamp, vin, true_and, and_true, or_true, true_or, hbt]
    exact ⟨_, h68 u R I hX hFr hc hN hD hlt⟩
theorem FD_iff {a : Nat} (hQ : QV D nA q fb ns pf l) : FD D nA t q a ↔ ES D nA t q l a ∧ QB D nA t q l a := by
  have hns : ns ≤ 6 := hQ.1.2.2.2.1
  have hnc : (D 13 q).toNatClampNeg = ns := by rw [hQ.1.2.2.2.2.1, nI_clamp (by omega)]
  unfold FD ES
  rw [hnc]
  constructor
  · rintro ⟨l', h1, h2, h3, h4⟩
    rw [hQ.2.1] at h1
    cases h1
    exact ⟨⟨h2, h4⟩, h3⟩
  · rintro ⟨⟨h2, h4⟩, h3⟩
    exact ⟨l, hQ.2.1, h2, h3, h4⟩
theorem flt_flt {P' : Nat → Prop} {B : List Nat} : flt P' (flt P B) = flt (fun a => P a ∧ P' a) B := by
  unfold flt
  rw [List.filter_filter]
  congr 1
  funext a
  by_cases h1 : P a
  · by_cases h2 : P' a
    · simp [h1, h2]
    · simp [h1, h2]
  · simp [h1]
theorem v_drop (hX : CX D nA nK nw q k fb ns pf l kn t R I) (hP : PS D nA t q ns pf l R I nA nA) (hp : ∀ R' I', FRM R I R' I' → SA D nA t q ns R' I' (FL D nA t q nA) → pst (cp nA nK R' I' J)) : wX6_dropDisturbed pst (some 7) (cp nA nK R I J) := by
  have hX0 := hX
  obtain ⟨hW, hQ, hk, hAC, hBT, hl, hQC, h710, h713, hkn0, hknw, h712⟩ := hX
  have hA := hW.1
  have hns : ns ≤ 6 := hQ.1.2.2.2.1
  have hl0 := bfr_lt hQ.2.1
  obtain ⟨g1, g2, g3, g4, g5, g6, g7, g8⟩ := hP
  have hEF : EF D nA t q l nA = flt (ES D nA t q l) (byT D nA) := flt_all
  have hFL : FL D nA t q nA = flt (QB D nA t q l) (EF D nA t q l nA) := by
    rw [hEF, flt_flt]
    unfold FL
    congr 1
    funext a
    exact propext (FD_iff hQ)
  obtain ⟨c0, c1, c4, c5, c6, c7⟩ := hQC.2.2.2.2.2 (ns - 1) (by omega)
  unfold wX6_dropDisturbed
  simp (disch := first | decide | omega) only [brT, brF, c_I, c_rc, c_pI, c_pZ, c_aI, c_sI, ca_I, ca_rc, ca_pI, cq_I, cq_rc, cq_pI, cq_R, cq_aR, cs_I, cs_rc, cs_pI, cs_pZ, f0_0, f0_1, f0_2, f0_3, f0_4, f0_5, f0_6, f0_7, f1_0, f3_0, f4_0, f4_1, f7_0, f7_1, f7_2, f7_3, f7_4, f7_5, f7_6, f7_7, f7_8, f7_9, f17_0, f17_1, f17_2, f17_3, f17_4, f17_5, f0_8, f0_8p, f7_10, f7_10p, g9, g9r, g9w, g11, g11r, g11w, g12, g12r, g12w, g13, g13r, g13w, g14, g14r, g14w, g15, g15r, g15w, g25, g25r, g25w, h5, h5w, h5z, h6, h6w, h6z, h8, h8w, h8z, h21, h21w, h21z, h22, h22w, h22z, h23, h23w, fl10, fl16, fl18, fl20, fl24, g11f, g12f, g13f, g14f, g15f, g25f, cN2, cN10, cN16, cN18, cN19, cN20, cN24, z01, z11, ix1, ix2, nI_add, nI_clamp, vin, true_and, and_true, or_true, true_or, h710, hQC.1, ixs, llt0, c4, hl, g8.1]
  refine brc (fun h => ?_) fun h => ?_
  · -- no not behind the last act
    have hll : l = ns - 1 := by
      apply Decidable.byContradiction
      intro hc
      exact bfr_between hQ.2.1 (ns - 1) (by omega) (by omega) h
    refine hp R I FRM_rfl ⟨g1, g3, ?_⟩
    have hnc : (D 13 q).toNatClampNeg = ns := by rw [hQ.1.2.2.2.2.1, nI_clamp (by omega)]
    have e : flt (QB D nA t q l) (EF D nA t q l nA) = EF D nA t q l nA := by
      unfold flt
      rw [List.filter_eq_self]
      intro a _
      have : QB D nA t q l a := by
        intro n h1 h2
        rw [hnc] at h2
        omega
      simp [this]
    rw [hFL, e]
    exact g8
  · have hsF : srt D (EF D nA t q l nA) := by rw [hEF]; exact flt_srt (byT_srt nA)
    have hlen : (EF D nA t q l nA).length ≤ nA := by
      rw [hEF]
      have := flt_len (p := ES D nA t q l) (F := byT D nA)
      rw [byT_len] at this
      exact this
    have hFA : ∀ j, j < (EF D nA t q l nA).length → (EF D nA t q l nA).getD j 0 < nA := fun j hj => by
      have hmem : (EF D nA t q l nA).getD j 0 ∈ EF D nA t q l nA := by rw [getD_lt hj]; exact List.getElem_mem hj
      rw [hEF] at hmem ⊢
      exact byT_mem.mp (flt_mem.mp hmem).1
    have hdl : (EF D nA t q l nA).drop (EF D nA t q l nA).length = [] := List.drop_eq_nil_of_le (Nat.le_refl _)
    have key := v_drop51 (nK := nK) (nw := nw) (k := k) (fb := fb) (ns := ns) (pf := pf) (kn := kn) (J := J) (pst := pst) hsF hFA hlen (R0 := R) (I0 := I) g8.1 (fun R' I' b1 b2 b3 => hp R' I' b1 ⟨fun s' h1 h2 => ?_, fun s' h1 h2 => ?_, ?_⟩) nA (EF D nA t q l nA).length R I (Nat.le_refl _) hX0 FRM_rfl (fun _ _ => rfl) (fun s v h1 h2 h3 => ?_) ⟨Nat.le_refl _, g8.2, fun z hz => by rw [hdl] at hz; exact absurd hz (Nat.not_lt_zero _)⟩ (fun z => by omega)
    · rw [hdl] at key
      exact ⟨_, key⟩
    · rw [b2 10 (by omega) (by decide)]; exact g1 s' h1 h2
    · have := rk_le (D := D) (q := q) s'
      rw [b2 (26 + rk D q s') (by omega) (by omega)]; exact g3 s' h1 h2
    · rw [hFL]; exact b3
    · rw [Nat.sub_self]
      exact g7 s v (by omega) h3
end
