theorem ixp3 (a : Nat) : nI a + 3 = nI (a + 3) := nI_add a 3
theorem ixp4 (a : Nat) : nI a + 4 = nI (a + 4) := nI_add a 4
theorem ixp5 (a : Nat) : nI a + 5 = nI (a + 5) := nI_add a 5
theorem ixp6 (a : Nat) : nI a + 6 = nI (a + 6) := nI_add a 6
theorem law_fin {L k : Nat} (hL : L ≤ 3072) (hk : k ≤ 600) : (nI L - 6 < nI (6 * k)) ↔ L < 6 * k + 6 := by
  rw [Int32.lt_iff_toInt_lt]
  have e6 : (6 : Int32).toInt = 6 := by decide
  rw [i32sub (by rw [nI_toInt (by omega), e6]; omega) (by rw [nI_toInt (by omega), e6]; omega), nI_toInt (by omega), nI_toInt (by omega), e6]
  omega
set_option maxHeartbeats 4000000 in
theorem law_loop {L : Nat} {xs : Nat → Int32} (hL : L ≤ 3072) : ∀ n k D nA nQ nE nT nw nc R I z g g' S T, L < 6 * (k + n + 1) → 6 * k ≤ L + 6 → nc ≤ k → CI D nA nQ nE nT nw nc R I → CR g S (cp nA (nQ + 2) R I (jr z)) → CR g' T (mp D) → wL_law_23 L xs (n + 1) (some (g 0)) (some (g' 0)) (some (g 95)) (nI (6 * k)) S T := by
  intro n
  induction n with
  | zero =>
    intro k D nA nQ nE nT nw nc R I z g g' S T hk hk2 hnc hC hS hT
    unfold wL_law_23
    rw [brt ((law_fin hL (by omega)).mpr (by omega))]
    trivial
  | succ n ih =>
    intro k D nA nQ nE nT nw nc R I z g g' S T hk hk2 hnc hC hS hT
    unfold wL_law_23
    refine brc (fun _ => trivial) fun hfin => ?_
    have h6 : 6 * k + 6 ≤ L := by
      apply Decidable.byContradiction
      intro h
      exact hfin ((law_fin hL (by omega)).mpr (by omega))
    have hnc1000 : nc ≤ 1000 := by omega
    have hnext : ∀ {D' nA' nQ' nE' nT' nw' nc' R' I' z' g1 S' T'}, nc' ≤ k + 1 → CI D' nA' nQ' nE' nT' nw' nc' R' I' → CR g1 S' (cp nA' (nQ' + 2) R' I' (jr z')) → CR g' T' (mp D') → g1 0 = g 0 → g1 95 = g 95 → wL_law_23 L xs (n + 1) (some (g 0)) (some (g' 0)) (some (g 95)) (nI (6 * k + 6)) S' T' := fun {D' nA' nQ' nE' nT' nw' nc' R' I' z' g1 S' T'} a1 a2 a3 a4 e0 e95 => by
      have := ih (k + 1) D' nA' nQ' nE' nT' nw' nc' R' I' z' g1 g' S' T' (by omega) (by omega) a1 a2 a3 a4
      rw [e0, e95] at this
      exact this
    have m0 : ∀ {c}, c < 96 → c ∈ cL nA (nQ + 2) := fun h => mS h
    have h27 : D 0 27 = nI nT := hC.1.2.2.1.1
    have hT400 : nT ≤ 400 := hC.1.2.2.1.2.1.2.1
    have h11 : D 0 11 = nI nQ := hC.1.2.1.2.1
    have h8 : nQ ≤ 8 := hC.1.2.1.1
    have h04 : D 0 4 = nI nA := hC.1.1.2.1
    have hA : nA ≤ 250 := hC.1.1.1.1
    have h22 : D 0 22 = nI nE := hC.1.2.2.2.1.1
    have hE40 : nE ≤ 40 := hC.1.2.2.2.1.2.1
    have hST := CI_ST hC
    have hGQ := CI_GQ hC
    have hLb : L < 2 ^ 31 := by omega
    simp (disch := omega) only [xsr_ok, ix1, ix2, ixp3, ixp4, ixp5, ixp6]
    generalize (xs (6 * k) &&& 31).toInt = op
    refine brc (fun _ => hnext (by omega) hC hS hT rfl rfl) fun h18 => ?_
    refine brc (fun h => ?_) fun _ => ?_
    · -- feed
      refine g_rc hS (m0 (by decide)) rfl (lX8_feed (v0 := 0) hS (d_feed hC (fun I' h20 hC' S' hS' => ?_) (fun hno S' hS' => ?_)))
      · refine gT_rc hT (lX9_feed (v0 := 0) hT (q_feed h27 h20 fun T' hT' => ?_))
        show br _ _ _
        rw [brt rfl]
        exact hnext (by omega) hC' hS' hT' rfl rfl
      · refine gT_rc hT (lX9_feed (v0 := 0) hT (q_feedB h27 hT400 hno fun T' hT' => ?_))
        show br _ _ _
        rw [brt rfl]
        exact hnext (by omega) (CI_tl hC TL_00) hS' hT' rfl rfl
    refine brc (fun h => ?_) fun _ => ?_
    · -- end
      refine g_rc hS (m0 (by decide)) rfl (lX8_end (v0 := 0) hS (d_end hC (fun I' nT' hv hC' S' hS' => ?_) (fun hno S' hS' => ?_)))
      · refine gT_rc hT (lX9_end (v0 := 0) hT (q_end ?_))
        rw [if_pos hv]
        intro T' hT'
        show br _ _ _
        rw [brt rfl]
        exact hnext (by omega) hC' hS' hT' rfl rfl
      · refine gT_rc hT (lX9_end (v0 := 0) hT (q_end ?_))
        rw [if_neg hno]
        intro T' hT'
        show br _ _ _
        rw [brt rfl]
        exact hnext (by omega) (CI_tl hC TL_00) hS' hT' rfl rfl
    refine brc (fun h => ?_) fun _ => ?_
    · -- ticks
      unfold wL_ticks
      refine g_rc hS (m0 (by decide)) rfl (lX8_ticks (v0 := 0) hS (d_ticks hC (fun I' nw' hv hC' S' hS' => ?_) (fun hno S' hS' => ?_)))
      · refine g_sJ hS' fun S2 hS2 => gT_rc hT (lX9_ticks (v0 := 0) hT (q_ticks ?_))
        rw [if_pos hv]
        intro T' hT'
        exact th_v hS2 hT' (by rw [p2_row (by decide), p2_same]) fun T2 hT2 => hnext (by omega) hC' hS2 hT2 rfl rfl
      · refine ⟨rfl, gT_rc hT (lX9_ticks (v0 := 0) hT (q_ticks ?_))⟩
        rw [if_neg hno]
        intro T' hT'
        exact th_x (by decide) hT' p2_same fun T2 hT2 => hnext (by omega) (CI_tl hC TL_00) hS' hT2 rfl rfl
    refine brc (fun h => ?_) fun _ => ?_
    · -- act
      unfold wL_act
      refine g_rc hS (m0 (by decide)) rfl (a_act hC hS (fun hno => ?_) (fun a S' I' hok ha e1 e2 hS' hC' => ?_) (fun S' hok hns h250 hS' => ?_) (fun g1 S' R' I' hok hns hlt hg1 hS' hC' => ?_))
      · refine .inl ⟨rfl, gT_rc hT (lX9_act (v0 := 0) hT (q_actB hno fun T' hT' => ?_))⟩
        exact th_x (by decide) hT' p2_same fun T2 hT2 => hnext (by omega) (CI_tl hC TL_00) hS hT2 rfl rfl
      · refine g_sJ hS' fun S2 hS2 => gT_rc hT (lX9_act (v0 := 0) hT (q_act h04 hA hok (fun a' ha' f1 f2 T' hT' => ?_) (fun hns => absurd e1 (hns a ha))))
        have ea : a' = a := by
          apply Decidable.byContradiction
          intro hne
          by_cases hlt : a' < a
          · exact e2 a' hlt f1
          · exact f2 a (by omega) e1
        subst ea
        exact th_v hS2 hT' (by unfold dbM; rw [p2_row (by decide), p2_ne (by decide), p2_same]) fun T2 hT2 => hnext (by omega) hC' hS2 hT2 rfl rfl
      · refine .inr ⟨rfl, gT_rc hT (lX9_act (v0 := 0) hT (q_act h04 hA hok (fun a' ha' f1 f2 T' hT' => absurd f1 (hns a' ha')) (fun _ => ?_)))⟩
        rw [if_pos h250]
        intro T' hT'
        exact th_x (by decide) hT' p2_same fun T2 hT2 => hnext (by omega) (CI_tl hC TL_00) hS' hT2 rfl rfl
      · have e95 := hg1 95 (by decide)
        rw [← e95]
        refine g_sJ hS' fun S2 hS2 => gT_rc hT (lX9_act (v0 := 0) hT (q_act h04 hA hok (fun a' ha' f1 f2 T' hT' => absurd f1 (hns a' ha')) (fun _ => ?_)))
        rw [if_neg (by omega)]
        intro T' hT'
        refine th_v hS2 hT' (by unfold acM; simp (disch := first | decide | omega) only [p2_row, p2_ne, p2_same]) fun T2 hT2 => ?_
        rw [e95]
        exact hnext (by omega) hC' hS2 hT2 (hg1 0 (by decide)) e95
    refine brc (fun h => ?_) fun _ => ?_
    · -- look
      unfold wL_look
      refine g_rc hS (m0 (by decide)) rfl (lX8_look (v0 := 0) hS (d_look hC (fun hno S' hS' => ?_) (fun a ha ev => ?_)))
      · refine .inl ⟨rfl, gT_rc hT (lX9_look (v0 := 0) hT (q_lookB hno fun T' hT' => ?_))⟩
        exact th_x (by decide) hT' p2_same fun T2 hT2 => hnext (by omega) (CI_tl hC TL_00) hS' hT2 rfl rfl
      · by_cases hw : 0 ≤ (xs (6 * k + 2)).toInt ∧ (xs (6 * k + 2)).toInt ≤ 6
        · rw [if_pos hw]
          intro S' hS'
          refine g_sJ hS' fun S2 hS2 => gT_rc hT (lX9_look (v0 := 0) hT ?_)
          rw [ev]
          refine q_look h04 hA ha ?_
          rw [if_pos hw]
          intro T' hT'
          exact th_v hS2 hT' p2_same fun T2 hT2 => hnext (by omega) (CI_tl hC TL_00) hS2 hT2 rfl rfl
        · rw [if_neg hw]
          intro S' hS'
          refine .inr ⟨rfl, gT_rc hT (lX9_look (v0 := 0) hT ?_)⟩
          rw [ev]
          refine q_look h04 hA ha ?_
          rw [if_neg hw]
          intro T' hT'
          exact th_x (by decide) hT' p2_same fun T2 hT2 => hnext (by omega) (CI_tl hC TL_00) hS' hT2 rfl rfl
    refine brc (fun h => ?_) fun _ => ?_
    · -- may
      unfold wL_may
      refine g_rc hS (m0 (by decide)) rfl (lX8_may (v0 := 0) hS (d_may hC (fun I' hv hw hC' S' hS' => ?_) (fun hno S' hS' => ?_) (fun hv hno S' hS' => ?_)))
      · refine gT_rc hT (lX9_may (v0 := 0) hT (q_may ?_))
        rw [if_pos hv, if_pos hw]
        intro T' hT'
        exact th_u hT' (by rw [p2_ne (by decide), p2_same]) fun T2 hT2 => hnext (by omega) hC' hS' hT2 rfl rfl
      · refine .inl ⟨rfl, gT_rc hT (lX9_may (v0 := 0) hT (q_may ?_))⟩
        rw [if_neg hno]
        intro T' hT'
        exact th_u hT' p2_same fun T2 hT2 => hnext (by omega) (CI_tl hC TL_00) hS' hT2 rfl rfl
      · refine .inr ⟨rfl, gT_rc hT (lX9_may (v0 := 0) hT (q_may ?_))⟩
        rw [if_pos hv, if_neg hno]
        intro T' hT'
        exact th_u hT' p2_same fun T2 hT2 => hnext (by omega) (CI_tl hC TL_00) hS' hT2 rfl rfl
    refine brc (fun h => ?_) fun _ => ?_
    · -- ask
      have hb26 : ∀ i, i < nT → ¬ D 26 i = -1 := hC.1.2.2.1.2.2
      have hbz : BZ D := hC.1.2.2.2.2.2.2.2.2.2
      unfold wL_ask
      refine g_rc hS (m0 (by decide)) rfl (a_ask hC hS (fun hv S' I' hS' hC' => ?_) (fun hv f S' I' ht hS' hC' => ?_) (fun hv Q S' I' ht hbits hS' hC' => ?_) (fun hv Q S' I' ht hbits hq8 hS' hC' => ?_) (fun hv Q g1 S' R' I' ht hbits hq8 hg1 hS' hC' => ?_))
      · refine .inl ⟨rfl, gT_rc hT (lX9_ask (v0 := 0) hT (q_ask h27 hT400 hb26 h11 h8 hbz (fun _ T' hT' => ?_) (fun z => absurd z hv) (fun z => absurd z hv) (fun z => absurd z hv) (fun z => absurd z hv)))⟩
        exact th_x (by decide) hT' p2_same fun T2 hT2 => hnext (by omega) hC' hS' hT2 rfl rfl
      · refine .inr (.inl ⟨rfl, gT_rc hT (lX9_ask (v0 := 0) hT (q_ask h27 hT400 hb26 h11 h8 hbz (fun z => absurd hv z) (fun _ f' J e1 e2 e3 T' hT' => ?_) (fun _ Q a m e1 => by rw [ht] at e1; cases e1) (fun _ Q a m e1 => by rw [ht] at e1; cases e1) (fun _ Q a m J e1 => by rw [ht] at e1; cases e1)))⟩)
        have ef : f = f' := by rw [ht] at e1; cases e1; rfl
        subst ef
        exact th_x (by decide) hT' p2_same fun T2 hT2 => hnext (by omega) (hC' J e2 e3) hS' hT2 rfl rfl
      · refine .inr (.inr (.inl ⟨rfl, gT_rc hT (lX9_ask (v0 := 0) hT (q_ask h27 hT400 hb26 h11 h8 hbz (fun z => absurd hv z) (fun _ f J e1 => by rw [ht] at e1; cases e1) (fun _ Q' a m e1 e2 e3 T' hT' => ?_) (fun _ Q' a m e1 e2 e3 => by rw [ht] at e1; cases e1; exact absurd e3 hbits) (fun _ Q' a m J e1 e2 e3 => by rw [ht] at e1; cases e1; exact absurd e3 hbits)))⟩))
        have eq : Q = Q' := by rw [ht] at e1; cases e1; rfl
        subst eq
        exact th_x (by decide) hT' p2_same fun T2 hT2 => hnext (by omega) (hC' a m e2) hS' hT2 rfl rfl
      · refine .inr (.inr (.inr ⟨rfl, gT_rc hT (lX9_ask (v0 := 0) hT (q_ask h27 hT400 hb26 h11 h8 hbz (fun z => absurd hv z) (fun _ f J e1 => by rw [ht] at e1; cases e1) (fun _ Q' a m e1 e2 e3 => by rw [ht] at e1; cases e1; exact absurd hbits e3) (fun _ Q' a m e1 e2 e3 e4 T' hT' => ?_) (fun _ Q' a m J e1 e2 e3 e4 => by omega)))⟩))
        have eq : Q = Q' := by rw [ht] at e1; cases e1; rfl
        subst eq
        exact th_x (by decide) hT' p2_same fun T2 hT2 => hnext (by omega) (hC' a m e2) hS' hT2 rfl rfl
      · have e95 := hg1 95 (by decide)
        rw [← e95]
        refine g_sJ hS' fun S2 hS2 => gT_rc hT (lX9_ask (v0 := 0) hT (q_ask h27 hT400 hb26 h11 h8 hbz (fun z => absurd hv z) (fun _ f J e1 => by rw [ht] at e1; cases e1) (fun _ Q' a m e1 e2 e3 => by rw [ht] at e1; cases e1; exact absurd hbits e3) (fun _ Q' a m e1 e2 e3 e4 => by omega) (fun _ Q' a m J e1 e2 e3 e4 e5 T' hT' => ?_)))
        have eq : Q = Q' := by rw [ht] at e1; cases e1; rfl
        subst eq
        have hJ0 : J 0 0 = 0 := by
          rw [e5.2.2.2.2 0 0 (fun x => by simp at x) (fun x => by simp at x) (fun x => by simp at x) (fun x => by simp at x), st_0 (by decide) (by decide), e2.1 0 0 (by decide)]
          unfold aX
          rw [p2_row (by decide), p2_same]
        refine th_v hS2 hT' hJ0 fun T2 hT2 => ?_
        rw [e95]
        exact hnext (by omega) (hC' a m J e2 e5) hS2 hT2 (hg1 0 (by decide)) e95
    refine brc (fun h => ?_) fun _ => ?_
    · -- fault
      refine g_rc hS (m0 (by decide)) rfl (lX8_fault (v0 := 0) hS (d_fault hC fun S' hS' => ?_))
      refine gT_rc hT (lX9_fault (v0 := 0) hT (q_fault fun T' hT' => ?_))
      show br _ _ _
      rw [brt rfl]
      exact hnext (by omega) (CI_tl hC TL_00) hS' hT' rfl rfl
    refine brc (fun h => ?_) fun _ => ?_
    · -- finds
      unfold wL_finds
      refine g_rc hS (m0 (by decide)) rfl (lX8_finds (v0 := 0) hS (d_finds hC (fun hno S' hS' => ?_) (fun q R' I' hq ev hC' S' hS' => ?_)))
      · refine ⟨rfl, gT_rc hT (lX9_finds (v0 := 0) hT (q_findsB hno fun T' hT' => ?_))⟩
        exact th_x (by decide) hT' p2_same fun T2 hT2 => hnext (by omega) (CI_tl hC TL_00) hS' hT2 rfl rfl
      · obtain ⟨fb, pf, l, w1, w2, w3⟩ := CI_WQ hC hq
        refine g_sJ hS' fun S2 hS2 => gT_rc hT (lX9_finds (v0 := 0) hT ?_)
        rw [ev]
        refine q_finds hST w1 w2 h11 h8 hq (fun J hsc h00 T' hT' => ?_)
        exact th_v hS2 hT' h00 fun T2 hT2 => hnext (by omega) (CI_tl hC' (TL_sc hsc)) hS2 hT2 rfl rfl
    refine brc (fun h => ?_) fun _ => ?_
    · -- found
      unfold wL_found
      refine g_rc hS (m0 (by decide)) rfl (lX8_found (v0 := 0) hS (d_found hC (fun hno S' hS' => ?_) (fun q R' I' hq ev hC' S' hS' => ?_)))
      · refine ⟨rfl, gT_rc hT (lX9_found (v0 := 0) hT (q_foundB hno fun T' hT' => ?_))⟩
        exact th_x (by decide) hT' p2_same fun T2 hT2 => hnext (by omega) (CI_tl hC TL_00) hS' hT2 rfl rfl
      · obtain ⟨fb, pf, l, w1, w2, w3⟩ := CI_WQ hC hq
        refine g_sJ hS' fun S2 hS2 => gT_rc hT (lX9_found (v0 := 0) hT ?_)
        rw [ev]
        refine q_found hST w1 w2 h11 h8 hq (fun J hsc h00 T' hT' => ?_)
        exact th_v hS2 hT' h00 fun T2 hT2 => hnext (by omega) (CI_tl hC' (TL_sc hsc)) hS2 hT2 rfl rfl
    refine brc (fun h => ?_) fun _ => ?_
    · -- proof
      unfold wL_proof
      refine g_rc hS (m0 (by decide)) rfl (lX8_proof (v0 := 0) hS (d_proof hC (fun hno S' hS' => ?_) (fun q R' I' fb0 pf0 l0 x hq ev hC' hqv hx S' hS' => ?_)))
      · refine ⟨rfl, gT_rc hT (lX9_proof (v0 := 0) hT (q_proofB hno fun T' hT' => ?_))⟩
        exact th_x (by decide) hT' p2_same fun T2 hT2 => hnext (by omega) (CI_tl hC TL_00) hS' hT2 rfl rfl
      · obtain ⟨fb, pf, l, w1, w2, w3⟩ := CI_WQ hC hq
        refine g_sJ hS' fun S2 hS2 => gT_rc hT (lX9_proof (v0 := 0) hT ?_)
        rw [ev]
        refine q_proof hST w1 w2 h11 h8 hq (fun x' J hx' hsc h00 T' hT' => ?_)
        have el : l0 = l := by have := hqv.2.1; rw [w2] at this; cases this; rfl
        subst el
        have ex : x' = x := PF_one hx' hx
        subst ex
        exact th_v hS2 hT' h00 fun T2 hT2 => hnext (by omega) (CI_tl hC' (TL_sc hsc)) hS2 hT2 rfl rfl
    refine brc (fun h => ?_) fun _ => ?_
    · -- exempt
      unfold wL_exempt
      refine g_rc hS (m0 (by decide)) rfl (lX8_exempt (v0 := 0) hS (d_exempt hC (fun I' q hq ev hok hlt hC' S' hS' => ?_) (fun hv hok h40 S' hS' => ?_) (fun hno S' hS' => ?_) (fun hv hno S' hS' => ?_)))
      · have hv : 0 ≤ xs (6 * k + 1) ∧ xs (6 * k + 1) < D 0 11 := by
          rw [ev, h11]
          exact ⟨nI_pos' (by omega), by rw [ilt (by omega) (by omega)]; exact hq⟩
        refine g_sJ hS' fun S2 hS2 => gT_rc hT (lX9_exempt (v0 := 0) hT (q_exempt h22 hE40 ?_))
        rw [if_pos hv, if_pos hok, if_neg (by omega)]
        intro T' hT'
        exact th_v hS2 hT' (by unfold exM; simp (disch := first | decide | omega) only [p2_row, p2_ne, p2_same]) fun T2 hT2 => hnext (by omega) hC' hS2 hT2 rfl rfl
      · refine g_sJ hS' fun S2 hS2 => gT_rc hT (lX9_exempt (v0 := 0) hT (q_exempt h22 hE40 ?_))
        rw [if_pos hv, if_pos hok, if_pos h40]
        intro T' hT'
        exact th_v hS2 hT' p2_same fun T2 hT2 => hnext (by omega) (CI_tl hC TL_00) hS2 hT2 rfl rfl
      · refine .inl ⟨rfl, gT_rc hT (lX9_exempt (v0 := 0) hT (q_exempt h22 hE40 ?_))⟩
        rw [if_neg hno]
        intro T' hT'
        exact th_x (by decide) hT' p2_same fun T2 hT2 => hnext (by omega) (CI_tl hC TL_00) hS' hT2 rfl rfl
      · refine .inr ⟨rfl, gT_rc hT (lX9_exempt (v0 := 0) hT (q_exempt h22 hE40 ?_))⟩
        rw [if_pos hv, if_neg hno]
        intro T' hT'
        exact th_x (by decide) hT' p2_same fun T2 hT2 => hnext (by omega) (CI_tl hC TL_00) hS' hT2 rfl rfl
    refine brc (fun h => ?_) fun _ => ?_
    · -- spared
      unfold wL_spared
      refine g_rc hS (m0 (by decide)) rfl (lX8_spared (v0 := 0) hS (d_spared hC (fun hno S' hS' => ?_) (fun q R' I' hq ev hC' S' hS' => ?_)))
      · refine ⟨rfl, gT_rc hT (lX9_spared (v0 := 0) hT (q_sparedB hno fun T' hT' => ?_))⟩
        exact th_x (by decide) hT' p2_same fun T2 hT2 => hnext (by omega) (CI_tl hC TL_00) hS' hT2 rfl rfl
      · obtain ⟨fb, pf, l, w1, w2, w3⟩ := CI_WQ hC hq
        refine g_sJ hS' fun S2 hS2 => gT_rc hT (lX9_spared (v0 := 0) hT ?_)
        rw [ev]
        refine q_spared hST w1 w2 h11 h8 hq h22 hE40 (fun J hsc h00 T' hT' => ?_)
        exact th_v hS2 hT' h00 fun T2 hT2 => hnext (by omega) (CI_tl hC' (TL_sc hsc)) hS2 hT2 rfl rfl
    refine brc (fun h => ?_) fun _ => ?_
    · -- gap
      unfold wL_gap
      refine g_rc hS (m0 (by decide)) rfl (lX8_gap (v0 := 0) hS (d_gap hC (fun I' hv hC' S' hS' => ?_) (fun hno S' hS' => ?_)))
      · refine gT_rc hT (lX9_gap (v0 := 0) hT (q_gap ?_))
        rw [if_pos hv]
        intro T' hT'
        exact th_u hT' (by rw [p2_row (by decide), p2_same]) fun T2 hT2 => hnext (by omega) hC' hS' hT2 rfl rfl
      · refine ⟨rfl, gT_rc hT (lX9_gap (v0 := 0) hT (q_gap ?_))⟩
        rw [if_neg hno]
        intro T' hT'
        exact th_u hT' p2_same fun T2 hT2 => hnext (by omega) (CI_tl hC TL_00) hS' hT2 rfl rfl
    refine brc (fun h => ?_) fun _ => ?_
    · -- cases
      refine g_rc hS (m0 (by decide)) rfl (lX8_cases (v0 := 0) hS (d_cases hnc1000 hC fun R' I' hC' S' hS' => ?_))
      refine gT_rc hT (lX9_cases (v0 := 0) hT (q_cases hST h11 h8 hGQ h22 hE40 fun J hsc h00 T' hT' => ?_))
      show br _ _ _
      rw [brt rfl]
      exact hnext (by omega) (CI_tl hC' (TL_sc hsc)) hS' hT' rfl rfl
    refine brc (fun h => ?_) fun _ => ?_
    · -- joined
      unfold wL_joined
      refine g_rc hS (m0 (by decide)) rfl (lX8_joined (v0 := 0) hS (d_joined hnc1000 hC (fun hno S' hS' => ?_) (fun q a R' I' hq ha ev ew hC' S' hS' => ?_)))
      · refine ⟨rfl, gT_rc hT (lX9_joined (v0 := 0) hT (q_joinedB hno fun T' hT' => ?_))⟩
        exact th_x (by decide) hT' p2_same fun T2 hT2 => hnext (by omega) (CI_tl hC TL_00) hS' hT2 rfl rfl
      · refine g_sJ hS' fun S2 hS2 => gT_rc hT (lX9_joined (v0 := 0) hT ?_)
        rw [ev, ew]
        refine q_joined hST h11 h8 hGQ h22 hE40 hq ha fun J hsc h00 T' hT' => ?_
        exact th_v hS2 hT' h00 fun T2 hT2 => hnext (by omega) (CI_tl hC' (TL_sc hsc)) hS2 hT2 rfl rfl
    refine brc (fun h => ?_) fun _ => ?_
    · -- cost
      unfold wL_cost
      refine g_rc hS (m0 (by decide)) rfl (lX8_cost (v0 := 0) hS (d_cost hC (fun hno S' hS' => ?_) (fun q R' I' x hq ev hC' hx S' hS' => ?_)))
      · refine ⟨rfl, gT_rc hT (lX9_cost (v0 := 0) hT (q_costB hno fun T' hT' => ?_))⟩
        exact th_x (by decide) hT' p2_same fun T2 hT2 => hnext (by omega) (CI_tl hC TL_00) hS' hT2 rfl rfl
      · obtain ⟨fb, pf, l, w1, w2, w3⟩ := CI_WQ hC hq
        refine g_sJ hS' fun S2 hS2 => gT_rc hT (lX9_cost (v0 := 0) hT ?_)
        rw [ev]
        refine q_cost hST w1 w2 h11 h8 hq (fun x' J hx' hsc h00 T' hT' => ?_)
        have ex : x' = x := CO_one hx' hx
        subst ex
        exact th_v hS2 hT' h00 fun T2 hT2 => hnext (by omega) (CI_tl hC' (TL_sc hsc)) hS2 hT2 rfl rfl
    refine brc (fun h => ?_) fun _ => ?_
    · -- widest
      unfold wL_widest
      refine g_rc hS (m0 (by decide)) rfl (lX8_widest (v0 := 0) hS (d_widest hC (fun hno S' hS' => ?_) (fun q R' I' hq ev hC' S' hS' => ?_)))
      · refine ⟨rfl, gT_rc hT (lX9_widest (v0 := 0) hT (q_widestB hno fun T' hT' => ?_))⟩
        exact th_x (by decide) hT' p2_same fun T2 hT2 => hnext (by omega) (CI_tl hC TL_00) hS' hT2 rfl rfl
      · obtain ⟨fb, pf, l, w1, w2, w3⟩ := CI_WQ hC hq
        refine g_sJ hS' fun S2 hS2 => gT_rc hT (lX9_widest (v0 := 0) hT ?_)
        rw [ev]
        refine q_widest hST w1 w2 h11 h8 hq (fun J hsc h00 T' hT' => ?_)
        exact th_v hS2 hT' h00 fun T2 hT2 => hnext (by omega) (CI_tl hC' (TL_sc hsc)) hS2 hT2 rfl rfl
    -- count
    refine g_rc hS (m0 (by decide)) rfl (lX8_count (v0 := 0) hS (d_count hnc1000 hC fun R' I' hC' S' hS' => ?_))
    refine gT_rc hT (lX9_count (v0 := 0) hT (q_count hST h11 h8 hGQ fun J hsc h00 T' hT' => ?_))
    show br _ _ _
    rw [brt rfl]
    exact hnext (by omega) (CI_tl hC' (TL_sc hsc)) hS' hT' rfl rfl
