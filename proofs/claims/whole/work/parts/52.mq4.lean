section
variable {I D : Mem} {nA nQ q b ns pf l : Nat} {t v : Int32} {post : Int32 → Pool → Prop}
def cnd (D : Mem) (nA : Nat) (t : Int32) (q p s a c : Nat) : Prop := EN D nA t q p c ∧ LD D nA t q p c s a
theorem q_p97 {J : Mem} {K : Option Nat → Int32 → Int32 → Int32 → Int32 → Int32 → Pool → Prop} {i many : Int32} {p s a : Nat} (hs : ST J D nA) (hw : WQ D nA q b ns pf) (hf : FR J D nA t q ns) (he : ER J D nA t q ns ns) (hps : p < s) (hsn : s < ns) (ha : a < nA) (hex : ∃ c, c < nA ∧ cnd D nA t q p s a c) (hK : ∀ c, BS D nA t q p s a c → K (some 0) (nI q) i (nI p) many (nI c) (mp J)) : ∀ k c bst, nA = c + k → ((bst = -1 ∧ ∀ d, d < c → ¬ cnd D nA t q p s a d) ∨ ∃ x, bst = nI x ∧ x < c ∧ cnd D nA t q p s a x ∧ ∀ d, d < c → cnd D nA t q p s a d → D 8 d < D 8 x ∨ (D 8 d = D 8 x ∧ d ≤ x)) → wX9_proof_97 K post (k + 1) (some 0) (nI q) i (nI s) many (nI a) (nI p) bst (nI c) (mp J) := by
  have hA := hs.2.1
  have hn6 : ns ≤ 6 := hw.2.2.2.1
  have e8 := hs.2.2 8 (by decide)
  intro k
  induction k with
  | zero =>
    intro c bst hc hb
    unfold wX9_proof_97
    unfold wX9_proof_165
    simp (disch := first | decide | omega) only [m_I, m_R, m_rc, m_pI, m_aI, m_aZ, m_sI, m_sZ, z01, z11, ix3, ix6, ix250, ix1, ix2, nI_add, nI_clamp, vin, true_and, and_true, or_true, true_or, mN3, mN6, mN7, mN8, mN9, mN10, mN12, mN13, mN14, mN15, mN16, mN17, mN18, mN19, mN20, mN21, mN23, mN24, mN25, mN26, mN33, mN34, mN35, mN37, mN39, mN40, mN41, hs.1, ile, brt (show nA ≤ c by omega)]
    rcases hb with ⟨_, h⟩ | ⟨x, rfl, h1, h2, h3⟩
    · obtain ⟨d, hd, hd2⟩ := hex
      exact absurd hd2 (h d (by omega))
    · exact hK x ⟨by omega, h2.1, h2.2, fun d hd h4 h5 => h3 d (by omega) ⟨h4, h5⟩⟩
  | succ k ih =>
    intro c bst hc hb
    have hskip : ¬ cnd D nA t q p s a c → wX9_proof_97 K post (k + 1) (some 0) (nI q) i (nI s) many (nI a) (nI p) bst (nI (c + 1)) (mp J) := fun h => by
      refine ih (c + 1) bst (by omega) ?_
      rcases hb with ⟨h1, h2⟩ | ⟨x, h0, h1, h2, h3⟩
      · refine .inl ⟨h1, fun d hd => ?_⟩
        by_cases e : d = c
        · rw [e]; exact h
        · exact h2 d (by omega)
      · refine .inr ⟨x, h0, by omega, h2, fun d hd hd2 => ?_⟩
        by_cases e : d = c
        · rw [e] at hd2; exact absurd hd2 h
        · exact h3 d (by omega) hd2
    unfold wX9_proof_97
    unfold wX9_proof_159
    simp (disch := first | decide | omega) only [m_I, m_R, m_rc, m_pI, m_aI, m_aZ, m_sI, m_sZ, z01, z11, ix3, ix6, ix250, ix1, ix2, nI_add, nI_clamp, vin, true_and, and_true, or_true, true_or, mN3, mN6, mN7, mN8, mN9, mN10, mN12, mN13, mN14, mN15, mN16, mN17, mN18, mN19, mN20, mN21, mN23, mN24, mN25, mN26, mN33, mN34, mN35, mN37, mN39, mN40, mN41, hs.1, ile, brf (show ¬ nA ≤ c by omega), brf (nI_pos (show p < 2 ^ 31 by omega)), he p c (by omega) (by omega), bI_br]
    refine brc (fun h1 => ?_) fun h1 => hskip fun z => h1 ((ET_EN (by omega)).mpr z.1)
    have h1' := (ET_EN (D := D) (nA := nA) (t := t) (q := q) (x := c) (show p < ns by omega)).mp h1
    refine q_leads hs hf hn6 hw.1 hw.2.1 hw.2.2.1 hps hsn (by omega) ha ?_
    rw [bI_br]
    refine brc (fun h2 => ?_) fun h2 => hskip fun z => h2 z.2
    rw [m_rc]
    have htake : ((bst = -1 ∧ ∀ d, d < c → ¬ cnd D nA t q p s a d) ∨ ∃ x, bst = nI x ∧ (D 8 x < D 8 c ∨ D 8 x = D 8 c) ∧ ∀ d, d < c → cnd D nA t q p s a d → D 8 d < D 8 x ∨ (D 8 d = D 8 x ∧ d ≤ x)) → wX9_proof_97 K post (k + 1) (some 0) (nI q) i (nI s) many (nI a) (nI p) (nI c) (nI (c + 1)) (mp J) := fun h => by
      refine ih (c + 1) _ (by omega) (.inr ⟨c, rfl, by omega, ⟨h1', h2⟩, fun d hd hd2 => ?_⟩)
      by_cases e : d = c
      · rw [e]; exact .inr ⟨rfl, Nat.le_refl _⟩
      · rcases h with ⟨_, h⟩ | ⟨x, _, h3, h4⟩
        · exact absurd hd2 (h d (by omega))
        · have := h4 d (by omega) hd2
          simp only [Int32.lt_iff_toInt_lt, ← Int32.toInt_inj] at this h3 ⊢
          omega
    unfold wX9_isLater wX9_isLater_40
    rcases hb with ⟨rfl, h3⟩ | ⟨x, rfl, h3, h4, h5⟩
    · rw [brt rfl]
      simp (disch := first | decide | omega) only [m_I, m_R, m_rc, m_pI, m_aI, m_aZ, m_sI, m_sZ, z01, z11, ix3, ix6, ix250, ix1, ix2, nI_add, nI_clamp, vin, true_and, and_true, or_true, true_or, mN3, mN6, mN7, mN8, mN9, mN10, mN12, mN13, mN14, mN15, mN16, mN17, mN18, mN19, mN20, mN21, mN23, mN24, mN25, mN26, mN33, mN34, mN35, mN37, mN39, mN40, mN41, c10, brF]
      exact htake (.inl ⟨rfl, h3⟩)
    · rw [brf (nI_nm1 (by omega))]
      simp (disch := first | decide | omega) only [m_I, m_R, m_rc, m_pI, m_aI, m_aZ, m_sI, m_sZ, z01, z11, ix3, ix6, ix250, ix1, ix2, nI_add, nI_clamp, vin, true_and, and_true, or_true, true_or, mN3, mN6, mN7, mN8, mN9, mN10, mN12, mN13, mN14, mN15, mN16, mN17, mN18, mN19, mN20, mN21, mN23, mN24, mN25, mN26, mN33, mN34, mN35, mN37, mN39, mN40, mN41, e8, c10, c00, brF, brT, ile]
      refine brc (fun h => htake (.inr ⟨x, rfl, .inl h, h5⟩)) fun h => brc (fun h' => brc (fun h'' => by omega) fun h'' => htake (.inr ⟨x, rfl, .inr h'.symm, h5⟩)) fun h' => ?_
      refine ih (c + 1) _ (by omega) (.inr ⟨x, rfl, by omega, h4, fun d hd hd2 => ?_⟩)
      by_cases e : d = c
      · subst e
        simp only [Int32.lt_iff_toInt_lt, ← Int32.toInt_inj] at h h' ⊢
        omega
      · exact h5 d (by omega) hd2
theorem q_p64 {I0 : Mem} {i : Int32} {a0 : Nat} {n : Int32} {F : List Nat} (hs0 : ST I0 D nA) (hw : WQ D nA q b ns pf) (hl : bfr D q ns = some l) (hn : 0 ≤ n ∧ n < nI F.length) (ha0 : F.getD n.toNatClampNeg 0 = a0) (hp : ∀ v J, PF D nA t q l F n i v → SC I0 J → J 0 0 = I0 0 0 → post v (mp J)) : ∀ k j s a J, rk D q s = k → CH D nA t q l a0 j s a → EN D nA t q s a → a < nA → s < ns → SC I0 J → J 0 0 = I0 0 0 → FR J D nA t q ns → ER J D nA t q ns ns → (∀ j', j' < j → ∃ s' x, CH D nA t q l a0 j' s' x ∧ J 35 j' = nI x) → wX9_proof_64 post (k + 2) (some 0) (nI q) i (nI s) (nI j) (nI a) (mp J) := by
  have hA := hs0.2.1
  have hn6 : ns ≤ 6 := hw.2.2.2.1
  have hln := (bfr_lt hl).1
  have hrl := rk_le (D := D) (q := q) l
  have hfin : ∀ n' v5 J, SC I0 J → J 0 0 = I0 0 0 → (∀ j', j' < rk D q l + 1 → ∃ s' x, CH D nA t q l a0 j' s' x ∧ J 35 j' = nI x) → wX9_proof_64 post (n' + 1) (some 0) (nI q) i v5 (nI (rk D q l + 1)) (-1) (mp J) := by
    intro n' v5 J hJ h00 hc
    unfold wX9_proof_64
    rw [brt rfl]
    refine brc (fun h => hp _ J ?_ hJ h00) fun h => brc (fun h' => hp _ J ?_ hJ h00) fun h' => ?_
    · unfold PF; rw [if_neg (fun z => Int32.not_le.mpr h z.2.1)]
    · unfold PF; rw [if_neg (fun z => Int32.not_le.mpr z.2.2 h')]
    · obtain ⟨x, hx, rfl⟩ := nI_of h
      have hx2 : x < rk D q l + 1 := by
        have := Int32.not_le.mp h'
        rwa [nI_ltI hx (by omega)] at this
      rw [nI_pred, pk_sub (by omega)]
      simp (disch := first | decide | omega) only [m_I, m_R, m_rc, m_pI, m_aI, m_aZ, m_sI, m_sZ, z01, z11, ix3, ix6, ix250, ix1, ix2, nI_add, nI_clamp, vin, true_and, and_true, or_true, true_or, mN3, mN6, mN7, mN8, mN9, mN10, mN12, mN13, mN14, mN15, mN16, mN17, mN18, mN19, mN20, mN21, mN23, mN24, mN25, mN26, mN33, mN34, mN35, mN37, mN39, mN40, mN41]
      obtain ⟨s', y, g1, g2⟩ := hc (rk D q l - x) (by omega)
      rw [g2]
      refine hp _ J ?_ hJ h00
      unfold PF
      rw [if_pos ⟨hn, Int32.not_lt.mp h, Int32.not_le.mp h'⟩, nI_clamp hx, ha0]
      exact ⟨s', y, g1, rfl⟩
  intro k
  induction k with
  | zero =>
    intro j s a J hrk hch hen ha hsn hJ h00 hf he hc
    have hs := SC_st hJ hs0
    have hjr := CH_rk hch
    have hbn : bfr D q s = none := by
      cases hb : bfr D q s with
      | none => rfl
      | some p => have := rk_s hb; omega
    unfold wX9_proof_64
    rw [brf (nI_nm1 (by omega))]
    simp (disch := first | decide | omega) only [m_I, m_R, m_rc, m_pI, m_aI, m_aZ, m_sI, m_sZ, z01, z11, ix3, ix6, ix250, ix1, ix2, nI_add, nI_clamp, vin, true_and, and_true, or_true, true_or, mN3, mN6, mN7, mN8, mN9, mN10, mN12, mN13, mN14, mN15, mN16, mN17, mN18, mN19, mN20, mN21, mN23, mN24, mN25, mN26, mN33, mN34, mN35, mN37, mN39, mN40, mN41]
    have hS2 : ST (p2 J 35 j (nI a)) D nA := SC_st (SC_p hJ (by decide) (by decide)) hs0
    refine q_before hS2 hw.1 s (by omega) ?_
    rw [hbn]
    refine ⟨1, ?_⟩
    unfold wX9_proof_97
    unfold wX9_proof_165
    rw [m_I]
    have hlast : wX9_proof_64 post 1 (some 0) (nI q) i (oI none) (nI (j + 1)) (-1) (mp (p2 J 35 j (nI a))) := by
      rw [show j = rk D q l by omega]
      refine hfin 0 _ _ (SC_p hJ (by decide) (by decide)) (by rw [p2_ne (by decide)]; exact h00) fun j' hj' => ?_
      by_cases e : j' = rk D q l
      · rw [e, p2_same]
        exact ⟨s, a, by rw [show rk D q l = j by omega]; exact hch, rfl⟩
      · rw [p2_row e]
        exact hc j' (by omega)
    exact brc (fun _ => hlast) fun _ => brc (fun _ => hlast) fun h => absurd (by decide : oI none < 0) h
  | succ k ih =>
    intro j s a J hrk hch hen ha hsn hJ h00 hf he hc
    have hs := SC_st hJ hs0
    have hjr := CH_rk hch
    obtain ⟨p, hb⟩ : ∃ p, bfr D q s = some p := by
      cases hb : bfr D q s with
      | none => have := rk_n hb; omega
      | some p => exact ⟨p, rfl⟩
    have hps := bfr_lt hb
    unfold wX9_proof_64
    rw [brf (nI_nm1 (by omega))]
    simp (disch := first | decide | omega) only [m_I, m_R, m_rc, m_pI, m_aI, m_aZ, m_sI, m_sZ, z01, z11, ix3, ix6, ix250, ix1, ix2, nI_add, nI_clamp, vin, true_and, and_true, or_true, true_or, mN3, mN6, mN7, mN8, mN9, mN10, mN12, mN13, mN14, mN15, mN16, mN17, mN18, mN19, mN20, mN21, mN23, mN24, mN25, mN26, mN33, mN34, mN35, mN37, mN39, mN40, mN41]
    have hJ2 : SC I0 (p2 J 35 j (nI a)) := SC_p hJ (by decide) (by decide)
    have hS2 : ST (p2 J 35 j (nI a)) D nA := SC_st hJ2 hs0
    refine q_before hS2 hw.1 s (by omega) ?_
    rw [hb]
    have hf2 : FR (p2 J 35 j (nI a)) D nA t q ns := FR_cg hf (p2_ne (by decide))
    have he2 : ER (p2 J 35 j (nI a)) D nA t q ns ns := ER_cg he (p2_ne (by decide))
    have hex : ∃ c, c < nA ∧ cnd D nA t q p s a c := by
      unfold EN ET at hen
      rw [if_pos rfl] at hen
      obtain ⟨c, h1, h2, h3⟩ := hen.2.2 p hb
      exact ⟨c, h1, (ET_EN hps.1).mp h2, h3⟩
    refine ⟨_, q_p97 hS2 hw hf2 he2 hps.1 hsn ha hex (fun c hc2 => ?_) nA 0 (-1) (by omega) (.inl ⟨rfl, fun d hd => by omega⟩)⟩
    refine ih (j + 1) p c _ (by have := rk_s hb; omega) ⟨s, a, hch, hb, hc2⟩ hc2.2.1 hc2.1 (by omega) hJ2 (by rw [p2_ne (by decide)]; exact h00) hf2 he2 fun j' hj' => ?_
    by_cases e : j' = j
    · rw [e, p2_same]; exact ⟨s, a, hch, rfl⟩
    · rw [p2_row e]; exact hc j' (by omega)
theorem q_proofB {n i : Int32} (h : ¬ (0 ≤ v ∧ v < I 0 11)) (hp : post 0 (mp (p2 I 0 0 1))) : wX9_proof post (some 0) v t n i (mp I) := by
  unfold wX9_proof wX9_proof_14
  simp only [m_rc, q_isQ, nq_bad h, brT, m_pI, m_I, p2_same, le10, brF]
  exact hp
theorem FL_FD {n x : Nat} (h : x ∈ FL D nA t q n) : FD D nA t q x := (flt_mem.mp h).2
theorem q_proof {n i : Int32} (hs : ST I D nA) (hw : WQ D nA q b ns pf) (hl : bfr D q ns = some l) (hn : I 0 11 = nI nQ) (h8 : nQ ≤ 8) (hq : q < nQ) (hp : ∀ v J, PF D nA t q l (FL D nA t q nA) n i v → SC I J → J 0 0 = 0 → post v (mp J)) : wX9_proof post (some 0) (nI q) t n i (mp I) := by
  have hA := hs.2.1
  have hn6 : ns ≤ 6 := hw.2.2.2.1
  have hns : D 13 q = nI ns := hw.2.2.2.2.1
  have hnc : (D 13 q).toNatClampNeg = ns := by rw [hns, nI_clamp (by omega)]
  unfold wX9_proof wX9_proof_14
  simp only [m_rc, q_isQ, bI_br, brt (isq_t hq hn h8), m_pI, m_I, p2_same, le00, brT]
  refine q_work (SC_st (SC_0 SC_rfl (by decide)) hs) hw hl fun J h1 h2 h3 h4 => ?_
  have hsc : SC I J := SC_trans (SC_0 SC_rfl (by decide)) (SC_sf h1)
  have h00 : J 0 0 = 0 := (h1.2 0 (by decide)).trans p2_same
  have hfl := FL_len (D := D) (nA := nA) (t := t) (q := q) nA
  have hs' := SC_st hsc hs
  refine brc (fun h => hp _ J ?_ hsc h00) fun h => ?_
  · unfold PF; rw [if_neg (fun z => Int32.not_le.mpr h z.1.1)]
  rw [m_I, h4.1]
  refine brc (fun h' => ?_) fun h' => hp _ J ?_ hsc h00
  · obtain ⟨x, hx, rfl⟩ := nI_of h
    have hx2 : x < (FL D nA t q nA).length := by rwa [nI_ltI hx (by omega)] at h'
    have hxm : (FL D nA t q nA).getD x 0 ∈ FL D nA t q nA := by rw [getD_lt hx2]; exact List.getElem_mem _
    rw [m_rc]
    refine q_last hs' hn6 hns hw.1 ?_
    rw [hl]
    simp (disch := first | decide | omega) only [m_I, m_R, m_rc, m_pI, m_aI, m_aZ, m_sI, m_sZ, z01, z11, ix3, ix6, ix250, ix1, ix2, nI_add, nI_clamp, vin, true_and, and_true, or_true, true_or, mN3, mN6, mN7, mN8, mN9, mN10, mN12, mN13, mN14, mN15, mN16, mN17, mN18, mN19, mN20, mN21, mN23, mN24, mN25, mN26, mN33, mN34, mN35, mN37, mN39, mN40, mN41, h4.2 x hx2]
    obtain ⟨l', g1, g2, _⟩ := FL_FD hxm
    rw [hnc, hl] at g1
    cases g1
    exact ⟨_, q_p64 (F := FL D nA t q nA) (n := nI x) (a0 := (FL D nA t q nA).getD x 0) hs' hw hl ⟨Int32.not_lt.mp h, h'⟩ (by rw [nI_clamp hx]) (fun v L a1 a2 a3 => hp v L a1 (SC_trans hsc a2) (a3.trans h00)) _ 0 l _ J rfl ⟨rfl, rfl⟩ g2 (FL_lt hxm) (bfr_lt hl).1 SC_rfl rfl h2 h3 (fun j' hj' => by omega)⟩
  · unfold PF; rw [if_neg (fun z => h' z.1.2)]
end
