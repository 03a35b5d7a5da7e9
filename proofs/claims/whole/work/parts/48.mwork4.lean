section
variable {I0 D : Mem} {nA q b ns pf l : Nat} {t : Int32} {post : Pool → Prop}
theorem q_w94 (hs : ST I0 D nA) (hw : WQ D nA q b ns pf) (hl : bfr D q ns = some l) (h36 : I0 0 36 = 0) (hp : ∀ J, SF I0 J → FR J D nA t q ns → ER J D nA t q ns ns → LR J (FL D nA t q nA) → post (mp J)) : ∀ k s I, ns = s + k → SF I0 I → I 37 = I0 37 → I 0 36 = I0 0 36 → FR I D nA t q ns → ER I D nA t q ns s → wX9_work_94 post (k + 1) (some 0) (nI q) t (nI s) (mp I) := by
  have hA := hs.2.1
  have hq : q < 9 := hw.1
  have hn6 : ns ≤ 6 := hw.2.2.2.1
  have hns : D 13 q = nI ns := hw.2.2.2.2.1
  intro k
  induction k with
  | zero =>
    intro s I hk hS h37 h36' hf he
    have hs' := SF_st hS hs
    have e13 := hs'.2.2 13 (by decide)
    have es : s = ns := by omega
    subst es
    unfold wX9_work_94
    simp (disch := first | decide | omega) only [m_I, m_R, m_rc, m_pI, m_aI, m_aZ, m_sI, m_sZ, z01, z11, ix3, ix6, ix250, ix1, ix2, nI_add, nI_clamp, vin, true_and, and_true, or_true, true_or, mN3, mN6, mN7, mN8, mN9, mN10, mN12, mN13, mN14, mN15, mN16, mN17, mN18, mN19, mN20, mN21, mN23, mN24, mN25, mN26, mN33, mN34, mN35, mN37, mN39, mN40, mN41, e13, hns, ile, brt (show s ≤ s by omega)]
    refine q_last hs' hn6 hns hq ?_
    rw [hl]
    exact ⟨_, q_w274 hs hw hl hp nA 0 I (by omega) hS hf he ⟨by rw [h36', h36]; rfl, fun i hi => by cases hi⟩⟩
  | succ k ih =>
    intro s I hk hS h37 h36' hf he
    have hs' := SF_st hS hs
    have e13 := hs'.2.2 13 (by decide)
    have e14 := hs'.2.2 14 (by decide)
    unfold wX9_work_94
    unfold wX9_work_259
    simp (disch := first | decide | omega) only [m_I, m_R, m_rc, m_pI, m_aI, m_aZ, m_sI, m_sZ, z01, z11, ix3, ix6, ix250, ix1, ix2, nI_add, nI_clamp, vin, true_and, and_true, or_true, true_or, mN3, mN6, mN7, mN8, mN9, mN10, mN12, mN13, mN14, mN15, mN16, mN17, mN18, mN19, mN20, mN21, mN23, mN24, mN25, mN26, mN33, mN34, mN35, mN37, mN39, mN40, mN41, e13, e14, hns, ile, brf (show ¬ ns ≤ s by omega)]
    refine brc (fun h0 => ?_) fun h0 => ?_
    · refine q_before hs' hq s (by omega) ?_
      refine ⟨_, q_w132 (pf := pf) (b := b) hs hw (by omega) h0 (fun J h1 h2 h3 h4 h5 => ih (s + 1) J (by omega) h1 h2 h3 h4 h5) nA 0 I (by omega) hS h37 h36' hf fun n d hn hd => ?_⟩
      rw [if_neg (by omega)]
      exact he n d hn hd
    · refine ih (s + 1) I (by omega) hS h37 h36' hf fun n d hn hd => ?_
      rw [he n d hn hd]
      congr 1
      by_cases e : n = s
      · subst e
        refine propext ⟨fun z => absurd z (ET_ge (Nat.le_refl n)), fun z => ?_⟩
        unfold ET at z
        rw [if_pos rfl] at z
        exact absurd z.1 h0
      · conv => rhs; unfold ET
        rw [if_neg e]
theorem q_w49 {K36 : Option Nat → Int32 → Int32 → Int32 → Pool → Prop} {s : Nat} (hs : ST I0 D nA) (hw : WQ D nA q b ns pf) (hsn : s < ns) (hK : ∀ J, SF I0 J → J 37 = I0 37 → J 0 36 = I0 0 36 → J 34 = I0 34 → (∀ n c, n < s + 1 → c < nA → J 33 (250 * n + c) = bI (FT D nA t q n c)) → K36 (some 0) (nI q) t (nI (s + 1)) (mp J)) : ∀ k c I, nA = c + k → SF I0 I → I 37 = I0 37 → I 0 36 = I0 0 36 → I 34 = I0 34 → (∀ n d, n < s ∨ n = s ∧ d < c → d < nA → I 33 (250 * n + d) = bI (FT D nA t q n d)) → wX9_work_49 K36 post (k + 1) (some 0) (nI q) t (nI s) (nI c) (mp I) := by
  have hA := hs.2.1
  have hq : q < 9 := hw.1
  have hn6 : ns ≤ 6 := hw.2.2.2.1
  intro k
  induction k with
  | zero =>
    intro c I hc hS h37 h36 h34 hf
    have hs' := SF_st hS hs
    unfold wX9_work_49
    simp (disch := first | decide | omega) only [m_I, m_R, m_rc, m_pI, m_aI, m_aZ, m_sI, m_sZ, z01, z11, ix3, ix6, ix250, ix1, ix2, nI_add, nI_clamp, vin, true_and, and_true, or_true, true_or, mN3, mN6, mN7, mN8, mN9, mN10, mN12, mN13, mN14, mN15, mN16, mN17, mN18, mN19, mN20, mN21, mN23, mN24, mN25, mN26, mN33, mN34, mN35, mN37, mN39, mN40, mN41, hs'.1, ile, brt (show nA ≤ c by omega)]
    exact hK I hS h37 h36 h34 fun n d hn hd => hf n d (by omega) hd
  | succ k ih =>
    intro c I hc hS h37 h36 h34 hf
    have hs' := SF_st hS hs
    unfold wX9_work_49
    simp (disch := first | decide | omega) only [m_I, m_R, m_rc, m_pI, m_aI, m_aZ, m_sI, m_sZ, z01, z11, ix3, ix6, ix250, ix1, ix2, nI_add, nI_clamp, vin, true_and, and_true, or_true, true_or, mN3, mN6, mN7, mN8, mN9, mN10, mN12, mN13, mN14, mN15, mN16, mN17, mN18, mN19, mN20, mN21, mN23, mN24, mN25, mN26, mN33, mN34, mN35, mN37, mN39, mN40, mN41, hs'.1, ile, brf (show ¬ nA ≤ c by omega)]
    refine q_fits hs' hq (by omega) (by omega) ?_
    simp (disch := first | decide | omega) only [m_I, m_R, m_rc, m_pI, m_aI, m_aZ, m_sI, m_sZ, z01, z11, ix3, ix6, ix250, ix1, ix2, nI_add, nI_clamp, vin, true_and, and_true, or_true, true_or, mN3, mN6, mN7, mN8, mN9, mN10, mN12, mN13, mN14, mN15, mN16, mN17, mN18, mN19, mN20, mN21, mN23, mN24, mN25, mN26, mN33, mN34, mN35, mN37, mN39, mN40, mN41, bI_01]
    refine ih (c + 1) _ (by omega) (SF_p hS (by omega)) (by rw [p2_ne (by omega), h37]) (by rw [p2_ne (by omega), h36]) (by rw [p2_ne (by omega), h34]) fun n d hn hd => ?_
    by_cases e : n = s ∧ d = c
    · obtain ⟨rfl, rfl⟩ := e
      rw [p2_same]
    · rw [p2_row (ix_ne (by omega) (by omega) e)]
      exact hf n d (by omega) hd
theorem q_w36 (hs : ST I0 D nA) (hw : WQ D nA q b ns pf) (hl : bfr D q ns = some l) (h36 : I0 0 36 = 0) (h34 : ∀ x, x < 1500 → I0 34 x = 0) (hp : ∀ J, SF I0 J → FR J D nA t q ns → ER J D nA t q ns ns → LR J (FL D nA t q nA) → post (mp J)) : ∀ k s I, ns = s + k → SF I0 I → I 37 = I0 37 → I 0 36 = I0 0 36 → I 34 = I0 34 → (∀ n d, n < s → d < nA → I 33 (250 * n + d) = bI (FT D nA t q n d)) → wX9_work_36 post (k + 1) (some 0) (nI q) t (nI s) (mp I) := by
  have hA := hs.2.1
  have hq : q < 9 := hw.1
  have hn6 : ns ≤ 6 := hw.2.2.2.1
  have hns : D 13 q = nI ns := hw.2.2.2.2.1
  intro k
  induction k with
  | zero =>
    intro s I hk hS h37 h36' h34' hf
    have hs' := SF_st hS hs
    have e13 := hs'.2.2 13 (by decide)
    unfold wX9_work_36
    simp (disch := first | decide | omega) only [m_I, m_R, m_rc, m_pI, m_aI, m_aZ, m_sI, m_sZ, z01, z11, ix3, ix6, ix250, ix1, ix2, nI_add, nI_clamp, vin, true_and, and_true, or_true, true_or, mN3, mN6, mN7, mN8, mN9, mN10, mN12, mN13, mN14, mN15, mN16, mN17, mN18, mN19, mN20, mN21, mN23, mN24, mN25, mN26, mN33, mN34, mN35, mN37, mN39, mN40, mN41, e13, hns, ile, brt (show ns ≤ s by omega)]
    refine ⟨_, q_w94 hs hw hl h36 hp ns 0 I (by omega) hS h37 h36' (fun n d hn hd => hf n d (by omega) hd) fun n d hn hd => ?_⟩
    rw [h34', h34 _ (by omega), bI_f (ET_ge (by omega))]
  | succ k ih =>
    intro s I hk hS h37 h36' h34' hf
    have hs' := SF_st hS hs
    have e13 := hs'.2.2 13 (by decide)
    unfold wX9_work_36
    simp (disch := first | decide | omega) only [m_I, m_R, m_rc, m_pI, m_aI, m_aZ, m_sI, m_sZ, z01, z11, ix3, ix6, ix250, ix1, ix2, nI_add, nI_clamp, vin, true_and, and_true, or_true, true_or, mN3, mN6, mN7, mN8, mN9, mN10, mN12, mN13, mN14, mN15, mN16, mN17, mN18, mN19, mN20, mN21, mN23, mN24, mN25, mN26, mN33, mN34, mN35, mN37, mN39, mN40, mN41, e13, hns, ile, brf (show ¬ ns ≤ s by omega)]
    exact ⟨_, q_w49 (pf := pf) (b := b) hs hw (by omega) (fun J h1 h2 h3 h4 h5 => ih (s + 1) J (by omega) h1 h2 h3 h4 h5) nA 0 I (by omega) hS h37 h36' h34' fun n d hn hd => hf n d (by omega) hd⟩
theorem q_w7 (hs : ST I0 D nA) (hw : WQ D nA q b ns pf) (hl : bfr D q ns = some l) (h36 : I0 0 36 = 0) (hp : ∀ J, SF I0 J → FR J D nA t q ns → ER J D nA t q ns ns → LR J (FL D nA t q nA) → post (mp J)) : ∀ k j I, 1500 = j + k → SF I0 I → I 0 36 = I0 0 36 → (∀ x, x < j → I 34 x = 0) → wX9_work_7 post (k + 1) (some 0) (nI q) t (nI j) (mp I) := by
  intro k
  induction k with
  | zero =>
    intro j I hj hS h36' h34
    unfold wX9_work_7
    have h15 : (1500 : Int32) ≤ nI j := nI_le (a := 1500) (by omega) (by omega)
    rw [brt h15]
    exact ⟨_, q_w36 (SF_st hS hs) hw hl (by rw [h36', h36]) (fun x hx => h34 x (by omega)) (fun J h1 h2 h3 h4 => hp J (SF_trans hS h1) h2 h3 h4) ns 0 I (by omega) SF_rfl rfl rfl rfl (fun n d hn => by omega)⟩
  | succ k ih =>
    intro j I hj hS h36' h34
    unfold wX9_work_7
    have h15 : ¬ (1500 : Int32) ≤ nI j := nI_ge (b := 1500) (by omega) (by omega)
    rw [brf h15]
    simp (disch := first | decide | omega) only [m_I, m_R, m_rc, m_pI, m_aI, m_aZ, m_sI, m_sZ, z01, z11, ix3, ix6, ix250, ix1, ix2, nI_add, nI_clamp, vin, true_and, and_true, or_true, true_or, mN3, mN6, mN7, mN8, mN9, mN10, mN12, mN13, mN14, mN15, mN16, mN17, mN18, mN19, mN20, mN21, mN23, mN24, mN25, mN26, mN33, mN34, mN35, mN37, mN39, mN40, mN41]
    refine ih (j + 1) _ (by omega) (SF_p (SF_p hS (by omega)) (by omega)) (by rw [p2_ne (by omega), p2_ne (by omega), h36']) fun x hx => ?_
    by_cases e : x = j
    · rw [e, p2_same]
    · rw [p2_row e, p2_ne (by omega)]
      exact h34 x (by omega)
/-- work: rows of fits and ends, and the finds by tick -/
theorem q_work (hs : ST I0 D nA) (hw : WQ D nA q b ns pf) (hl : bfr D q ns = some l) (hp : ∀ J, SF I0 J → FR J D nA t q ns → ER J D nA t q ns ns → LR J (FL D nA t q nA) → post (mp J)) : wX9_work post (some 0) (nI q) t (mp I0) := by
  unfold wX9_work
  rw [m_pI]
  exact ⟨_, q_w7 (SF_st (SF_36 SF_rfl) hs) hw hl (by rw [p2_same]) (fun J h1 h2 h3 h4 => hp J (SF_trans (SF_36 SF_rfl) h1) h2 h3 h4) 1500 0 _ (by omega) SF_rfl rfl (fun x hx => by omega)⟩
end
