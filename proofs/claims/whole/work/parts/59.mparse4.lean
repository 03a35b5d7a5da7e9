section
variable {Q0 Q : Mem} {T : Nat → Int32} {n p s d : Nat} {m v : Int32} {post : Int32 → Pool → Prop}
theorem w_88 {a : Nat} (hx : HT Q0 T n) (hQ : PR Q0 Q) (hs : s < 6) (hd : d = 48 + s) (ha : a ≤ n) (hini : ∀ f, f < 3 → Q 16 (3 * d + f) = -1) (h : GO Q0 T n post (kindS T n s d Q (skp T n a))) : wX9_readStep_88 post (some 0) (nI s) (nI d) (mp (st Q a m)) := by
  have hn := hx.1.2
  have hx' := HT_pr hQ hx
  have hsa := skp_le (T := T) ha
  have h116 : GO Q0 T n post (.inl (skp T n a)) → wX9_readStep_116 post (some 0) (mp (st Q (skp T n a) m)) := fun g => by
    unfold wX9_readStep_116
    simp only [m_rc, m_I, st_29, q_wrong, true_or, true_and]
    rw [st_s0 (by decide) (by decide)]
    exact GO_f g hQ
  unfold kindS at h
  have h125 : ¬ (isWb T n (skp T n a) 6 = false ∨ (Q 14 d = 0 ∧ pnd Q true s = true)) → wX9_readStep_125 post (some 0) (nI s) (nI d) (mp (st Q (skp T n a) m)) := fun g => by
    rw [if_neg g] at h
    unfold wX9_readStep_125
    rw [m_rc]
    refine w_wend hx' hsa ?_
    have hwa := wep_le (T := T) hsa
    rw [m_pI, st_s29, m_rc]
    refine w_digits hx' hwa (fun g a' => ?_) (fun v g => ?_)
    · rw [g] at h
      simp only [c00, brT, true_or, true_and]
      exact GO_f h hQ
    · rw [g] at h
      simp only at h
      simp (disch := first | decide | omega) only [m_I, m_R, m_rc, m_pI, m_aI, m_aZ, m_sI, m_sZ, z01, z11, ix3, ix6, ix250, ix1, ix2, nI_add, nI_clamp, vin, true_and, and_true, or_true, true_or, mN3, mN6, mN7, mN8, mN9, mN10, mN12, mN13, mN14, mN15, mN16, mN17, mN18, mN19, mN20, mN21, mN23, mN24, mN25, mN26, mN33, mN34, mN35, mN37, mN39, mN40, mN41, c10, brF, st_31, st_sc]
      have hQ2 : PR Q0 (p2 Q 15 d v) := PR_p hQ (sl15 (by omega))
      have hda := dep_le (T := T) (skp_le (T := T) hwa)
      refine w_fld (HT_pr hQ2 hx) hda ?_
      refine ⟨4, w_160 hx hs hd 4 _ _ _ hQ2 (skp_le hda) skp_sk h ?_⟩
      have hc : ∀ j, j ≤ 3 → cnt (fun f => p2 Q 15 d v 16 (3 * d + f) = -1) j = j := by
        intro j
        induction j with
        | zero => intro _; rfl
        | succ j ih =>
          intro hj
          rw [cnt_t (p := fun f => p2 Q 15 d v 16 (3 * d + f) = -1) (by rw [p2_ne (by decide)]; exact hini j (by omega)), ih (by omega)]
      rw [hc 3 (by omega)]
  unfold wX9_readStep_88
  rw [cw_kind, m_rc]
  refine w_isW (by decide) hx' ha ?_
  rw [bI_br]
  refine brc (fun h1 => ?_) fun h1 => ?_
  · simp (disch := first | decide | omega) only [m_I, m_R, m_rc, m_pI, m_aI, m_aZ, m_sI, m_sZ, z01, z11, ix3, ix6, ix250, ix1, ix2, nI_add, nI_clamp, vin, true_and, and_true, or_true, true_or, mN3, mN6, mN7, mN8, mN9, mN10, mN12, mN13, mN14, mN15, mN16, mN17, mN18, mN19, mN20, mN21, mN23, mN24, mN25, mN26, mN33, mN34, mN35, mN37, mN39, mN40, mN41, st_c]
    refine brc (fun h2 => ?_) fun h2 => ?_
    · refine q_pend1 (by omega) ?_
      rw [bI_br]
      refine brc (fun h3 => ?_) fun h3 => ?_
      · rw [if_pos (.inr ⟨h2, h3⟩)] at h
        exact h116 h
      · exact h125 fun z => z.elim (fun z => by rw [h1] at z; cases z) fun z => h3 z.2
    · exact h125 fun z => z.elim (fun z => by rw [h1] at z; cases z) fun z => h2 z.1
  · rw [if_pos (.inl (Bool.eq_false_iff.mpr h1))] at h
    exact h116 h
theorem iniS_16 {f : Nat} (hf : f < 3) : iniS d Q 16 (3 * d + f) = -1 := by
  unfold iniS
  rw [p2_ne (by decide), p2_ne (by decide), p2_ne (by decide)]
  have : f = 0 ∨ f = 1 ∨ f = 2 := by omega
  rcases this with rfl | rfl | rfl
  · rw [p2_row (by omega), p2_row (by omega)]; exact p2_same
  · rw [p2_row (by omega)]; exact p2_same
  · exact p2_same
theorem PR_ini (hQ : PR Q0 Q) (hd : 48 ≤ d) : PR Q0 (iniS d Q) := PR_p (PR_p (PR_p (PR_p (PR_p (PR_p hQ (sl16 (by omega))) (sl16 (by omega))) (sl16 (by omega))) (sl17 hd)) (sl18 hd)) (sl14 hd)
theorem w_step {a : Nat} (hx : HT Q0 T n) (hQ : PR Q0 Q) (hs : s < 6) (ha : a ≤ n) (h : GO Q0 T n post (stepS T n s Q (skp T n a))) : wX9_readStep post (some 0) (nI s) (mp (st Q a m)) := by
  have hn := hx.1.2
  have hsa := skp_le (T := T) ha
  have hQ2 := PR_ini (d := 48 + s) hQ (by omega)
  have hx' := HT_pr hQ2 hx
  unfold wX9_readStep
  rw [ix48]
  have h3 : ∀ J : Mem, J = st (iniS (48 + s) Q) a m → wX9_isWord (fun a9 S8 => br (a9 = 0) (wX9_readStep_88 post (some 0) (nI s) (nI (48 + s)) S8) (br (nI s = 0) (xI S8 (some 0) 9 29 fun a17 => xrc S8 (some 0) 9 (wX9_wrong (fun a19 S18 => (a19 = 0 ∨ a19 = 1) ∧ post a19 S18) (some 0) a17 S8)) (xrc S8 (some 0) 9 (wX9_wordEnd (fun a13 S12 => xpI S12 (some 0) 9 29 a13 fun S14 => xR S14 (some 0) 9 14 fun a15 => xsZ S14 a15 11 (nI (48 + s)) 1 fun S16 => wX9_readStep_88 post (some 0) (nI s) (nI (48 + s)) S16) (some 0) S8)))) (some 0) (cwd 7) (mp J) := by
    intro J hJ
    rw [hJ]
    refine w_isW (by decide) hx' ha ?_
    rw [bI_br]
    unfold stepS at h
    refine brc (fun h1 => ?_) fun h1 => ?_
    · rw [if_pos h1] at h
      refine brc (fun h2 => ?_) fun h2 => ?_
      · rw [show (0 : Int32) = nI 0 from rfl, nI_eq (by omega) (by omega)] at h2
        rw [if_pos h2] at h
        simp only [m_rc, m_I, st_29, q_wrong, true_or, true_and]
        rw [st_s0 (by decide) (by decide)]
        exact GO_f h hQ2
      · rw [if_neg (fun z => h2 (by rw [z]; rfl))] at h
        rw [m_rc]
        refine w_wend hx' hsa ?_
        simp (disch := first | decide | omega) only [m_I, m_R, m_rc, m_pI, m_aI, m_aZ, m_sI, m_sZ, z01, z11, ix3, ix6, ix250, ix1, ix2, nI_add, nI_clamp, vin, true_and, and_true, or_true, true_or, mN3, mN6, mN7, mN8, mN9, mN10, mN12, mN13, mN14, mN15, mN16, mN17, mN18, mN19, mN20, mN21, mN23, mN24, mN25, mN26, mN33, mN34, mN35, mN37, mN39, mN40, mN41, st_s29, st_sc]
        refine w_88 hx (PR_p hQ2 (sl14 (by omega))) hs rfl (wep_le hsa) (fun f hf => ?_) h
        rw [p2_ne (by decide)]
        exact iniS_16 hf
    · rw [if_neg h1] at h
      exact w_88 hx hQ2 hs rfl hsa (fun f hf => iniS_16 hf) (by rw [skp_sk]; exact h)
  have hx0 := HT_pr hQ hx
  refine ⟨3 + 1, ?_⟩
  unfold wX9_readStep_7
  rw [brf (by decide)]
  simp (disch := first | decide | omega) only [m_I, m_R, m_rc, m_pI, m_aI, m_aZ, m_sI, m_sZ, z01, z11, ix3, ix6, ix250, ix1, ix2, nI_add, nI_clamp, vin, true_and, and_true, or_true, true_or, mN3, mN6, mN7, mN8, mN9, mN10, mN12, mN13, mN14, mN15, mN16, mN17, mN18, mN19, mN20, mN21, mN23, mN24, mN25, mN26, mN33, mN34, mN35, mN37, mN39, mN40, mN41, st_sc, Int32.add_zero]
  rw [show (0 : Int32) + 1 = nI 1 from rfl]
  show wX9_readStep_7 post (2 + 1) _ _ _ _ _
  unfold wX9_readStep_7
  rw [brf (by decide)]
  simp (disch := first | decide | omega) only [m_I, m_R, m_rc, m_pI, m_aI, m_aZ, m_sI, m_sZ, z01, z11, ix3, ix6, ix250, ix1, ix2, nI_add, nI_clamp, vin, true_and, and_true, or_true, true_or, mN3, mN6, mN7, mN8, mN9, mN10, mN12, mN13, mN14, mN15, mN16, mN17, mN18, mN19, mN20, mN21, mN23, mN24, mN25, mN26, mN33, mN34, mN35, mN37, mN39, mN40, mN41, st_sc]
  show wX9_readStep_7 post (1 + 1) _ _ _ _ _
  unfold wX9_readStep_7
  rw [brf (by decide)]
  simp (disch := first | decide | omega) only [m_I, m_R, m_rc, m_pI, m_aI, m_aZ, m_sI, m_sZ, z01, z11, ix3, ix6, ix250, ix1, ix2, nI_add, nI_clamp, vin, true_and, and_true, or_true, true_or, mN3, mN6, mN7, mN8, mN9, mN10, mN12, mN13, mN14, mN15, mN16, mN17, mN18, mN19, mN20, mN21, mN23, mN24, mN25, mN26, mN33, mN34, mN35, mN37, mN39, mN40, mN41, st_sc]
  show wX9_readStep_7 post (0 + 1) _ _ _ _ _
  unfold wX9_readStep_7
  rw [brt (by decide)]
  simp (disch := first | decide | omega) only [m_I, m_R, m_rc, m_pI, m_aI, m_aZ, m_sI, m_sZ, z01, z11, ix3, ix6, ix250, ix1, ix2, nI_add, nI_clamp, vin, true_and, and_true, or_true, true_or, mN3, mN6, mN7, mN8, mN9, mN10, mN12, mN13, mN14, mN15, mN16, mN17, mN18, mN19, mN20, mN21, mN23, mN24, mN25, mN26, mN33, mN34, mN35, mN37, mN39, mN40, mN41, st_sc, cw_not]
  exact h3 _ rfl
end
