section
variable {Q : Mem} {n p : Nat} {m v : Int32} {post : Int32 → Pool → Prop}
theorem q_wrong {I : Mem} : wX9_wrong post (some 0) v (mp I) = post 0 (mp (p2 I 0 30 v)) := by
  unfold wX9_wrong
  simp only [m_pI, true_or, true_and]
theorem TX_s30 (hx : TX Q n) : TX (p2 Q 0 30 v) n := ⟨by rw [p2_row (by decide)]; exact hx.1, hx.2⟩
theorem isDg_n {x : Int32} (h : isDg x = true) : 48 ≤ x ∧ x ≤ 57 := by
  unfold isDg at h
  rwa [decide_eq_true_eq] at h
theorem q_digits {lo hi : Int32} (hx : TX Q n) (hp : p ≤ n) (hN : numS (Q 26) n (skp (Q 26) n p) lo hi = none → ∀ a', post 0 (mp (st (p2 Q 0 30 (nI (skp (Q 26) n p))) a' m))) (hS : ∀ v, numS (Q 26) n (skp (Q 26) n p) lo hi = some v → post 1 (mp (st Q (dep (Q 26) n (skp (Q 26) n p)) v))) : wX9_digits post (some 0) lo hi (mp (st Q p m)) := by
  have h28 := hx.1
  have hn := hx.2
  unfold wX9_digits
  rw [m_rc]
  refine q_sign' hx hp ?_
  rw [m_I, st_29]
  have hs := skp_le (T := Q 26) hp
  generalize skp (Q 26) n p = a at *
  have hde := dep_le (T := Q 26) hs
  have hdg := dep_ge (T := Q 26) (n := n) (p := a)
  have hfin : ∀ i, a + i = dep (Q 26) n a → i ≤ 6 → wX9_digits_105 post (some 0) lo hi (nI a) (nvS (Q 26) a i) (mp (st Q (a + i) m)) := by
    intro i hie h6
    have hwr : numS (Q 26) n a lo hi = none → wX9_digits_126 post (some 0) (nI a) (mp (st Q (a + i) m)) := fun h => by
      unfold wX9_digits_126
      simp only [m_rc, q_wrong, true_or, true_and]
      rw [st_s0 (by decide) (by decide)]
      exact hN h _
    have hnn : ∀ h : dep (Q 26) n a = a ∨ 6 < dep (Q 26) n a - a ∨ nvS (Q 26) a (dep (Q 26) n a - a) < lo ∨ hi < nvS (Q 26) a (dep (Q 26) n a - a), numS (Q 26) n a lo hi = none := fun h => by unfold numS; rw [if_pos h]
    unfold wX9_digits_105
    simp (disch := first | decide | omega) only [m_I, m_pI, st_29, true_or, or_true, true_and]
    rw [show i = dep (Q 26) n a - a by omega]
    refine brc (fun h => ?_) fun h => brc (fun h1 => ?_) fun h1 => brc (fun h2 => ?_) fun h2 => ?_
    · rw [nI_eq (by omega) (by omega)] at h
      rw [show dep (Q 26) n a - a = i by omega]
      exact hwr (hnn (.inl (by omega)))
    · rw [show dep (Q 26) n a - a = i by omega]
      exact hwr (hnn (.inr (.inr (.inl h1))))
    · rw [st_s31, show a + (dep (Q 26) n a - a) = dep (Q 26) n a by omega]
      refine hS _ ?_
      unfold numS
      rw [nI_eq (by omega) (by omega)] at h
      rw [if_neg (fun z => z.elim (fun z => h (by omega)) fun z => z.elim (fun z => by omega) fun z => z.elim h1 fun z => Int32.not_le.mpr z h2)]
    · rw [show dep (Q 26) n a - a = i by omega]
      exact hwr (hnn (.inr (.inr (.inr (Int32.not_le.mp h2)))))
  have hl : ∀ k i, n = a + i + k → i ≤ 6 → a + i ≤ dep (Q 26) n a → (a + i < dep (Q 26) n a ∨ a + i = dep (Q 26) n a) → wX9_digits_14 post (k + 1) (some 0) lo hi (nI a) (nvS (Q 26) a i) (mp (st Q (a + i) m)) := by
    intro k
    induction k with
    | zero =>
      intro i hie h6 hle hlt
      unfold wX9_digits_14
      simp (disch := first | decide | omega) only [m_I, m_R, m_rc, m_pI, m_aI, m_aZ, m_sI, m_sZ, z01, z11, ix3, ix6, ix250, ix1, ix2, nI_add, nI_clamp, vin, true_and, and_true, or_true, true_or, mN3, mN6, mN7, mN8, mN9, mN10, mN12, mN13, mN14, mN15, mN16, mN17, mN18, mN19, mN20, mN21, mN23, mN24, mN25, mN26, mN33, mN34, mN35, mN37, mN39, mN40, mN41, st_29, st_0, st_c, h28, ile, brt (show n ≤ a + i by omega)]
      exact hfin i (by omega) h6
    | succ k ih =>
      intro i hie h6 hle hlt
      unfold wX9_digits_14
      simp (disch := first | decide | omega) only [m_I, m_R, m_rc, m_pI, m_aI, m_aZ, m_sI, m_sZ, z01, z11, ix3, ix6, ix250, ix1, ix2, nI_add, nI_clamp, vin, true_and, and_true, or_true, true_or, mN3, mN6, mN7, mN8, mN9, mN10, mN12, mN13, mN14, mN15, mN16, mN17, mN18, mN19, mN20, mN21, mN23, mN24, mN25, mN26, mN33, mN34, mN35, mN37, mN39, mN40, mN41, st_29, st_0, st_c, h28, ile, brf (show ¬ n ≤ a + i by omega)]
      rcases hlt with hlt | hlt
      · have hdig := isDg_n ((run_ge _ a rfl).2.2.1 (a + i) (by omega) (show a + i < dep (Q 26) n a from hlt))
        rw [brf (Int32.not_lt.mpr hdig.1), brf (Int32.not_lt.mpr hdig.2), pk_sub (by omega), show a + i - a = i by omega]
        refine brc (fun h => ?_) fun h => ?_
        · rw [show (6 : Int32) = nI 6 from rfl, nI_eq (by omega) (by omega)] at h
          simp only [m_rc, q_wrong, true_or, true_and]
          rw [st_s0 (by decide) (by decide)]
          refine hN ?_ _
          unfold numS
          rw [if_pos (.inr (.inl (by omega)))]
        · have h6' : ¬ i = 6 := fun z => h (by rw [z]; rfl)
          rw [st_s29]
          exact ih (i + 1) (by omega) (by omega) (by omega) (by omega)
      · have hnd : isDg (Q 26 (a + i)) = false := by
          have := (run_ge (P := isDg) (T := Q 26) (n := n) _ a rfl).2.2.2
          have h2 : run isDg (Q 26) n a = a + i := hlt.symm
          rw [h2] at this
          exact this (by omega)
        refine brc (fun _ => hfin i hlt h6) fun h1 => brc (fun _ => hfin i hlt h6) fun h2 => ?_
        unfold isDg at hnd
        rw [decide_eq_false_iff_not] at hnd
        exact absurd ⟨Int32.not_lt.mp h1, Int32.not_lt.mp h2⟩ hnd
  exact ⟨_, hl (n - a) 0 (by omega) (by omega) (by omega) (by omega)⟩
theorem q_fld (hx : TX Q n) (hp : p ≤ n) (h : post (oI (fldS (Q 26) n (skp (Q 26) n p))) (mp (st Q (skp (Q 26) n p) m))) : wX9_fieldHere post (some 0) (mp (st Q p m)) := by
  unfold wX9_fieldHere
  rw [cw_who, cw_what, cw_where]
  have hs := skp_le (T := Q 26) hp
  unfold fldS at h
  simp only [m_rc]
  refine q_isW (w := 1) (by decide) hx hp ?_
  rw [bI_br]
  refine brc (fun h1 => ?_) fun h1 => ?_
  · rw [if_pos h1] at h; exact h
  rw [if_neg h1] at h
  rw [m_rc]
  refine q_isW (w := 2) (by decide) hx hs ?_
  rw [bI_br, skp_sk]
  refine brc (fun h2 => ?_) fun h2 => ?_
  · rw [if_pos h2] at h; exact h
  rw [if_neg h2] at h
  rw [m_rc]
  refine q_isW (w := 3) (by decide) hx hs ?_
  rw [bI_br, skp_sk]
  refine brc (fun h3 => ?_) fun h3 => ?_
  · rw [if_pos h3] at h; exact h
  rw [if_neg h3] at h
  exact h
theorem oI_none {o : Option Nat} (h : o = none) : oI o = -1 := by rw [h]; rfl
theorem fldS_lt {T : Nat → Int32} {f : Nat} (h : fldS T n p = some f) : f < 3 := by
  unfold fldS at h
  repeat' split at h
  all_goals first | (cases h; decide) | (cases h; done)
theorem q_rdF (hx : TX Q n) (hp : p ≤ n) (hN : fldS (Q 26) n (skp (Q 26) n p) = none → post 0 (mp (st (p2 Q 0 30 (nI (skp (Q 26) n p))) (skp (Q 26) n p) m))) (hS : ∀ f, fldS (Q 26) n (skp (Q 26) n p) = some f → post 1 (mp (st (p2 Q 0 32 (bitF (Q 0 32) f)) (wep (Q 26) n (skp (Q 26) n p)) (nI f)))) : wX9_readField post (some 0) (mp (st Q p m)) := by
  unfold wX9_readField
  have hs := skp_le (T := Q 26) hp
  rw [m_rc]
  refine q_fld hx hp ?_
  cases hf : fldS (Q 26) n (skp (Q 26) n p) with
  | none =>
    rw [brt (show oI none = -1 from rfl)]
    simp only [m_rc, m_I, st_29, q_wrong, true_or, true_and]
    rw [st_s0 (by decide) (by decide)]
    exact hN hf
  | some f =>
    have hf3 := fldS_lt hf
    rw [brf (show ¬ oI (some f) = -1 from nI_nm1 (by omega)), m_rc]
    refine q_wend' hx hs ?_
    simp only [m_I, m_pI, true_or, or_true, true_and]
    rw [st_s29, st_0 (by decide) (by decide), st_s0 (by decide) (by decide), st_s31]
    exact hS f hf
theorem q_pass {w : Nat} (hw : w < 9) (hx : TX Q n) (hp : p ≤ n) (hN : isWb (Q 26) n (skp (Q 26) n p) w = false → post 0 (mp (st (p2 Q 0 30 (nI (skp (Q 26) n p))) (skp (Q 26) n p) m))) (hS : isWb (Q 26) n (skp (Q 26) n p) w = true → post 1 (mp (st Q (wep (Q 26) n (skp (Q 26) n p)) m))) : wX9_passes post (some 0) (cwd w) (mp (st Q p m)) := by
  unfold wX9_passes wX9_takes wX9_passes_19
  have hs := skp_le (T := Q 26) hp
  simp only [m_rc]
  refine q_isW hw hx hp ?_
  rw [bI_br]
  refine brc (fun h => ?_) fun h => ?_
  · rw [m_rc]
    refine q_wend' hx hs ?_
    simp only [m_pI, true_or, or_true, true_and, st_s29, c10, brF]
    exact hS h
  · simp only [true_or, or_true, true_and, c00, brT, m_I, m_rc, st_29, q_wrong]
    rw [st_s0 (by decide) (by decide)]
    exact hN (Bool.eq_false_iff.mpr h)
theorem q_pend {I : Mem} {w : Bool} : ∀ s, s ≤ 6 → post (bI (pnd I w s = true)) (mp I) → ∃ k, wX9_pending_8 post k (some 0) (if w then 1 else 0) 48 (nI s - 1) (mp I) := by
  intro s
  induction s with
  | zero =>
    intro _ h
    refine ⟨1, ?_⟩
    unfold wX9_pending_8
    rw [brt (by decide)]
    rw [bI_f (by unfold pnd; decide)] at h
    simp only [true_or, true_and]
    exact h
  | succ s ih =>
    intro hs h
    rw [nI_pred]
    unfold pnd at h
    by_cases h0 : I 14 (48 + s) = 0
    · refine ⟨1, ?_⟩
      unfold wX9_pending_8
      rw [brf (nI_pos (by omega))]
      simp (disch := first | decide | omega) only [m_I, m_R, m_rc, m_pI, m_aI, m_aZ, m_sI, m_sZ, z01, z11, ix3, ix6, ix250, ix1, ix2, nI_add, nI_clamp, vin, true_and, and_true, or_true, true_or, mN3, mN6, mN7, mN8, mN9, mN10, mN12, mN13, mN14, mN15, mN16, mN17, mN18, mN19, mN20, mN21, mN23, mN24, mN25, mN26, mN33, mN34, mN35, mN37, mN39, mN40, mN41, ix48, brt h0]
      rw [bI_f (by simp [h0])] at h
      exact h
    · have hstep : (decide (¬ I 18 (48 + s) = -1) == w) = false → post (bI (pnd I w s = true)) (mp I) := fun g => by
        have e : (decide (¬ I 14 (48 + s) = 0) && ((decide (¬ I 18 (48 + s) = -1) == w) || pnd I w s)) = pnd I w s := by
          rw [g]; simp [h0]
        rw [e] at h
        exact h
      have hyes : (decide (¬ I 18 (48 + s) = -1) == w) = true → post 1 (mp I) := fun g => by
        rw [bI_t (by rw [g]; simp [h0])] at h
        exact h
      cases hd : (decide (¬ I 18 (48 + s) = -1) == w) with
      | true =>
        refine ⟨1, ?_⟩
        unfold wX9_pending_8 wX9_pending_43
        rw [brf (nI_pos (by omega))]
        simp (disch := first | decide | omega) only [m_I, m_R, m_rc, m_pI, m_aI, m_aZ, m_sI, m_sZ, z01, z11, ix3, ix6, ix250, ix1, ix2, nI_add, nI_clamp, vin, true_and, and_true, or_true, true_or, mN3, mN6, mN7, mN8, mN9, mN10, mN12, mN13, mN14, mN15, mN16, mN17, mN18, mN19, mN20, mN21, mN23, mN24, mN25, mN26, mN33, mN34, mN35, mN37, mN39, mN40, mN41, ix48, brf h0]
        have h1 := hyes hd
        refine brc (fun h2 => ?_) fun h2 => ?_
        · rw [brt (show (0 : Int32) = if w = true then 1 else 0 by
            cases w
            · rfl
            · simp [h2] at hd)]
          exact h1
        · rw [brt (show (1 : Int32) = if w = true then 1 else 0 by
            cases w
            · simp [h2] at hd
            · rfl)]
          exact h1
      | false =>
        obtain ⟨k, hk⟩ := ih (by omega) (hstep hd)
        refine ⟨k + 1, ?_⟩
        unfold wX9_pending_8 wX9_pending_43
        rw [brf (nI_pos (by omega))]
        simp (disch := first | decide | omega) only [m_I, m_R, m_rc, m_pI, m_aI, m_aZ, m_sI, m_sZ, z01, z11, ix3, ix6, ix250, ix1, ix2, nI_add, nI_clamp, vin, true_and, and_true, or_true, true_or, mN3, mN6, mN7, mN8, mN9, mN10, mN12, mN13, mN14, mN15, mN16, mN17, mN18, mN19, mN20, mN21, mN23, mN24, mN25, mN26, mN33, mN34, mN35, mN37, mN39, mN40, mN41, ix48, brf h0, ixsub]
        refine brc (fun h2 => ?_) fun h2 => ?_
        · rw [brf (show ¬ (0 : Int32) = if w = true then 1 else 0 by
            cases w
            · simp [h2] at hd
            · simp)]
          exact hk
        · rw [brf (show ¬ (1 : Int32) = if w = true then 1 else 0 by
            cases w
            · simp
            · simp [h2] at hd)]
          exact hk
theorem pnd_st {a : Nat} {w : Bool} : ∀ s, pnd (st Q a m) w s = pnd Q w s := by
  intro s
  induction s with
  | zero => rfl
  | succ s ih =>
    unfold pnd
    rw [ih, st_c (by decide), st_c (by decide)]
theorem q_pend1 {a s : Nat} (hs : s ≤ 6) (h : post (bI (pnd Q true s = true)) (mp (st Q a m))) : wX9_pending post (some 0) (nI s) 1 (mp (st Q a m)) := q_pend (w := true) s hs (by rw [pnd_st]; exact h)
theorem q_pend0 {a s : Nat} (hs : s ≤ 6) (h : post (bI (pnd Q false s = true)) (mp (st Q a m))) : wX9_pending post (some 0) (nI s) 0 (mp (st Q a m)) := q_pend (w := false) s hs (by rw [pnd_st]; exact h)
end
