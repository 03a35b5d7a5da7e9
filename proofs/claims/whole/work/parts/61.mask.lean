section
variable {Q0 Q I : Mem} {T : Nat → Int32} {n p s d nQ : Nat} {m v : Int32} {post : Int32 → Pool → Prop}
theorem w_text (hx : HT Q0 T n) (hQ : PR Q0 Q) (hb : ∀ i, i < n → ¬ T i = -1) (h : GO2 Q0 post (textS T n Q)) : wX9_readText post (some 0) (mp (st Q 0 m)) := by
  have hn := hx.1.2
  unfold wX9_readText
  have hQ1 : PR Q0 (p2 (p2 (p2 Q 0 32 0) 13 8 0) 19 8 (-1)) := PR_p (PR_p (PR_p hQ rfl) rfl) rfl
  rw [m_pI, st_s0 (by decide) (by decide)]
  simp (disch := first | decide | omega) only [m_I, m_R, m_rc, m_pI, m_aI, m_aZ, m_sI, m_sZ, z01, z11, ix3, ix6, ix250, ix1, ix2, nI_add, nI_clamp, vin, true_and, and_true, or_true, true_or, mN3, mN6, mN7, mN8, mN9, mN10, mN12, mN13, mN14, mN15, mN16, mN17, mN18, mN19, mN20, mN21, mN23, mN24, mN25, mN26, mN33, mN34, mN35, mN37, mN39, mN40, mN41, vin8, cl8, st_sc, cw_by]
  unfold textS at h
  refine w_pass (w := 0) (by decide) (HT_pr hQ1 hx) (Nat.zero_le _) (fun g => ?_) fun g => ?_
  · simp only [if_pos g] at h
    simp only [c00, brT, true_or, true_and]
    exact GO2_f h hQ1
  simp only [if_neg (show ¬ isWb T n (skp T n 0) 0 = false by rw [g]; decide)] at h
  have h1 := wep_le (T := T) (skp_le (T := T) (Nat.zero_le n))
  simp only [c10, brF, m_rc]
  refine w_rdF (HT_pr hQ1 hx) h1 (fun g => ?_) fun f g => ?_
  · rw [g] at h
    simp only [c00, brT, true_or, true_and]
    exact GO2_f h hQ1
  rw [g] at h
  simp only at h
  have hf3 := fldS_lt g
  have h2 := wep_le (T := T) (skp_le (T := T) h1)
  have e32 : p2 (p2 (p2 Q 0 32 0) 13 8 0) 19 8 (-1) 0 32 = 0 := by rw [p2_ne (by decide), p2_ne (by decide), p2_same]
  have hQ2 : PR Q0 (p2 (p2 (p2 (p2 (p2 Q 0 32 0) 13 8 0) 19 8 (-1)) 0 32 (bitF 0 f)) 12 8 (nI f)) := PR_p (PR_p hQ1 rfl) rfl
  simp (disch := first | decide | omega) only [m_I, m_R, m_rc, m_pI, m_aI, m_aZ, m_sI, m_sZ, z01, z11, ix3, ix6, ix250, ix1, ix2, nI_add, nI_clamp, vin, true_and, and_true, or_true, true_or, mN3, mN6, mN7, mN8, mN9, mN10, mN12, mN13, mN14, mN15, mN16, mN17, mN18, mN19, mN20, mN21, mN23, mN24, mN25, mN26, mN33, mN34, mN35, mN37, mN39, mN40, mN41, c10, brF, st_31, st_sc, vin8, cl8, e32]
  refine w_sign (HT_pr hQ2 hx) h2 ?_
  by_cases hlt : skp T n (wep T n (skp T n (wep T n (skp T n 0)))) < n
  · rw [if_pos hlt]
    refine brc (fun g5 => ?_) fun g5 => ?_
    · rw [if_pos ⟨hlt, g5⟩] at h
      exact ⟨_, w_loop hx hb 7 0 _ _ _ rfl (by decide) hQ2 hlt (by rw [p2_ne (by decide), p2_ne (by decide), p2_ne (by decide), p2_same]; rfl) h⟩
    · rw [if_neg (fun z => g5 z.2)] at h
      simp only [m_rc, m_I, st_29, q_wrong, true_or, true_and]
      rw [st_s0 (by decide) (by decide)]
      exact GO2_f h hQ2
  · rw [if_neg hlt, brf (by decide)]
    rw [if_neg (fun z => hlt z.1)] at h
    simp only [m_rc, m_I, st_29, q_wrong, true_or, true_and]
    rw [st_s0 (by decide) (by decide)]
    exact GO2_f h hQ2
/-- the slot 8 of Q lies in the slot q of J too; else J is Q -/
def AK (Q J : Mem) (q : Nat) : Prop := J 0 11 = nI (q + 1) ∧ (∀ c, c ∈ [12, 13, 19, 20, 21] → J c q = Q c 8) ∧ (∀ s, s < 6 → ∀ c, c ∈ [14, 15, 17, 18] → J c (6 * q + s) = Q c (48 + s)) ∧ (∀ s f, s < 6 → f < 3 → J 16 (3 * (6 * q + s) + f) = Q 16 (3 * (48 + s) + f)) ∧ ∀ c k, ¬ (c = 0 ∧ k = 11) → ¬ (c ∈ [12, 13, 19, 20, 21] ∧ k = q) → ¬ (c ∈ [14, 15, 17, 18] ∧ 6 * q ≤ k ∧ k < 6 * q + 6) → ¬ (c = 16 ∧ 18 * q ≤ k ∧ k < 18 * q + 18) → J c k = Q c k
/-- behind s steps of the copying -/
def AKs (Q J : Mem) (q s : Nat) : Prop := J 0 11 = nI (q + 1) ∧ (∀ c, c ∈ [12, 13, 19, 20, 21] → J c q = Q c 8) ∧ (∀ s', s' < s → ∀ c, c ∈ [14, 15, 17, 18] → J c (6 * q + s') = Q c (48 + s')) ∧ (∀ s' f, s' < s → f < 3 → J 16 (3 * (6 * q + s') + f) = Q 16 (3 * (48 + s') + f)) ∧ ∀ c k, ¬ (c = 0 ∧ k = 11) → ¬ (c ∈ [12, 13, 19, 20, 21] ∧ k = q) → ¬ (c ∈ [14, 15, 17, 18] ∧ 6 * q ≤ k ∧ k < 6 * q + s) → ¬ (c = 16 ∧ 18 * q ≤ k ∧ k < 18 * q + 3 * s) → J c k = Q c k
theorem w_103 (h00 : Q 0 0 = 0) (h11 : Q 0 11 = nI nQ) (h8 : nQ < 8) (hz : ∀ s, s < 6 → (Q 14 (48 + s) = 0 ∨ Q 14 (48 + s) = 1) ∧ (Q 17 (48 + s) = 0 ∨ Q 17 (48 + s) = 1)) (h : ∀ J, AK Q J nQ → post (nI nQ) (mp J)) : wX9_ask_103 post (some 0) (mp Q) := by
  have hl : ∀ k s J, 6 = s + k → AKs Q J nQ s → wX9_ask_194 post (k + 1) (some 0) (nI nQ) (nI s) (mp J) := by
    intro k
    induction k with
    | zero =>
      intro s J hs hJ
      have e : s = 6 := by omega
      subst e
      unfold wX9_ask_194
      rw [brt (show (6 : Int32) ≤ nI 6 by decide)]
      exact h J ⟨hJ.1, hJ.2.1, hJ.2.2.1, hJ.2.2.2.1, fun c k h1 h2 h3 h4 => hJ.2.2.2.2 c k h1 h2 h3 (fun z => h4 ⟨z.1, z.2.1, by omega⟩)⟩
    | succ k ih =>
      intro s J hs hJ
      obtain ⟨j1, j2, j3, j4, j5⟩ := hJ
      have r14 : J 14 (48 + s) = Q 14 (48 + s) := j5 14 (48 + s) (by omega) (by simp) (by simp; omega) (by omega)
      have r15 : J 15 (48 + s) = Q 15 (48 + s) := j5 15 (48 + s) (by omega) (by simp) (by simp; omega) (by omega)
      have r17 : J 17 (48 + s) = Q 17 (48 + s) := j5 17 (48 + s) (by omega) (by simp) (by simp; omega) (by omega)
      have r18 : J 18 (48 + s) = Q 18 (48 + s) := j5 18 (48 + s) (by omega) (by simp) (by simp; omega) (by omega)
      have r16 : ∀ f, f < 3 → J 16 (3 * (48 + s) + f) = Q 16 (3 * (48 + s) + f) := fun f hf => j5 16 _ (by omega) (by simp) (by simp) (by omega)
      have z14 := (hz s (by omega)).1
      have z17 := (hz s (by omega)).2
      unfold wX9_ask_194
      rw [brf (show ¬ (6 : Int32) ≤ nI s from nI_ge (b := 6) (by omega) (by omega))]
      simp (disch := first | decide | omega) only [m_I, m_R, m_rc, m_pI, m_aI, m_aZ, m_sI, m_sZ, z01, z11, ix3, ix6, ix250, ix1, ix2, nI_add, nI_clamp, vin, true_and, and_true, or_true, true_or, mN3, mN6, mN7, mN8, mN9, mN10, mN12, mN13, mN14, mN15, mN16, mN17, mN18, mN19, mN20, mN21, mN23, mN24, mN25, mN26, mN33, mN34, mN35, mN37, mN39, mN40, mN41, ix48, p2_ne, r14, r15, r17, r18, eq_true z14, eq_true z17]
      have hin : ∀ k2 f J2, 3 = f + k2 → AKs Q J2 nQ s → (∀ c, c ∈ [14, 15, 17, 18] → J2 c (6 * nQ + s) = Q c (48 + s)) → True := fun _ _ _ _ _ _ => trivial
      have h3 : ∀ k2 f J2, 3 = f + k2 → J2 0 11 = nI (nQ + 1) → (∀ c, c ∈ [12, 13, 19, 20, 21] → J2 c nQ = Q c 8) → (∀ s', s' < s + 1 → ∀ c, c ∈ [14, 15, 17, 18] → J2 c (6 * nQ + s') = Q c (48 + s')) → (∀ s' f', (s' < s ∨ s' = s ∧ f' < f) → f' < 3 → J2 16 (3 * (6 * nQ + s') + f') = Q 16 (3 * (48 + s') + f')) → (∀ c k, ¬ (c = 0 ∧ k = 11) → ¬ (c ∈ [12, 13, 19, 20, 21] ∧ k = nQ) → ¬ (c ∈ [14, 15, 17, 18] ∧ 6 * nQ ≤ k ∧ k < 6 * nQ + (s + 1)) → ¬ (c = 16 ∧ 18 * nQ ≤ k ∧ k < 18 * nQ + 3 * s + f) → J2 c k = Q c k) → wX9_ask_273 (wX9_ask_194 post (k + 1)) post (k2 + 1) (some 0) (nI nQ) (nI s) (nI (48 + s)) (nI (6 * nQ + s)) (nI f) (mp J2) := by
        intro k2
        induction k2 with
        | zero =>
          intro f J2 hf a1 a2 a3 a4 a5
          unfold wX9_ask_273
          rw [brt (show (3 : Int32) ≤ nI f from nI_le (a := 3) (by omega) (by omega)), ix1]
          exact ih (s + 1) J2 (by omega) ⟨a1, a2, a3, fun s' f' h1 h2 => a4 s' f' (by omega) h2, fun c k h1 h2 h3 h4 => a5 c k h1 h2 h3 (fun z => h4 ⟨z.1, z.2.1, by omega⟩)⟩
        | succ k2 ih2 =>
          intro f J2 hf a1 a2 a3 a4 a5
          have r : J2 16 (3 * (48 + s) + f) = Q 16 (3 * (48 + s) + f) := a5 16 _ (by omega) (by simp) (by simp) (by omega)
          unfold wX9_ask_273
          rw [brf (show ¬ (3 : Int32) ≤ nI f from nI_ge (b := 3) (by omega) (by omega))]
          simp (disch := first | decide | omega) only [m_I, m_R, m_rc, m_pI, m_aI, m_aZ, m_sI, m_sZ, z01, z11, ix3, ix6, ix250, ix1, ix2, nI_add, nI_clamp, vin, true_and, and_true, or_true, true_or, mN3, mN6, mN7, mN8, mN9, mN10, mN12, mN13, mN14, mN15, mN16, mN17, mN18, mN19, mN20, mN21, mN23, mN24, mN25, mN26, mN33, mN34, mN35, mN37, mN39, mN40, mN41, r]
          refine ih2 (f + 1) _ (by omega) (by rw [p2_ne (by decide)]; exact a1) (fun c hc => ?_) (fun s' hs' c hc => ?_) (fun s' f' h1 h2 => ?_) (fun c k h1 h2 h3 h4 => ?_)
          · rw [p2_ne (fun z => by rw [z] at hc; simp at hc)]; exact a2 c hc
          · rw [p2_ne (fun z => by rw [z] at hc; simp at hc)]; exact a3 s' hs' c hc
          · by_cases e : s' = s ∧ f' = f
            · obtain ⟨rfl, rfl⟩ := e
              exact p2_same
            · rw [p2_row (by omega)]
              exact a4 s' f' (by omega) h2
          · by_cases e : c = 16 ∧ k = 3 * (6 * nQ + s) + f
            · exact absurd ⟨e.1, by omega, by omega⟩ h4
            · have h5 : J2 c k = Q c k := a5 c k h1 h2 h3 (fun z => h4 ⟨z.1, by omega, by omega⟩)
              by_cases e1 : c = 16
              · subst e1
                rw [p2_row (fun z => e ⟨rfl, z⟩)]
                exact h5
              · rw [p2_ne e1]; exact h5
      refine ⟨_, h3 3 0 _ rfl ?_ (fun c hc => ?_) (fun s' hs' c hc => ?_) (fun s' f' h1 h2 => ?_) (fun c k h1 h2 h3 h4 => ?_)⟩
      · rw [p2_ne (by decide), p2_ne (by decide), p2_ne (by decide), p2_ne (by decide)]; exact j1
      · have hne : c ≠ 14 ∧ c ≠ 15 ∧ c ≠ 17 ∧ c ≠ 18 := by
          simp at hc; omega
        rw [p2_ne hne.2.2.2, p2_ne hne.2.2.1, p2_ne hne.2.1, p2_ne hne.1]
        exact j2 c hc
      · by_cases e : s' = s
        · subst e
          simp at hc
          rcases hc with rfl | rfl | rfl | rfl
          · rw [p2_ne (by decide), p2_ne (by decide), p2_ne (by decide), p2_same]
          · rw [p2_ne (by decide), p2_ne (by decide), p2_same]
          · rw [p2_ne (by decide), p2_same]
          · rw [p2_same]
        · have hj := j3 s' (by omega) c hc
          simp at hc
          rcases hc with rfl | rfl | rfl | rfl
          · rw [p2_ne (by decide), p2_ne (by decide), p2_ne (by decide), p2_row (by omega)]; exact hj
          · rw [p2_ne (by decide), p2_ne (by decide), p2_row (by omega), p2_ne (by decide)]; exact hj
          · rw [p2_ne (by decide), p2_row (by omega), p2_ne (by decide), p2_ne (by decide)]; exact hj
          · rw [p2_row (by omega), p2_ne (by decide), p2_ne (by decide), p2_ne (by decide)]; exact hj
      · rw [p2_ne (by decide), p2_ne (by decide), p2_ne (by decide), p2_ne (by decide)]
        exact j4 s' f' (by omega) h2
      · have hj := j5 c k h1 h2 (fun z => h3 ⟨z.1, z.2.1, by omega⟩) (fun z => h4 ⟨z.1, z.2.1, by omega⟩)
        by_cases e : c ∈ [14, 15, 17, 18] ∧ k = 6 * nQ + s
        · exact absurd ⟨e.1, by omega, by omega⟩ h3
        · by_cases e14 : c = 14
          · subst e14
            rw [p2_ne (by decide), p2_ne (by decide), p2_ne (by decide), p2_row (fun z => e ⟨by simp, z⟩)]; exact hj
          · by_cases e15 : c = 15
            · subst e15
              rw [p2_ne (by decide), p2_ne (by decide), p2_row (fun z => e ⟨by simp, z⟩), p2_ne (by decide)]; exact hj
            · by_cases e17 : c = 17
              · subst e17
                rw [p2_ne (by decide), p2_row (fun z => e ⟨by simp, z⟩), p2_ne (by decide), p2_ne (by decide)]; exact hj
              · by_cases e18 : c = 18
                · subst e18
                  rw [p2_row (fun z => e ⟨by simp, z⟩), p2_ne (by decide), p2_ne (by decide), p2_ne (by decide)]; exact hj
                · rw [p2_ne e18, p2_ne e17, p2_ne e15, p2_ne e14]; exact hj
  unfold wX9_ask_103
  rw [m_I, h00, brt (by decide)]
  simp (disch := first | decide | omega) only [m_I, m_R, m_rc, m_pI, m_aI, m_aZ, m_sI, m_sZ, z01, z11, ix3, ix6, ix250, ix1, ix2, nI_add, nI_clamp, vin, true_and, and_true, or_true, true_or, mN3, mN6, mN7, mN8, mN9, mN10, mN12, mN13, mN14, mN15, mN16, mN17, mN18, mN19, mN20, mN21, mN23, mN24, mN25, mN26, mN33, mN34, mN35, mN37, mN39, mN40, mN41, h11, vin8, cl8, p2_ne]
  refine ⟨_, hl 6 0 _ rfl ⟨?_, fun c hc => ?_, fun s' hs' => by omega, fun s' f hs' => by omega, fun c k h1 h2 h3 h4 => ?_⟩⟩
  · rw [p2_ne (by decide), p2_ne (by decide), p2_ne (by decide), p2_ne (by decide), p2_ne (by decide), p2_same]
  · simp at hc
    rcases hc with rfl | rfl | rfl | rfl | rfl
    · rw [p2_ne (by decide), p2_ne (by decide), p2_ne (by decide), p2_ne (by decide), p2_same]
    · rw [p2_ne (by decide), p2_ne (by decide), p2_ne (by decide), p2_same]
    · rw [p2_ne (by decide), p2_ne (by decide), p2_same]
    · rw [p2_ne (by decide), p2_same]
    · rw [p2_same]
  · have hx : ∀ (F : Mem) (a : Nat) (w : Int32), ¬ (c = a ∧ k = nQ) → p2 F a nQ w c k = F c k := fun F a w hne => by
      by_cases e : c = a
      · subst e; exact p2_row (fun z => hne ⟨rfl, z⟩)
      · rw [p2_ne e]
    rw [hx _ 21 _ (fun z => h2 ⟨by rw [z.1]; simp, z.2⟩), hx _ 20 _ (fun z => h2 ⟨by rw [z.1]; simp, z.2⟩), hx _ 19 _ (fun z => h2 ⟨by rw [z.1]; simp, z.2⟩), hx _ 13 _ (fun z => h2 ⟨by rw [z.1]; simp, z.2⟩), hx _ 12 _ (fun z => h2 ⟨by rw [z.1]; simp, z.2⟩)]
    by_cases e : c = 0
    · subst e; exact p2_row (fun z => h1 ⟨rfl, z⟩)
    · rw [p2_ne e]
end
