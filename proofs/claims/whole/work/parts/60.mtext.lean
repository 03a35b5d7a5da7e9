section
variable {Q0 Q : Mem} {T : Nat → Int32} {n p s d : Nat} {m v : Int32} {post : Int32 → Pool → Prop}
def GO2 (Q0 : Mem) (post : Int32 → Pool → Prop) (r : Sum Nat Mem) : Prop := (∀ f J, r = .inl f → PR Q0 J → J 0 30 = nI f → post 0 (mp J)) ∧ ∀ Q' a m, r = .inr Q' → PR Q0 Q' → post 1 (mp (st Q' a m))
theorem GO2_f {f a : Nat} (h : GO2 Q0 post (.inl f)) (hQ : PR Q0 Q) : post 0 (mp (st (p2 Q 0 30 (nI f)) a m)) := h.1 f _ rfl (PR_st (PR_p hQ rfl)) (by rw [st_0 (by decide) (by decide), p2_same])
theorem vin8 : vp_in (8 : Int32) 9 = True := eq_true (vp_in_nI (n := 8) (by decide) (by decide))
theorem cl8 : (8 : Int32).toNatClampNeg = 8 := by decide
/-- what the reading of step d may change -/
def sd (d c k : Nat) : Prop := ((c = 14 ∨ c = 15 ∨ c = 17 ∨ c = 18) ∧ k = d) ∨ (c = 16 ∧ 3 * d ≤ k ∧ k < 3 * d + 3) ∨ (c = 0 ∧ k = 32)
def SD (d : Nat) (Q Q' : Mem) : Prop := ∀ c k, ¬ sd d c k → Q' c k = Q c k
theorem SD_p {Q' : Mem} {c k : Nat} (h : SD d Q Q') (hs : sd d c k) : SD d Q (p2 Q' c k v) := fun b j hb => by
  by_cases e : b = c
  · subst e
    by_cases e2 : j = k
    · subst e2; exact absurd hs hb
    · rw [p2_row e2]; exact h b j hb
  · rw [p2_ne e]; exact h b j hb
theorem SD_cond : ∀ k R Q' p p', SD d Q R → condS T n d k R p = .inr (Q', p') → SD d Q Q' := by
  intro k
  induction k with
  | zero => intro R Q' p p' h e; unfold condS at e; cases e
  | succ k ih =>
    intro R Q' p p' h e
    unfold condS at e
    cases hf : fldS T n p with
    | none => rw [hf] at e; cases e; exact h
    | some f =>
      have hf3 := fldS_lt hf
      rw [hf] at e
      simp only at e
      split at e
      · cases e
      · cases hn : numS T n (skp T n (wep T n p)) 0 (if f = 2 then 15 else 30) with
        | none => rw [hn] at e; cases e
        | some v =>
          rw [hn] at e
          exact ih _ _ _ _ (SD_p (SD_p h (.inr (.inl ⟨rfl, by omega, by omega⟩))) (.inr (.inr ⟨rfl, rfl⟩))) e
theorem SD_with {R Q' : Mem} {p' : Nat} (h : SD d Q R) (e : withS T n s d R p = .inr (Q', p')) : SD d Q Q' := by
  unfold withS at e
  split at e
  · split at e
    · cases e
    · cases hn : numS T n (skp T n (wep T n p)) 1 100000 with
      | none => rw [hn] at e; cases e
      | some v => rw [hn] at e; cases e; exact SD_p h (.inl ⟨by omega, rfl⟩)
  · cases e; exact h
theorem SD_tail {R Q' : Mem} {p' : Nat} (h : SD d Q R) (e : tailS T n s d R p = .inr (Q', p')) : SD d Q Q' := by
  unfold tailS at e
  split at e
  · split at e
    · cases e
    · exact SD_with (SD_p h (.inl ⟨by omega, rfl⟩)) e
  · exact SD_with h e
theorem SD_kind {R Q' : Mem} {p' : Nat} (h : SD d Q R) (e : kindS T n s d R p = .inr (Q', p')) : SD d Q Q' := by
  unfold kindS at e
  split at e
  · cases e
  · cases hn : numS T n (skp T n (wep T n p)) 0 7 with
    | none => rw [hn] at e; cases e
    | some v =>
      rw [hn] at e
      simp only at e
      cases hc : condS T n d 4 (p2 R 15 d v) (skp T n (dep T n (skp T n (wep T n p)))) with
      | inl f => rw [hc] at e; cases e
      | inr x =>
        obtain ⟨Q2, p2'⟩ := x
        rw [hc] at e
        exact SD_tail (SD_cond 4 _ _ _ _ (SD_p h (.inl ⟨by omega, rfl⟩)) hc) e
theorem SD_ini : SD d Q (iniS d Q) := SD_p (SD_p (SD_p (SD_p (SD_p (SD_p (fun _ _ _ => rfl) (.inr (.inl ⟨rfl, by omega, by omega⟩))) (.inr (.inl ⟨rfl, by omega, by omega⟩))) (.inr (.inl ⟨rfl, by omega, by omega⟩))) (.inl ⟨by omega, rfl⟩)) (.inl ⟨by omega, rfl⟩)) (.inl ⟨by omega, rfl⟩)
theorem SD_step {Q' : Mem} {p' : Nat} (e : stepS T n s Q p = .inr (Q', p')) : SD (48 + s) Q Q' := by
  unfold stepS at e
  split at e
  · split at e
    · cases e
    · exact SD_kind (SD_p SD_ini (.inl ⟨by omega, rfl⟩)) e
  · exact SD_kind SD_ini e
theorem w_spread {a : Nat} (hx : HT Q0 T n) (hQ : PR Q0 Q) (ha : a ≤ n) (hb : ∀ i, i < n → ¬ T i = -1) (h : GO2 Q0 post (spreadS T n Q a)) : wX9_readSpread post (some 0) (mp (st Q a m)) := by
  have hn := hx.1.2
  have hx' := HT_pr hQ hx
  unfold wX9_readSpread wX9_readSpread_103
  rw [m_rc]
  refine w_wend hx' ha ?_
  have h1 := wep_le (T := T) ha
  rw [m_pI, st_s29, m_rc]
  unfold spreadS at h
  refine w_rdF hx' h1 (fun g => ?_) fun f g => ?_
  · rw [g] at h
    simp only [c00, brT, true_or, true_and]
    exact GO2_f h hQ
  rw [g] at h
  simp only at h
  have h2 := wep_le (T := T) (skp_le (T := T) h1)
  have hf3 := fldS_lt g
  simp (disch := first | decide | omega) only [m_I, m_R, m_rc, m_pI, m_aI, m_aZ, m_sI, m_sZ, z01, z11, ix3, ix6, ix250, ix1, ix2, nI_add, nI_clamp, vin, true_and, and_true, or_true, true_or, mN3, mN6, mN7, mN8, mN9, mN10, mN12, mN13, mN14, mN15, mN16, mN17, mN18, mN19, mN20, mN21, mN23, mN24, mN25, mN26, mN33, mN34, mN35, mN37, mN39, mN40, mN41, c10, brF, st_31, st_sc, vin8, cl8]
  have hQ2 : PR Q0 (p2 (p2 Q 0 32 (bitF (Q 0 32) f)) 19 8 (nI f)) := PR_p (PR_p hQ rfl) rfl
  refine w_digits (HT_pr hQ2 hx) h2 (fun g a' => ?_) (fun v g => ?_)
  · rw [g] at h
    simp only [c00, brT, true_or, true_and]
    exact GO2_f h hQ2
  rw [g] at h
  simp only at h
  have h3 := dep_le (T := T) (skp_le (T := T) h2)
  simp (disch := first | decide | omega) only [m_I, m_R, m_rc, m_pI, m_aI, m_aZ, m_sI, m_sZ, z01, z11, ix3, ix6, ix250, ix1, ix2, nI_add, nI_clamp, vin, true_and, and_true, or_true, true_or, mN3, mN6, mN7, mN8, mN9, mN10, mN12, mN13, mN14, mN15, mN16, mN17, mN18, mN19, mN20, mN21, mN23, mN24, mN25, mN26, mN33, mN34, mN35, mN37, mN39, mN40, mN41, c10, brF, st_31, st_sc, vin8, cl8, cw_within]
  have hQ3 : PR Q0 (p2 (p2 (p2 Q 0 32 (bitF (Q 0 32) f)) 19 8 (nI f)) 20 8 v) := PR_p hQ2 rfl
  refine w_pass (w := 5) (by decide) (HT_pr hQ3 hx) h3 (fun g => ?_) fun g => ?_
  · rw [if_pos g] at h
    simp only [c00, brT, true_or, true_and]
    exact GO2_f h hQ3
  rw [if_neg (by rw [g]; decide)] at h
  have h4 := wep_le (T := T) (skp_le (T := T) h3)
  simp only [c10, brF, m_rc]
  refine w_digits (HT_pr hQ3 hx) h4 (fun g a' => ?_) (fun w g => ?_)
  · rw [g] at h
    simp only [c00, brT, true_or, true_and]
    exact GO2_f h hQ3
  rw [g] at h
  simp only at h
  have h5 := dep_le (T := T) (skp_le (T := T) h4)
  simp (disch := first | decide | omega) only [m_I, m_R, m_rc, m_pI, m_aI, m_aZ, m_sI, m_sZ, z01, z11, ix3, ix6, ix250, ix1, ix2, nI_add, nI_clamp, vin, true_and, and_true, or_true, true_or, mN3, mN6, mN7, mN8, mN9, mN10, mN12, mN13, mN14, mN15, mN16, mN17, mN18, mN19, mN20, mN21, mN23, mN24, mN25, mN26, mN33, mN34, mN35, mN37, mN39, mN40, mN41, c10, brF, st_31, st_sc, vin8, cl8]
  have hQ4 : PR Q0 (p2 (p2 (p2 (p2 Q 0 32 (bitF (Q 0 32) f)) 19 8 (nI f)) 20 8 v) 21 8 w) := PR_p hQ3 rfl
  refine w_sign (HT_pr hQ4 hx) h5 ?_
  by_cases hlt : skp T n (dep T n (skp T n (wep T n (skp T n (dep T n (skp T n (wep T n (skp T n (wep T n a))))))))) < n
  · rw [if_pos hlt] at h
    rw [if_pos hlt, brf (hb _ hlt)]
    simp only [m_rc, m_I, st_29, q_wrong, c00, brT, true_or, true_and]
    rw [st_s0 (by decide) (by decide)]
    exact GO2_f h hQ4
  · rw [if_neg hlt] at h
    rw [if_neg hlt, brt rfl]
    exact h.2 _ _ _ rfl hQ4
theorem w_loop (hx : HT Q0 T n) (hb : ∀ i, i < n → ¬ T i = -1) : ∀ k s Q p m, k + s = 7 → s ≤ 6 → PR Q0 Q → p < n → Q 13 8 = nI s → GO2 Q0 post (loopS T n k s Q p) → wX9_readText_71 post (k + 1) (some 0) 1 (mp (st Q p m)) := by
  have hn := hx.1.2
  intro k
  induction k with
  | zero =>
    intro s Q p m hk hs6 hQ hp h13 h
    omega
  | succ k ih =>
    intro s Q p m hk hs6 hQ hp h13 h
    have hx' := HT_pr hQ hx
    unfold loopS at h
    have h141 : ∀ a m, a ≤ n → skp T n a = skp T n (p + 1) → ¬ (0 < s ∧ isWb T n (skp T n (p + 1)) 4 = true) → wX9_readText_141 (wX9_readText_71 post (k + 1)) post (some 0) (nI p) (mp (st Q a m)) := by
      intro a m ha hsa hno
      simp only [if_neg hno] at h
      have hsl := skp_le (T := T) ha
      unfold wX9_readText_141
      simp (disch := first | decide | omega) only [m_I, m_R, m_rc, m_pI, m_aI, m_aZ, m_sI, m_sZ, z01, z11, ix3, ix6, ix250, ix1, ix2, nI_add, nI_clamp, vin, true_and, and_true, or_true, true_or, mN3, mN6, mN7, mN8, mN9, mN10, mN12, mN13, mN14, mN15, mN16, mN17, mN18, mN19, mN20, mN21, mN23, mN24, mN25, mN26, mN33, mN34, mN35, mN37, mN39, mN40, mN41, st_c, vin8, cl8, h13]
      refine brc (fun h6 => ?_) fun h6 => ?_
      · rw [show (6 : Int32) = nI 6 from rfl, nI_eq (by omega) (by omega)] at h6
        rw [if_pos h6] at h
        have hA : ∀ a m, (isWb T n (skp T n (p + 1)) 7 = true ∨ isWb T n (skp T n (p + 1)) 6 = true) → wX9_readText_174 post (nI p) (some 0) (mp (st Q a m)) := fun a m hz => by
          unfold wX9_readText_174 wX9_readText_182
          simp only [m_rc, q_wrong, true_or, true_and]
          rw [st_s0 (by decide) (by decide)]
          rw [if_pos hz] at h
          exact GO2_f h hQ
        rw [cw_not, cw_kind]
        refine w_isW (by decide) hx' ha ?_
        rw [bI_br, hsa]
        refine brc (fun g => hA _ _ (.inl g)) fun g => ?_
        rw [m_rc]
        refine w_isW (by decide) hx' (by rw [← hsa]; exact hsl) ?_
        rw [bI_br, skp_sk]
        refine brc (fun g2 => hA _ _ (.inr g2)) fun g2 => ?_
        rw [if_neg (fun z => z.elim g g2)] at h
        unfold wX9_readText_182
        simp only [m_rc, m_I, st_29, q_wrong, true_or, true_and]
        rw [st_s0 (by decide) (by decide)]
        exact GO2_f h hQ
      · have h6' : ¬ s = 6 := fun z => h6 (by rw [z]; rfl)
        rw [if_neg h6'] at h
        refine w_step hx hQ (by omega) ha ?_
        rw [hsa]
        refine ⟨fun f J g1 g2 g3 => ?_, fun Q' p' a' m' g1 g2 g3 g4 => ?_⟩
        · rw [g1] at h
          simp only [c00, brT, true_or, true_and]
          exact h.1 f J rfl g2 g3
        · rw [g1] at h
          simp only at h
          have hQ3 : PR Q0 (p2 Q' 13 8 (nI (s + 1))) := PR_p g2 rfl
          have e13 : Q' 13 8 = nI s := (SD_step g1 13 8 (fun z => by unfold sd at z; omega)).trans h13
          simp (disch := first | decide | omega) only [m_I, m_R, m_rc, m_pI, m_aI, m_aZ, m_sI, m_sZ, z01, z11, ix3, ix6, ix250, ix1, ix2, nI_add, nI_clamp, vin, true_and, and_true, or_true, true_or, mN3, mN6, mN7, mN8, mN9, mN10, mN12, mN13, mN14, mN15, mN16, mN17, mN18, mN19, mN20, mN21, mN23, mN24, mN25, mN26, mN33, mN34, mN35, mN37, mN39, mN40, mN41, c10, brF, st_c, st_sc, vin8, cl8, e13]
          refine w_sign (HT_pr hQ3 hx) g3 ?_
          unfold wX9_readText_227
          rw [g4]
          by_cases hlt : p' < n
          · rw [if_pos hlt] at h
            rw [if_pos hlt]
            refine brc (fun g5 => ?_) fun g5 => ?_
            · rw [if_pos g5] at h
              exact ih (s + 1) _ p' _ (by omega) (by omega) hQ3 hlt p2_same h
            · rw [if_neg g5] at h
              unfold wX9_readText_71
              rw [brt rfl, m_rc]
              refine w_sign (HT_pr hQ3 hx) (by omega) ?_
              rw [show skp T n p' = p' by rw [← g4, skp_sk], if_pos hlt, brf (hb _ hlt)]
              simp only [m_rc, m_I, st_29, q_wrong, true_or, true_and]
              rw [st_s0 (by decide) (by decide)]
              exact GO2_f h hQ3
          · rw [if_neg hlt] at h
            rw [if_neg hlt, brf (by decide)]
            unfold wX9_readText_71 wX9_readText_274
            rw [brt rfl, m_rc]
            have hpn : p' ≤ n := by rw [← g4]; exact skp_le g3
            refine w_sign (HT_pr hQ3 hx) hpn ?_
            rw [show skp T n p' = p' by rw [← g4, skp_sk], if_neg hlt, brt rfl]
            simp (disch := first | decide | omega) only [m_I, m_R, m_rc, m_pI, m_aI, m_aZ, m_sI, m_sZ, z01, z11, ix3, ix6, ix250, ix1, ix2, nI_add, nI_clamp, vin, true_and, and_true, or_true, true_or, mN3, mN6, mN7, mN8, mN9, mN10, mN12, mN13, mN14, mN15, mN16, mN17, mN18, mN19, mN20, mN21, mN23, mN24, mN25, mN26, mN33, mN34, mN35, mN37, mN39, mN40, mN41, st_c, vin8, cl8, p2_same]
            refine q_pend0 (by omega) ?_
            rw [bI_br]
            refine brc (fun g5 => ?_) fun g5 => ?_
            · rw [if_pos g5] at h
              have e28 : p2 Q' 13 8 (nI (s + 1)) 0 28 = nI n := (HT_pr hQ3 hx).1.1
              simp only [m_rc, m_I, q_wrong, c00, brT, true_or, true_and]
              rw [st_0 (by decide) (by decide), e28, st_s0 (by decide) (by decide)]
              exact GO2_f h hQ3
            · rw [if_neg g5] at h
              exact h.2 _ _ _ rfl hQ3
    unfold wX9_readText_71
    rw [brf (by decide)]
    simp (disch := first | decide | omega) only [m_I, m_R, m_rc, m_pI, m_aI, m_aZ, m_sI, m_sZ, z01, z11, ix3, ix6, ix250, ix1, ix2, nI_add, nI_clamp, vin, true_and, and_true, or_true, true_or, mN3, mN6, mN7, mN8, mN9, mN10, mN12, mN13, mN14, mN15, mN16, mN17, mN18, mN19, mN20, mN21, mN23, mN24, mN25, mN26, mN33, mN34, mN35, mN37, mN39, mN40, mN41, st_29, st_s29, st_c, vin8, cl8, h13, lle0]
    refine brc (fun h0 => ?_) fun h0 => ?_
    · exact h141 (p + 1) m (by omega) rfl (fun z => by omega)
    · rw [cw_spread]
      refine w_isW (by decide) hx' (by omega) ?_
      rw [bI_br]
      refine brc (fun g => ?_) fun g => ?_
      · simp only [if_pos (⟨by omega, g⟩ : 0 < s ∧ isWb T n (skp T n (p + 1)) 4 = true)] at h
        simp (disch := first | decide | omega) only [m_I, m_R, m_rc, m_pI, m_aI, m_aZ, m_sI, m_sZ, z01, z11, ix3, ix6, ix250, ix1, ix2, nI_add, nI_clamp, vin, true_and, and_true, or_true, true_or, mN3, mN6, mN7, mN8, mN9, mN10, mN12, mN13, mN14, mN15, mN16, mN17, mN18, mN19, mN20, mN21, mN23, mN24, mN25, mN26, mN33, mN34, mN35, mN37, mN39, mN40, mN41, st_c, vin8, cl8, h13]
        refine q_pend0 (by omega) ?_
        rw [bI_br]
        refine brc (fun g2 => ?_) fun g2 => ?_
        · rw [if_pos g2] at h
          simp only [m_rc, m_I, st_29, q_wrong, true_or, true_and]
          rw [st_s0 (by decide) (by decide)]
          exact GO2_f h hQ
        · rw [if_neg g2] at h
          rw [m_rc]
          refine w_spread hx hQ (skp_le (by omega)) hb ?_
          exact ⟨fun f J a1 a2 a3 => ⟨.inl rfl, h.1 f J a1 a2 a3⟩, fun Q' a m a1 a2 => ⟨.inr rfl, h.2 Q' a m a1 a2⟩⟩
      · exact h141 _ _ (skp_le (by omega)) skp_sk (fun z => g z.2)
end
