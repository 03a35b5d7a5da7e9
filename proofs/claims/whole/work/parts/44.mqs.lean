section
variable {I D : Mem} {nA q b ns : Nat} {t : Int32}
theorem q_quiet {post : Int32 → Pool → Prop} {l a : Nat} (hs : ST I D nA) (hf : FR I D nA t q ns) (hn6 : ns ≤ 6) (hns : D 13 q = nI ns) (hq : q < 9) (hb : b < 3) (hD : D 12 q = nI b) (hl : l < ns) (ha : a < nA) (hp : post (bI (QB D nA t q l a)) (mp I)) : wX9_quietBehind post (some 0) (nI q) (nI l) (nI a) t (mp I) := by
  have hA := hs.2.1
  have e0 := hs.1
  have e8 := hs.2.2 8 (by decide)
  have e18 := hs.2.2 18 (by decide)
  have e13 := hs.2.2 13 (by decide)
  have hnc : (D 13 q).toNatClampNeg = ns := by rw [hns, nI_clamp (by omega)]
  have hv : ∀ {post : Int32 → Pool → Prop} {a : Nat} (_ : a < 250), wX9_value post (some 0) (nI q) (nI a) (mp I) = post (vl D q a) (mp I) := fun ha => q_value hs hq hb hD ha
  have h3 : ∀ (K : Option Nat → Int32 → Int32 → Int32 → Int32 → Pool → Prop) (n : Nat), l < n → n < ns → ((∀ c, c < nA → ¬ (FT D nA t q n c ∧ vl D q c = vl D q a ∧ D 8 a < D 8 c ∧ (D 8 c).toInt ≤ (D 8 a).toInt + (D 18 (6 * q + n)).toInt)) → K (some 0) (nI q) (nI a) t (nI (n + 1)) (mp I)) → ∀ k d, nA = d + k → (∀ c, c < d → ¬ (FT D nA t q n c ∧ vl D q c = vl D q a ∧ D 8 a < D 8 c ∧ (D 8 c).toInt ≤ (D 8 a).toInt + (D 18 (6 * q + n)).toInt)) → wX9_quietBehind_53 K post (k + 1) (some 0) (nI q) (nI a) t (nI n) ((D 8 a).toInt64 + (D 18 (6 * q + n)).toInt64) (nI d) (mp I) := by
    intro K n hn1 hn2 hK k
    induction k with
    | zero =>
      intro d hd hb
      unfold wX9_quietBehind_53
      simp (disch := first | decide | omega) only [m_I, m_R, m_rc, m_pI, m_aI, m_aZ, m_sI, m_sZ, z01, z11, ix3, ix6, ix250, ix1, ix2, nI_add, nI_clamp, vin, true_and, and_true, or_true, true_or, mN3, mN6, mN7, mN8, mN9, mN10, mN12, mN13, mN14, mN15, mN16, mN17, mN18, mN19, mN20, mN21, mN23, mN24, mN25, mN26, mN33, mN34, mN35, mN37, mN39, mN40, mN41, e0, ile, brt (show nA ≤ d by omega)]
      exact hK fun d' hd' => hb d' (by omega)
    | succ k ih =>
      intro d hd hb
      have hnext : ¬ (FT D nA t q n d ∧ vl D q d = vl D q a ∧ D 8 a < D 8 d ∧ (D 8 d).toInt ≤ (D 8 a).toInt + (D 18 (6 * q + n)).toInt) → wX9_quietBehind_53 K post (k + 1) (some 0) (nI q) (nI a) t (nI n) ((D 8 a).toInt64 + (D 18 (6 * q + n)).toInt64) (nI (d + 1)) (mp I) := fun h => ih (d + 1) (by omega) fun d' hd' => by
        by_cases e : d' = d
        · rw [e]; exact h
        · exact hb d' (by omega)
      have hzero : (FT D nA t q n d ∧ vl D q d = vl D q a ∧ D 8 a < D 8 d ∧ (D 8 d).toInt ≤ (D 8 a).toInt + (D 18 (6 * q + n)).toInt) → post 0 (mp I) := fun h => by
        rw [bI_f (fun z => (z n hn1 (by omega)).2 d (by omega) h)] at hp
        exact hp
      unfold wX9_quietBehind_53
      unfold wX9_quietBehind_127
      simp (disch := first | decide | omega) only [m_I, m_R, m_rc, m_pI, m_aI, m_aZ, m_sI, m_sZ, z01, z11, ix3, ix6, ix250, ix1, ix2, nI_add, nI_clamp, vin, true_and, and_true, or_true, true_or, mN3, mN6, mN7, mN8, mN9, mN10, mN12, mN13, mN14, mN15, mN16, mN17, mN18, mN19, mN20, mN21, mN23, mN24, mN25, mN26, mN33, mN34, mN35, mN37, mN39, mN40, mN41, e0, ile, brf (show ¬ nA ≤ d by omega), hf n d (by omega) (by omega), bI_br, hv, e8, lggt, i64add, i64i]
      repeat' (apply brc <;> intro _)
      all_goals first | (refine hzero ⟨?_, ?_, ?_, ?_⟩ <;> grind) | (refine hnext ?_; grind)
  have h2 : ∀ k n, ns = n + k → l < n → (∀ n', l < n' → n' < n → (D 8 a).toInt + (D 18 (6 * q + n')).toInt ≤ t.toInt ∧ ∀ c, c < nA → ¬ (FT D nA t q n' c ∧ vl D q c = vl D q a ∧ D 8 a < D 8 c ∧ (D 8 c).toInt ≤ (D 8 a).toInt + (D 18 (6 * q + n')).toInt)) → wX9_quietBehind_5 post (k + 1) (some 0) (nI q) (nI a) t (nI n) (mp I) := by
    intro k
    induction k with
    | zero =>
      intro n hn hpn hb
      unfold wX9_quietBehind_5
      simp (disch := first | decide | omega) only [m_I, m_R, m_rc, m_pI, m_aI, m_aZ, m_sI, m_sZ, z01, z11, ix3, ix6, ix250, ix1, ix2, nI_add, nI_clamp, vin, true_and, and_true, or_true, true_or, mN3, mN6, mN7, mN8, mN9, mN10, mN12, mN13, mN14, mN15, mN16, mN17, mN18, mN19, mN20, mN21, mN23, mN24, mN25, mN26, mN33, mN34, mN35, mN37, mN39, mN40, mN41, e13, hns, ile, brt (show ns ≤ n by omega)]
      rw [bI_t (p := QB D nA t q l a) (fun n' h1 h2 => hb n' h1 (by omega))] at hp
      exact hp
    | succ k ih =>
      intro n hn hpn hb
      unfold wX9_quietBehind_5
      simp (disch := first | decide | omega) only [m_I, m_R, m_rc, m_pI, m_aI, m_aZ, m_sI, m_sZ, z01, z11, ix3, ix6, ix250, ix1, ix2, nI_add, nI_clamp, vin, true_and, and_true, or_true, true_or, mN3, mN6, mN7, mN8, mN9, mN10, mN12, mN13, mN14, mN15, mN16, mN17, mN18, mN19, mN20, mN21, mN23, mN24, mN25, mN26, mN33, mN34, mN35, mN37, mN39, mN40, mN41, e13, hns, ile, brf (show ¬ ns ≤ n by omega), e8, e18, lgge, i64add, i64i]
      refine brc (fun h0 => ⟨_, h3 _ n hpn (by omega) (fun h => ih (n + 1) (by omega) (by omega) fun n' h1 h2 => ?_) nA 0 (by omega) (fun d hd => by omega)⟩) fun h0 => ?_
      · by_cases e : n' = n
        · rw [e]; exact ⟨h0, h⟩
        · exact hb n' h1 (by omega)
      · rw [bI_f (fun z => h0 (z n hpn (by omega)).1)] at hp
        exact hp
  unfold wX9_quietBehind
  rw [ix1]
  exact ⟨_, h2 (ns - (l + 1)) (l + 1) (by omega) (by omega) (fun n' h1 h2 => by omega)⟩
theorem q_spreads {post : Int32 → Pool → Prop} {l a pf : Nat} (hs : ST I D nA) (hf : FR I D nA t q ns) (hn6 : ns ≤ 6) (hq : q < 9) (hb : b < 3) (hD : D 12 q = nI b) (hpf : D 19 q = -1 ∨ D 19 q = nI pf) (hpf3 : pf < 3) (hw : ∀ c f, c < nA → f < 3 → ∃ v, v < 31 ∧ D 7 (3 * c + f) = nI v) (hl : l < ns) (ha : a < nA) (hp : post (bI (SP D nA t q l a)) (mp I)) : wX9_spreads post (some 0) (nI q) (nI l) (nI a) (mp I) := by
  have hA := hs.2.1
  have e0 := hs.1
  have e7 := hs.2.2 7 (by decide)
  have e8 := hs.2.2 8 (by decide)
  have e19 := hs.2.2 19 (by decide)
  have e20 := hs.2.2 20 (by decide)
  have e21 := hs.2.2 21 (by decide)
  have hv : ∀ {post : Int32 → Pool → Prop} {a : Nat} (_ : a < 250), wX9_value post (some 0) (nI q) (nI a) (mp I) = post (vl D q a) (mp I) := fun ha => q_value hs hq hb hD ha
  unfold wX9_spreads
  simp (disch := first | decide | omega) only [m_I, m_R, m_rc, m_pI, m_aI, m_aZ, m_sI, m_sZ, z01, z11, ix3, ix6, ix250, ix1, ix2, nI_add, nI_clamp, vin, true_and, and_true, or_true, true_or, mN3, mN6, mN7, mN8, mN9, mN10, mN12, mN13, mN14, mN15, mN16, mN17, mN18, mN19, mN20, mN21, mN23, mN24, mN25, mN26, mN33, mN34, mN35, mN37, mN39, mN40, mN41, e19]
  refine brc (fun h => by rw [bI_t (.inl h)] at hp; exact hp) fun hne => ?_
  have hf1 : D 19 q = nI pf := hpf.resolve_left hne
  have hl2 : ∀ k d (x : Int32), nA = d + k → (∀ v, v < 31 → (btt x v = true ↔ ∃ c, c < d ∧ SPc D nA t q l a c ∧ D 7 (3 * c + pf) = nI v)) → wX9_spreads_21 post (k + 1) (some 0) (nI q) (nI l) (nI a) x (nI (cnt (fun v => ∃ c, c < d ∧ SPc D nA t q l a c ∧ D 7 (3 * c + pf) = nI v) 31)) (nI d) (mp I) := by
    intro k
    induction k with
    | zero =>
      intro d x hd hx
      have hcd : d = nA := by omega
      subst hcd
      unfold wX9_spreads_21
      simp (disch := first | decide | omega) only [m_I, m_R, m_rc, m_pI, m_aI, m_aZ, m_sI, m_sZ, z01, z11, ix3, ix6, ix250, ix1, ix2, nI_add, nI_clamp, vin, true_and, and_true, or_true, true_or, mN3, mN6, mN7, mN8, mN9, mN10, mN12, mN13, mN14, mN15, mN16, mN17, mN18, mN19, mN20, mN21, mN23, mN24, mN25, mN26, mN33, mN34, mN35, mN37, mN39, mN40, mN41, e0, ile, brt (show d ≤ d by omega), e20]
      unfold SP at hp
      rw [hf1, nI_clamp (by omega)] at hp
      refine brc (fun h => ?_) fun h => ?_
      · rw [bI_f (fun z => z.elim (fun z => hne (by rw [hf1]; exact z)) fun z => Int32.not_le.mpr h z)] at hp
        exact hp
      · rw [bI_t (.inr (Int32.not_lt.mp h))] at hp
        exact hp
    | succ k ih =>
      intro d x hd hx
      obtain ⟨w, hw1, hw2⟩ := hw d pf (by omega) hpf3
      have hnext : ¬ (SPc D nA t q l a d ∧ btt x w = false) → wX9_spreads_21 post (k + 1) (some 0) (nI q) (nI l) (nI a) x (nI (cnt (fun v => ∃ c, c < d ∧ SPc D nA t q l a c ∧ D 7 (3 * c + pf) = nI v) 31)) (nI (d + 1)) (mp I) := fun h => by
        have hc : ∀ v, v < 31 → ((∃ c, c < d ∧ SPc D nA t q l a c ∧ D 7 (3 * c + pf) = nI v) ↔ ∃ c, c < d + 1 ∧ SPc D nA t q l a c ∧ D 7 (3 * c + pf) = nI v) := fun v hv => by
          refine ⟨fun ⟨c, h1, h2⟩ => ⟨c, by omega, h2⟩, fun ⟨c, h1, h2, h3⟩ => ?_⟩
          by_cases e : c = d
          · subst e
            rw [hw2] at h3
            have e2 : w = v := (nI_eq (by omega) (by omega)).mp h3
            subst e2
            refine (hx w hw1).mp ?_
            cases hbx : btt x w with
            | true => rfl
            | false => exact absurd ⟨h2, hbx⟩ h
          · exact ⟨c, by omega, h2, h3⟩
        rw [cnt_cong hc]
        exact ih (d + 1) x (by omega) fun v hv => (hx v hv).trans (hc v hv)
      have hadd : SPc D nA t q l a d → btt x w = false → wX9_spreads_21 post (k + 1) (some 0) (nI q) (nI l) (nI a) (x ||| (1 : Int32) <<< (nI w &&& 31)) (nI (cnt (fun v => ∃ c, c < d ∧ SPc D nA t q l a c ∧ D 7 (3 * c + pf) = nI v) 31 + 1)) (nI (d + 1)) (mp I) := fun h hbw => by
        have hc : ∀ v, v < 31 → (((∃ c, c < d ∧ SPc D nA t q l a c ∧ D 7 (3 * c + pf) = nI v) ∨ v = w) ↔ ∃ c, c < d + 1 ∧ SPc D nA t q l a c ∧ D 7 (3 * c + pf) = nI v) := fun v hv => by
          refine ⟨fun z => z.elim (fun ⟨c, h1, h2⟩ => ⟨c, by omega, h2⟩) fun z => ⟨d, by omega, h, by rw [hw2, z]⟩, fun ⟨c, h1, h2, h3⟩ => ?_⟩
          by_cases e : c = d
          · subst e
            rw [hw2] at h3
            exact .inr ((nI_eq (by omega) (by omega)).mp h3).symm
          · exact .inl ⟨c, by omega, h2, h3⟩
        rw [← cnt_ins (p := fun v => ∃ c, c < d ∧ SPc D nA t q l a c ∧ D 7 (3 * c + pf) = nI v) (v := w) (fun z => by have := (hx w hw1).mpr z; rw [hbw] at this; cases this) hw1, cnt_cong hc]
        refine ih (d + 1) _ (by omega) fun v hv => ?_
        rw [b_set x (by omega) (by omega), ← hc v hv, ← hx v hv]
        simp only [Bool.or_eq_true, decide_eq_true_eq]
        exact or_congr Iff.rfl eq_comm
      have hcl := cnt_le (fun v => ∃ c, c < d ∧ SPc D nA t q l a c ∧ D 7 (3 * c + pf) = nI v) 31
      unfold wX9_spreads_21
      unfold wX9_spreads_105 wX9_spreads_106 wX9_spreads_154
      simp (disch := first | decide | omega) only [m_I, m_R, m_rc, m_pI, m_aI, m_aZ, m_sI, m_sZ, z01, z11, ix3, ix6, ix250, ix1, ix2, nI_add, nI_clamp, vin, true_and, and_true, or_true, true_or, mN3, mN6, mN7, mN8, mN9, mN10, mN12, mN13, mN14, mN15, mN16, mN17, mN18, mN19, mN20, mN21, mN23, mN24, mN25, mN26, mN33, mN34, mN35, mN37, mN39, mN40, mN41, e0, ile, brf (show ¬ nA ≤ d by omega), hf l d hl (by omega), bI_br, hv, e8, e21, e19, e7, hf1, hw2, c00, c10, brT, brF, b_tst]
      repeat' (apply brc <;> intro _)
      all_goals first | (refine hadd ⟨?_, ?_, ?_, ?_⟩ ?_ <;> grind) | (refine hnext ?_; unfold SPc; grind)
  have h0 := hl2 nA 0 0 (by omega) (fun v hv => by rw [b_zero]; exact ⟨fun z => (by cases z), fun ⟨c, h1, _⟩ => by omega⟩)
  rw [cnt_no (fun v _ => fun ⟨c, h1, _⟩ => by omega)] at h0
  exact ⟨_, h0⟩
theorem q_last {post : Int32 → Pool → Prop} (hs : ST I D nA) (hn6 : ns ≤ 6) (hns : D 13 q = nI ns) (hq : q < 9) (hp : post (oI (bfr D q ns)) (mp I)) : wX9_lastStep post (some 0) (nI q) (mp I) := by
  have e13 := hs.2.2 13 (by decide)
  unfold wX9_lastStep
  simp (disch := first | decide | omega) only [m_I, m_R, m_rc, m_pI, m_aI, m_aZ, m_sI, m_sZ, z01, z11, ix3, ix6, ix250, ix1, ix2, nI_add, nI_clamp, vin, true_and, and_true, or_true, true_or, mN3, mN6, mN7, mN8, mN9, mN10, mN12, mN13, mN14, mN15, mN16, mN17, mN18, mN19, mN20, mN21, mN23, mN24, mN25, mN26, mN33, mN34, mN35, mN37, mN39, mN40, mN41, e13, hns]
  exact q_before hs hq ns hn6 hp
end
