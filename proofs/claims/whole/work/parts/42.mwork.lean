section
variable {I D : Mem} {nA q b ns : Nat} {t : Int32}
theorem q_value {post : Int32 → Pool → Prop} {a : Nat} (hs : ST I D nA) (hq : q < 9) (hb : b < 3) (hD : D 12 q = nI b) (ha : a < 250) : wX9_value post (some 0) (nI q) (nI a) (mp I) = post (vl D q a) (mp I) := by
  have e1 := hs.2.2 12 (by decide)
  have e2 := hs.2.2 7 (by decide)
  unfold wX9_value vl
  simp (disch := first | decide | omega) only [m_I, m_R, m_rc, m_pI, m_aI, m_aZ, m_sI, m_sZ, z01, z11, ix3, ix6, ix250, ix1, ix2, nI_add, nI_clamp, vin, true_and, and_true, or_true, true_or, mN3, mN6, mN7, mN8, mN9, mN10, mN12, mN13, mN14, mN15, mN16, mN17, mN18, mN19, mN20, mN21, mN23, mN24, mN25, mN26, mN33, mN34, mN35, mN37, mN39, mN40, mN41, e1, e2, hD]
theorem q_before {post : Int32 → Pool → Prop} (hs : ST I D nA) (hq : q < 9) : ∀ s, s ≤ 6 → post (oI (bfr D q s)) (mp I) → ∃ n, wX9_before_4 post n (some 0) (nI q) (nI s - 1) (mp I) := by
  have e1 := hs.2.2 14 (by decide)
  intro s
  induction s with
  | zero =>
    intro _ h
    exact ⟨1, by unfold wX9_before_4; exact (brt (by decide)).mpr h⟩
  | succ s ih =>
    intro h6 h
    unfold bfr at h
    by_cases h0 : D 14 (6 * q + s) = 0
    · rw [if_pos h0] at h
      refine ⟨1, ?_⟩
      unfold wX9_before_4
      rw [nI_pred, brf (nI_pos (by omega))]
      simp (disch := first | decide | omega) only [m_I, m_R, m_rc, m_pI, m_aI, m_aZ, m_sI, m_sZ, z01, z11, ix3, ix6, ix250, ix1, ix2, nI_add, nI_clamp, vin, true_and, and_true, or_true, true_or, mN3, mN6, mN7, mN8, mN9, mN10, mN12, mN13, mN14, mN15, mN16, mN17, mN18, mN19, mN20, mN21, mN23, mN24, mN25, mN26, mN33, mN34, mN35, mN37, mN39, mN40, mN41, e1, brt h0]
      exact h
    · rw [if_neg h0] at h
      obtain ⟨n, hn⟩ := ih (by omega) h
      refine ⟨n + 1, ?_⟩
      unfold wX9_before_4
      rw [nI_pred, brf (nI_pos (by omega))]
      simp (disch := first | decide | omega) only [m_I, m_R, m_rc, m_pI, m_aI, m_aZ, m_sI, m_sZ, z01, z11, ix3, ix6, ix250, ix1, ix2, nI_add, nI_clamp, vin, true_and, and_true, or_true, true_or, mN3, mN6, mN7, mN8, mN9, mN10, mN12, mN13, mN14, mN15, mN16, mN17, mN18, mN19, mN20, mN21, mN23, mN24, mN25, mN26, mN33, mN34, mN35, mN37, mN39, mN40, mN41, e1, brf h0, ixsub]
      exact hn

theorem q_fits2 {post : Int32 → Pool → Prop} {s a : Nat} (hs : ST I D nA) (hq : q < 9) (hs6 : s < 6) (ha : a < 250) (h0 : D 9 a ≤ t ∧ FT0 D q s a) (hp : post (bI (FT D nA t q s a)) (mp I)) : ∀ k b, nA = b + k → (D 17 (6 * q + s) = 0 ∨ ∀ c, c < b → ¬ (D 9 c ≤ t ∧ alk D a c ∧ D 8 c < D 8 a)) → wX9_fits_99 post (k + 1) (some 0) (nI a) t (nI (6 * q + s)) (nI b) (mp I) := by
  have hA := hs.2.1
  have e0 := hs.1
  have e6 := hs.2.2 6 (by decide)
  have e7 := hs.2.2 7 (by decide)
  have e8 := hs.2.2 8 (by decide)
  have e9 := hs.2.2 9 (by decide)
  have e17 := hs.2.2 17 (by decide)
  intro k
  induction k with
  | zero =>
    intro b hb hn
    unfold wX9_fits_99
    simp (disch := first | decide | omega) only [m_I, m_R, m_rc, m_pI, m_aI, m_aZ, m_sI, m_sZ, z01, z11, ix3, ix6, ix250, ix1, ix2, nI_add, nI_clamp, vin, true_and, and_true, or_true, true_or, mN3, mN6, mN7, mN8, mN9, mN10, mN12, mN13, mN14, mN15, mN16, mN17, mN18, mN19, mN20, mN21, mN23, mN24, mN25, mN26, mN33, mN34, mN35, mN37, mN39, mN40, mN41, e0, ile, brt (show nA ≤ b by omega)]
    rw [bI_t ⟨h0.1, h0.2, by rw [hb]; exact hn⟩] at hp
    exact hp
  | succ k ih =>
    intro b hb hn
    have hone : D 17 (6 * q + s) = 0 → post 1 (mp I) := fun h => by
      rw [bI_t ⟨h0.1, h0.2, .inl h⟩] at hp
      exact hp
    have hzero : ¬ D 17 (6 * q + s) = 0 → (D 9 b ≤ t ∧ alk D a b ∧ D 8 b < D 8 a) → post 0 (mp I) := fun h1 h => by
      rw [bI_f (fun z => z.2.2.elim h1 (fun z => z b (by omega) h))] at hp
      exact hp
    have hnext : ¬ (D 9 b ≤ t ∧ alk D a b ∧ D 8 b < D 8 a) → wX9_fits_99 post (k + 1) (some 0) (nI a) t (nI (6 * q + s)) (nI (b + 1)) (mp I) := fun h => by
      refine ih (b + 1) (by omega) (hn.imp id fun hn c hc => ?_)
      by_cases e : c = b
      · rw [e]; exact h
      · exact hn c (by omega)
    unfold wX9_fits_99
    unfold wX9_fits_194 wX9_fits_195 wX9_fits_220
    simp (disch := first | decide | omega) only [m_I, m_R, m_rc, m_pI, m_aI, m_aZ, m_sI, m_sZ, z01, z11, ix3, ix6, ix250, ix1, ix2, nI_add, nI_clamp, vin, true_and, and_true, or_true, true_or, mN3, mN6, mN7, mN8, mN9, mN10, mN12, mN13, mN14, mN15, mN16, mN17, mN18, mN19, mN20, mN21, mN23, mN24, mN25, mN26, mN33, mN34, mN35, mN37, mN39, mN40, mN41, e0, e6, e7, e8, e9, e17, ile, brf (show ¬ nA ≤ b by omega), brt (rfl : (0 : Int32) = 0), brf (by decide : ¬ (1 : Int32) = 0)]
    unfold alk at hzero hnext
    repeat' (apply brc <;> intro _)
    all_goals first | exact hone ‹_› | (refine hzero ‹_› ⟨?_, ⟨?_, ?_, ?_⟩, ?_⟩ <;> grind) | (refine hnext ?_; grind)

theorem q_fits {post : Int32 → Pool → Prop} {s a : Nat} (hs : ST I D nA) (hq : q < 9) (hs6 : s < 6) (ha : a < 250) (hp : post (bI (FT D nA t q s a)) (mp I)) : wX9_fits post (some 0) (nI q) (nI s) (nI a) t (mp I) := by
  have hA := hs.2.1
  have e0 := hs.1
  have e6 := hs.2.2 6 (by decide)
  have e7 := hs.2.2 7 (by decide)
  have e9 := hs.2.2 9 (by decide)
  have e15 := hs.2.2 15 (by decide)
  have e16 := hs.2.2 16 (by decide)
  have hl : ∀ k f, 3 = f + k → D 9 a ≤ t → D 6 a = D 15 (6 * q + s) → (∀ g, g < f → D 16 (3 * (6 * q + s) + g) = -1 ∨ D 16 (3 * (6 * q + s) + g) = D 7 (3 * a + g)) → wX9_fits_40 post (k + 1) (some 0) (nI a) t (nI (6 * q + s)) (nI f) (mp I) := by
    intro k
    induction k with
    | zero =>
      intro f hf h1 h2 h3
      unfold wX9_fits_40
      simp (disch := first | decide | omega) only [m_I, m_R, m_rc, m_pI, m_aI, m_aZ, m_sI, m_sZ, z01, z11, ix3, ix6, ix250, ix1, ix2, nI_add, nI_clamp, vin, true_and, and_true, or_true, true_or, mN3, mN6, mN7, mN8, mN9, mN10, mN12, mN13, mN14, mN15, mN16, mN17, mN18, mN19, mN20, mN21, mN23, mN24, mN25, mN26, mN33, mN34, mN35, mN37, mN39, mN40, mN41, l3le, brt (show 3 ≤ f by omega)]
      exact ⟨_, q_fits2 hs hq hs6 ha ⟨h1, h2, fun g hg => h3 g (by omega)⟩ hp nA 0 (by omega) (.inr fun c hc => by omega)⟩
    | succ k ih =>
      intro f hf h1 h2 h3
      have hn : (D 16 (3 * (6 * q + s) + f) = -1 ∨ D 16 (3 * (6 * q + s) + f) = D 7 (3 * a + f)) → wX9_fits_40 post (k + 1) (some 0) (nI a) t (nI (6 * q + s)) (nI (f + 1)) (mp I) := fun h => ih (f + 1) (by omega) h1 h2 fun g hg => by
        by_cases e : g = f
        · rw [e]; exact h
        · exact h3 g (by omega)
      unfold wX9_fits_40
      unfold wX9_fits_90
      simp (disch := first | decide | omega) only [m_I, m_R, m_rc, m_pI, m_aI, m_aZ, m_sI, m_sZ, z01, z11, ix3, ix6, ix250, ix1, ix2, nI_add, nI_clamp, vin, true_and, and_true, or_true, true_or, mN3, mN6, mN7, mN8, mN9, mN10, mN12, mN13, mN14, mN15, mN16, mN17, mN18, mN19, mN20, mN21, mN23, mN24, mN25, mN26, mN33, mN34, mN35, mN37, mN39, mN40, mN41, l3le, brf (show ¬ 3 ≤ f by omega), e16, e7]
      refine brc (fun h => hn (.inl h)) fun h => brc (fun h' => hn (.inr h')) fun h' => ?_
      rw [bI_f (fun z => (z.2.1.2 f (by omega)).elim h h')] at hp
      exact hp
  unfold wX9_fits
  simp (disch := first | decide | omega) only [m_I, m_R, m_rc, m_pI, m_aI, m_aZ, m_sI, m_sZ, z01, z11, ix3, ix6, ix250, ix1, ix2, nI_add, nI_clamp, vin, true_and, and_true, or_true, true_or, mN3, mN6, mN7, mN8, mN9, mN10, mN12, mN13, mN14, mN15, mN16, mN17, mN18, mN19, mN20, mN21, mN23, mN24, mN25, mN26, mN33, mN34, mN35, mN37, mN39, mN40, mN41, e9, e6, e15]
  refine brc (fun h => ?_) fun h => brc (fun h' => ?_) fun h' => ?_
  · rw [bI_f (fun z => Int32.not_le.mpr h z.1)] at hp
    exact hp
  · exact ⟨4, hl 3 0 rfl (Int32.not_lt.mp h) h' fun g hg => by omega⟩
  · rw [bI_f (fun z => h' z.2.1.1)] at hp
    exact hp
/-- the row of fits is done, below the steps ns -/
def FR (I D : Mem) (nA : Nat) (t : Int32) (q ns : Nat) : Prop := ∀ n c, n < ns → c < nA → I 33 (250 * n + c) = bI (FT D nA t q n c)
theorem q_leads {post : Int32 → Pool → Prop} {p a s c : Nat} (hs : ST I D nA) (hf : FR I D nA t q ns) (hn6 : ns ≤ 6) (hq : q < 9) (hb : b < 3) (hD : D 12 q = nI b) (hps : p < s) (hsn : s < ns) (ha : a < nA) (hc : c < nA) (hp : post (bI (LD D nA t q p a s c)) (mp I)) : wX9_leads post (some 0) (nI q) (nI p) (nI a) (nI s) (nI c) (mp I) := by
  have hA := hs.2.1
  have e0 := hs.1
  have e8 := hs.2.2 8 (by decide)
  have e18 := hs.2.2 18 (by decide)
  have hv : ∀ {post : Int32 → Pool → Prop} {a : Nat} (_ : a < 250), wX9_value post (some 0) (nI q) (nI a) (mp I) = post (vl D q a) (mp I) := fun ha => q_value hs hq hb hD ha
  have h3 : ∀ (K : Option Nat → Int32 → Int32 → Int32 → Int32 → Int32 → Pool → Prop) (n : Nat), p < n → n < s → ((∀ d, d < nA → ¬ (FT D nA t q n d ∧ vl D q d = vl D q c ∧ D 8 a < D 8 d ∧ D 8 d < D 8 c)) → K (some 0) (nI q) (nI a) (nI s) (nI c) (nI (n + 1)) (mp I)) → ∀ k d, nA = d + k → (∀ d', d' < d → ¬ (FT D nA t q n d' ∧ vl D q d' = vl D q c ∧ D 8 a < D 8 d' ∧ D 8 d' < D 8 c)) → wX9_leads_88 K post (k + 1) (some 0) (nI q) (nI a) (nI s) (nI c) (nI n) (nI d) (mp I) := by
    intro K n hn1 hn2 hK k
    induction k with
    | zero =>
      intro d hd hb
      unfold wX9_leads_88
      simp (disch := first | decide | omega) only [m_I, m_R, m_rc, m_pI, m_aI, m_aZ, m_sI, m_sZ, z01, z11, ix3, ix6, ix250, ix1, ix2, nI_add, nI_clamp, vin, true_and, and_true, or_true, true_or, mN3, mN6, mN7, mN8, mN9, mN10, mN12, mN13, mN14, mN15, mN16, mN17, mN18, mN19, mN20, mN21, mN23, mN24, mN25, mN26, mN33, mN34, mN35, mN37, mN39, mN40, mN41, e0, ile, brt (show nA ≤ d by omega)]
      exact hK fun d' hd' => hb d' (by omega)
    | succ k ih =>
      intro d hd hb
      have hnext : ¬ (FT D nA t q n d ∧ vl D q d = vl D q c ∧ D 8 a < D 8 d ∧ D 8 d < D 8 c) → wX9_leads_88 K post (k + 1) (some 0) (nI q) (nI a) (nI s) (nI c) (nI n) (nI (d + 1)) (mp I) := fun h => ih (d + 1) (by omega) fun d' hd' => by
        by_cases e : d' = d
        · rw [e]; exact h
        · exact hb d' (by omega)
      have hzero : (FT D nA t q n d ∧ vl D q d = vl D q c ∧ D 8 a < D 8 d ∧ D 8 d < D 8 c) → post 0 (mp I) := fun h => by
        rw [bI_f (fun z => z.2.2.2 n hn1 hn2 d (by omega) h)] at hp
        exact hp
      unfold wX9_leads_88
      unfold wX9_leads_166
      simp (disch := first | decide | omega) only [m_I, m_R, m_rc, m_pI, m_aI, m_aZ, m_sI, m_sZ, z01, z11, ix3, ix6, ix250, ix1, ix2, nI_add, nI_clamp, vin, true_and, and_true, or_true, true_or, mN3, mN6, mN7, mN8, mN9, mN10, mN12, mN13, mN14, mN15, mN16, mN17, mN18, mN19, mN20, mN21, mN23, mN24, mN25, mN26, mN33, mN34, mN35, mN37, mN39, mN40, mN41, e0, ile, brf (show ¬ nA ≤ d by omega), hf n d (by omega) (by omega), bI_br, hv, e8]
      repeat' (apply brc <;> intro _)
      all_goals first | (refine hzero ⟨?_, ?_, ?_, ?_⟩ <;> grind) | (refine hnext ?_; grind)
  have h2 : vl D q a = vl D q c ∧ D 8 a < D 8 c ∧ (D 18 (6 * q + s) = -1 ∨ D 8 c - D 8 a ≤ D 18 (6 * q + s)) → ∀ k n, s = n + k → p < n → (∀ n', p < n' → n' < n → ∀ d, d < nA → ¬ (FT D nA t q n' d ∧ vl D q d = vl D q c ∧ D 8 a < D 8 d ∧ D 8 d < D 8 c)) → wX9_leads_78 post (k + 1) (some 0) (nI q) (nI a) (nI s) (nI c) (nI n) (mp I) := by
    intro h0 k
    induction k with
    | zero =>
      intro n hn hpn hb
      unfold wX9_leads_78
      simp (disch := first | decide | omega) only [m_I, m_R, m_rc, m_pI, m_aI, m_aZ, m_sI, m_sZ, z01, z11, ix3, ix6, ix250, ix1, ix2, nI_add, nI_clamp, vin, true_and, and_true, or_true, true_or, mN3, mN6, mN7, mN8, mN9, mN10, mN12, mN13, mN14, mN15, mN16, mN17, mN18, mN19, mN20, mN21, mN23, mN24, mN25, mN26, mN33, mN34, mN35, mN37, mN39, mN40, mN41, ile, brt (show s ≤ n by omega)]
      rw [bI_t ⟨h0.1, h0.2.1, h0.2.2, fun n' h1 h2 => hb n' h1 (by omega)⟩] at hp
      exact hp
    | succ k ih =>
      intro n hn hpn hb
      unfold wX9_leads_78
      simp (disch := first | decide | omega) only [m_I, m_R, m_rc, m_pI, m_aI, m_aZ, m_sI, m_sZ, z01, z11, ix3, ix6, ix250, ix1, ix2, nI_add, nI_clamp, vin, true_and, and_true, or_true, true_or, mN3, mN6, mN7, mN8, mN9, mN10, mN12, mN13, mN14, mN15, mN16, mN17, mN18, mN19, mN20, mN21, mN23, mN24, mN25, mN26, mN33, mN34, mN35, mN37, mN39, mN40, mN41, ile, brf (show ¬ s ≤ n by omega)]
      refine ⟨_, h3 _ n hpn (by omega) (fun h => ih (n + 1) (by omega) (by omega) fun n' h1 h2 => ?_) nA 0 (by omega) (fun d hd => by omega)⟩
      by_cases e : n' = n
      · rw [e]; exact h
      · exact hb n' h1 (by omega)
  unfold wX9_leads wX9_leads_73
  simp (disch := first | decide | omega) only [m_I, m_R, m_rc, m_pI, m_aI, m_aZ, m_sI, m_sZ, z01, z11, ix3, ix6, ix250, ix1, ix2, nI_add, nI_clamp, vin, true_and, and_true, or_true, true_or, mN3, mN6, mN7, mN8, mN9, mN10, mN12, mN13, mN14, mN15, mN16, mN17, mN18, mN19, mN20, mN21, mN23, mN24, mN25, mN26, mN33, mN34, mN35, mN37, mN39, mN40, mN41, e18, e8, hv]
  have hz : ¬ LD D nA t q p a s c → post 0 (mp I) := fun h => by rw [bI_f h] at hp; exact hp
  repeat' (apply brc <;> intro _)
  all_goals first | exact ⟨_, h2 ⟨by grind, by grind, by grind⟩ (s - (p + 1)) (p + 1) (by omega) (by omega) (fun n' h1 h2 => by omega)⟩ | (refine hz (fun z => ?_); unfold LD at z; grind)
end
