section
variable {I0 D : Mem} {nA q b ns pf l : Nat} {t : Int32} {post : Pool → Prop}
def ER (I D : Mem) (nA : Nat) (t : Int32) (q ns k : Nat) : Prop := ∀ n c, n < ns → c < nA → I 34 (250 * n + c) = bI (ET D nA t q k n c)
theorem ix_ne {a b c d : Nat} (hb : b < 250) (hd : d < 250) (h : ¬ (a = c ∧ b = d)) : 250 * a + b ≠ 250 * c + d := by omega
theorem FR_cg {I J : Mem} (h : FR I D nA t q ns) (e : J 33 = I 33) : FR J D nA t q ns := fun n c hn hc => by rw [e]; exact h n c hn hc
theorem ER_cg {I J : Mem} {k : Nat} (h : ER I D nA t q ns k) (e : J 34 = I 34) : ER J D nA t q ns k := fun n c hn hc => by rw [e]; exact h n c hn hc
theorem SF_trans {I J K : Mem} (h1 : SF I J) (h2 : SF J K) : SF I K := ⟨fun c a1 a2 a3 a4 => (h2.1 c a1 a2 a3 a4).trans (h1.1 c a1 a2 a3 a4), fun k hk => (h2.2 k hk).trans (h1.2 k hk)⟩
theorem q_w274 (hs : ST I0 D nA) (hw : WQ D nA q b ns pf) (hl : bfr D q ns = some l) (hp : ∀ J, SF I0 J → FR J D nA t q ns → ER J D nA t q ns ns → LR J (FL D nA t q nA) → post (mp J)) : ∀ k a I, nA = a + k → SF I0 I → FR I D nA t q ns → ER I D nA t q ns ns → LR I (FL D nA t q a) → wX9_work_274 post (k + 1) (some 0) (nI q) t (nI l) (nI a) (mp I) := by
  obtain ⟨hq, hb, hD, hn6, hns, hpf, hpf3, hv⟩ := hw
  have hA := hs.2.1
  have hln := (bfr_lt hl).1
  have hnc : (D 13 q).toNatClampNeg = ns := by rw [hns, nI_clamp (by omega)]
  intro k
  induction k with
  | zero =>
    intro a I ha hS hf he hL
    have hs' := SF_st hS hs
    unfold wX9_work_274
    simp (disch := first | decide | omega) only [m_I, m_R, m_rc, m_pI, m_aI, m_aZ, m_sI, m_sZ, z01, z11, ix3, ix6, ix250, ix1, ix2, nI_add, nI_clamp, vin, true_and, and_true, or_true, true_or, mN3, mN6, mN7, mN8, mN9, mN10, mN12, mN13, mN14, mN15, mN16, mN17, mN18, mN19, mN20, mN21, mN23, mN24, mN25, mN26, mN33, mN34, mN35, mN37, mN39, mN40, mN41, hs'.1, ile, brt (show nA ≤ a by omega)]
    have e : nA = a := by omega
    refine hp I hS hf he ?_
    have hL2 : LR I (FL D nA t q nA) := by
      rw [show FL D nA t q nA = FL D nA t q a by rw [← e]]
      exact hL
    exact hL2
  | succ k ih =>
    intro a I ha hS hf he hL
    have hs' := SF_st hS hs
    have hfd : FD D nA t q a ↔ EN D nA t q l a ∧ QB D nA t q l a ∧ SP D nA t q l a := by
      unfold FD
      rw [hnc, hl]
      exact ⟨fun ⟨l', h1, h2⟩ => by cases h1; exact h2, fun h => ⟨l, rfl, h⟩⟩
    have hno : ¬ FD D nA t q a → wX9_work_274 post (k + 1) (some 0) (nI q) t (nI l) (nI (a + 1)) (mp I) := fun h => ih (a + 1) I (by omega) hS hf he (by rw [FL_n a h]; exact hL)
    unfold wX9_work_274
    unfold wX9_work_401
    simp (disch := first | decide | omega) only [m_I, m_R, m_rc, m_pI, m_aI, m_aZ, m_sI, m_sZ, z01, z11, ix3, ix6, ix250, ix1, ix2, nI_add, nI_clamp, vin, true_and, and_true, or_true, true_or, mN3, mN6, mN7, mN8, mN9, mN10, mN12, mN13, mN14, mN15, mN16, mN17, mN18, mN19, mN20, mN21, mN23, mN24, mN25, mN26, mN33, mN34, mN35, mN37, mN39, mN40, mN41, hs'.1, ile, brf (show ¬ nA ≤ a by omega), he l a hln (by omega), bI_br]
    refine brc (fun h1 => ?_) fun h1 => hno fun z => h1 ((ET_EN hln).mpr (hfd.mp z).1)
    have h1' := (ET_EN hln).mp h1
    refine q_quiet hs' hf hn6 hns hq hb hD hln (by omega) ?_
    rw [bI_br]
    refine brc (fun h2 => ?_) fun h2 => hno fun z => h2 (hfd.mp z).2.1
    rw [m_rc]
    refine q_spreads hs' hf hn6 hq hb hD hpf hpf3 hv hln (by omega) ?_
    rw [bI_br]
    refine brc (fun h3 => ?_) fun h3 => hno fun z => h3 (hfd.mp z).2.2
    rw [m_I, hL.1]
    have hfl := FL_len (D := D) (nA := nA) (t := t) (q := q) a
    refine ⟨_, q_ins (F := FL D nA t q a) (flt_srt (byT_srt a)) (fun x hx => by have := FL_lt hx; omega) (by omega) (by omega) (fun J h1 h2 h3 h4 => ?_) hs' hL.1 _ I SF_rfl rfl rfl rfl (Nat.le_refl _) (fun j h1 h2 => by omega) (fun i hi => hL.2 i hi) (fun i h1 h2 => by omega)⟩
    refine ih (a + 1) J (by omega) (SF_trans hS h1) (FR_cg hf h2) (ER_cg he h3) ?_
    rw [FL_s a (hfd.mpr ⟨h1', by assumption, by assumption⟩)]
    exact h4
theorem q_w174 {I : Mem} {K94 : Option Nat → Int32 → Int32 → Int32 → Pool → Prop} {K132 : Option Nat → Int32 → Int32 → Int32 → Int32 → Int32 → Pool → Prop} {s c p : Nat} (hs : ST I D nA) (hw : WQ D nA q b ns pf) (hf : FR I D nA t q ns) (he : ∀ d, d < nA → I 34 (250 * p + d) = bI (ET D nA t q s p d)) (hps : p < s) (hsn : s < ns) (hc : c < nA) (hK : K132 (some 0) (nI q) t (nI s) (nI p) (nI (c + 1)) (mp (p2 I 34 (250 * s + c) (bI (∃ a, a < nA ∧ ET D nA t q s p a ∧ LD D nA t q p a s c))))) : ∀ k a, nA = a + k → wX9_work_174 K94 K132 post (k + 1) (some 0) (nI q) t (nI s) (nI p) (nI c) (bI (∃ x, x < a ∧ ET D nA t q s p x ∧ LD D nA t q p x s c)) (nI a) (mp I) := by
  obtain ⟨hq, hb, hD, hn6, hns, hpf, hpf3, hv⟩ := hw
  have hA := hs.2.1
  have e0 := hs.1
  have hfin : ∀ a, a ≤ nA → ((∃ x, x < a ∧ ET D nA t q s p x ∧ LD D nA t q p x s c) ∨ a = nA) → wX9_work_238 K94 K132 post (some 0) (nI q) t (nI s) (nI p) (nI c) (bI (∃ x, x < a ∧ ET D nA t q s p x ∧ LD D nA t q p x s c)) (mp I) := fun a ha h => by
    have e : (∃ x, x < a ∧ ET D nA t q s p x ∧ LD D nA t q p x s c) = (∃ x, x < nA ∧ ET D nA t q s p x ∧ LD D nA t q p x s c) := propext ⟨fun ⟨x, h1, h2⟩ => ⟨x, by omega, h2⟩, fun z => h.elim id fun e => by rw [e]; exact z⟩
    rw [e]
    unfold wX9_work_238
    unfold wX9_work_253
    simp (disch := first | decide | omega) only [m_I, m_R, m_rc, m_pI, m_aI, m_aZ, m_sI, m_sZ, z01, z11, ix3, ix6, ix250, ix1, ix2, nI_add, nI_clamp, vin, true_and, and_true, or_true, true_or, mN3, mN6, mN7, mN8, mN9, mN10, mN12, mN13, mN14, mN15, mN16, mN17, mN18, mN19, mN20, mN21, mN23, mN24, mN25, mN26, mN33, mN34, mN35, mN37, mN39, mN40, mN41, bI_01]
    exact hK
  intro k
  induction k with
  | zero =>
    intro a ha
    unfold wX9_work_174
    simp (disch := first | decide | omega) only [m_I, m_R, m_rc, m_pI, m_aI, m_aZ, m_sI, m_sZ, z01, z11, ix3, ix6, ix250, ix1, ix2, nI_add, nI_clamp, vin, true_and, and_true, or_true, true_or, mN3, mN6, mN7, mN8, mN9, mN10, mN12, mN13, mN14, mN15, mN16, mN17, mN18, mN19, mN20, mN21, mN23, mN24, mN25, mN26, mN33, mN34, mN35, mN37, mN39, mN40, mN41, e0, ile, brt (show nA ≤ a by omega)]
    exact hfin a (by omega) (.inr (by omega))
  | succ k ih =>
    intro a ha
    unfold wX9_work_174
    simp (disch := first | decide | omega) only [m_I, m_R, m_rc, m_pI, m_aI, m_aZ, m_sI, m_sZ, z01, z11, ix3, ix6, ix250, ix1, ix2, nI_add, nI_clamp, vin, true_and, and_true, or_true, true_or, mN3, mN6, mN7, mN8, mN9, mN10, mN12, mN13, mN14, mN15, mN16, mN17, mN18, mN19, mN20, mN21, mN23, mN24, mN25, mN26, mN33, mN34, mN35, mN37, mN39, mN40, mN41, e0, ile, brf (show ¬ nA ≤ a by omega), brf (nI_pos (show p < 2 ^ 31 by omega)), bI_br, he a (by omega)]
    refine brc (fun h => hfin a (by omega) (.inl h)) fun h => ?_
    have hn0 : ¬ (ET D nA t q s p a ∧ LD D nA t q p a s c) → wX9_work_229 K94 K132 (wX9_work_174 K94 K132 post (k + 1)) post (some 0) (nI q) t (nI s) (nI p) (nI c) (nI a) (mp I) := fun h2 => by
      have := ih (a + 1) (by omega)
      rw [bI_f (fun ⟨x, h3, h4⟩ => by
        by_cases e : x = a
        · subst e; exact h2 h4
        · exact h ⟨x, by omega, h4⟩)] at this
      unfold wX9_work_229 wX9_work_230
      rw [ix1]
      exact this
    refine brc (fun h1 => ?_) fun h1 => hn0 fun z => h1 z.1
    refine q_leads hs hf hn6 hq hb hD hps hsn (by omega) hc ?_
    rw [bI_br]
    refine brc (fun h2 => ?_) fun h2 => hn0 fun z => h2 z.2
    have := ih (a + 1) (by omega)
    rw [bI_t ⟨a, by omega, h1, h2⟩] at this
    unfold wX9_work_230
    rw [ix1]
    exact this
theorem q_w132 {K94 : Option Nat → Int32 → Int32 → Int32 → Pool → Prop} {s : Nat} (hs : ST I0 D nA) (hw : WQ D nA q b ns pf) (hsn : s < ns) (hst : D 14 (6 * q + s) = 0) (hK : ∀ J, SF I0 J → J 37 = I0 37 → J 0 36 = I0 0 36 → FR J D nA t q ns → ER J D nA t q ns (s + 1) → K94 (some 0) (nI q) t (nI (s + 1)) (mp J)) : ∀ k c I, nA = c + k → SF I0 I → I 37 = I0 37 → I 0 36 = I0 0 36 → FR I D nA t q ns → (∀ n d, n < ns → d < nA → I 34 (250 * n + d) = bI (ET D nA t q (if n = s ∧ d < c then s + 1 else s) n d)) → wX9_work_132 K94 post (k + 1) (some 0) (nI q) t (nI s) (oI (bfr D q s)) (nI c) (mp I) := by
  have hA := hs.2.1
  have hn6 : ns ≤ 6 := hw.2.2.2.1
  intro k
  induction k with
  | zero =>
    intro c I hc hS h37 h36 hf he
    have hs' := SF_st hS hs
    unfold wX9_work_132
    unfold wX9_work_259
    simp (disch := first | decide | omega) only [m_I, m_R, m_rc, m_pI, m_aI, m_aZ, m_sI, m_sZ, z01, z11, ix3, ix6, ix250, ix1, ix2, nI_add, nI_clamp, vin, true_and, and_true, or_true, true_or, mN3, mN6, mN7, mN8, mN9, mN10, mN12, mN13, mN14, mN15, mN16, mN17, mN18, mN19, mN20, mN21, mN23, mN24, mN25, mN26, mN33, mN34, mN35, mN37, mN39, mN40, mN41, hs'.1, ile, brt (show nA ≤ c by omega)]
    refine hK I hS h37 h36 hf fun n d hn hd => ?_
    rw [he n d hn hd]
    by_cases e : n = s
    · rw [if_pos ⟨e, by omega⟩]
    · rw [if_neg (fun z => e z.1)]
      by_cases e2 : n < s
      · congr 1
        exact propext ((ET_EN e2).trans (ET_EN (by omega)).symm)
      · rw [bI_f (p := ET D nA t q s n d) (ET_ge (by omega)), bI_f (p := ET D nA t q (s + 1) n d) (ET_ge (by omega))]
  | succ k ih =>
    intro c I hc hS h37 h36 hf he
    have hs' := SF_st hS hs
    have hnext : ∀ v : Int32, v = bI (ET D nA t q (s + 1) s c) → wX9_work_132 K94 post (k + 1) (some 0) (nI q) t (nI s) (oI (bfr D q s)) (nI (c + 1)) (mp (p2 I 34 (250 * s + c) v)) := fun v hv => by
      refine ih (c + 1) _ (by omega) (SF_p hS (by omega)) (by rw [p2_ne (by omega), h37]) (by rw [p2_ne (by omega), h36]) (FR_cg hf (p2_ne (by omega))) fun n d hn hd => ?_
      by_cases e : n = s ∧ d = c
      · obtain ⟨rfl, rfl⟩ := e
        rw [p2_same, if_pos ⟨rfl, by omega⟩, hv]
      · rw [p2_row (ix_ne (by omega) (by omega) e), he n d hn hd]
        congr 2
        by_cases e2 : n = s
        · have : ¬ d = c := fun z => e ⟨e2, z⟩
          by_cases e3 : d < c
          · rw [if_pos ⟨e2, e3⟩, if_pos ⟨e2, by omega⟩]
          · rw [if_neg (fun z => e3 z.2), if_neg (fun z => by omega)]
        · rw [if_neg (fun z => e2 z.1), if_neg (fun z => e2 z.1)]
    have hET : ET D nA t q (s + 1) s c = (D 14 (6 * q + s) = 0 ∧ FT D nA t q s c ∧ ∀ p, bfr D q s = some p → ∃ a, a < nA ∧ ET D nA t q s p a ∧ LD D nA t q p a s c) := by
      conv => lhs; unfold ET
      rw [if_pos rfl]
    unfold wX9_work_132
    unfold wX9_work_171 wX9_work_253
    simp (disch := first | decide | omega) only [m_I, m_R, m_rc, m_pI, m_aI, m_aZ, m_sI, m_sZ, z01, z11, ix3, ix6, ix250, ix1, ix2, nI_add, nI_clamp, vin, true_and, and_true, or_true, true_or, mN3, mN6, mN7, mN8, mN9, mN10, mN12, mN13, mN14, mN15, mN16, mN17, mN18, mN19, mN20, mN21, mN23, mN24, mN25, mN26, mN33, mN34, mN35, mN37, mN39, mN40, mN41, hs'.1, ile, brf (show ¬ nA ≤ c by omega), hf s c hsn (by omega), bI_br]
    refine brc (fun h1 => ?_) fun h1 => ?_
    · cases hbf : bfr D q s with
      | none =>
        rw [hbf] at hnext hET
        rw [brf (by decide : ¬ (0 : Int32) ≤ oI none)]
        have h2 := hnext 1 (by rw [bI_t]; rw [hET]; exact ⟨hst, h1, fun p hp => by cases hp⟩)
        refine ⟨1, ?_⟩
        unfold wX9_work_174
        unfold wX9_work_238 wX9_work_253
        have h0c : (0 : Int32) = nI 0 := rfl
        rw [m_I, hs'.1]
        refine brc (fun _ => ?_) fun _ => ?_
        · simp (disch := first | decide | omega) only [m_I, m_R, m_rc, m_pI, m_aI, m_aZ, m_sI, m_sZ, z01, z11, ix3, ix6, ix250, ix1, ix2, nI_add, nI_clamp, vin, true_and, and_true, or_true, true_or, mN3, mN6, mN7, mN8, mN9, mN10, mN12, mN13, mN14, mN15, mN16, mN17, mN18, mN19, mN20, mN21, mN23, mN24, mN25, mN26, mN33, mN34, mN35, mN37, mN39, mN40, mN41]
          exact h2
        · rw [brt (by decide : oI none < 0)]
          simp (disch := first | decide | omega) only [m_I, m_R, m_rc, m_pI, m_aI, m_aZ, m_sI, m_sZ, z01, z11, ix3, ix6, ix250, ix1, ix2, nI_add, nI_clamp, vin, true_and, and_true, or_true, true_or, mN3, mN6, mN7, mN8, mN9, mN10, mN12, mN13, mN14, mN15, mN16, mN17, mN18, mN19, mN20, mN21, mN23, mN24, mN25, mN26, mN33, mN34, mN35, mN37, mN39, mN40, mN41]
          exact h2
      | some p =>
        have hps := bfr_lt hbf
        rw [hbf] at hnext hET
        rw [brt (show (0 : Int32) ≤ oI (some p) from nI_pos' (by omega))]
        have h3 := q_w174 (post := post) (K94 := K94) (K132 := wX9_work_132 K94 post (k + 1)) (I := I) (s := s) (c := c) (p := p) hs' hw hf (fun d hd => by rw [he p d (by omega) hd, if_neg (by omega)]) hps.1 hsn (by omega) (hnext _ (by
          congr 1
          rw [hET]
          exact propext ⟨fun z => ⟨hst, h1, fun p' hp' => by cases hp'; exact z⟩, fun z => z.2.2 p rfl⟩)) nA 0 (by omega)
        rw [bI_f (fun ⟨x, h4, _⟩ => by omega)] at h3
        exact ⟨_, h3⟩
    · have hI : p2 I 34 (250 * s + c) (bI (ET D nA t q (s + 1) s c)) = I := by
        funext x
        by_cases ex : x = 34
        · subst ex
          rw [p2_at]
          funext j
          by_cases ej : j = 250 * s + c
          · rw [if_pos ej, ej, he s c hsn (by omega), if_neg (by omega), bI_f (p := ET D nA t q s s c) (ET_ge (Nat.le_refl s)), bI_f (fun z => by rw [hET] at z; exact h1 z.2.1)]
          · rw [if_neg ej]
        · rw [p2_ne ex]
      have := hnext _ rfl
      rw [hI] at this
      exact this
end
