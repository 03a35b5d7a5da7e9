section
variable {I D : Mem} {nA nQ q b ns pf l : Nat} {t v : Int32} {post : Int32 → Pool → Prop}
def GQ (D : Mem) (nA nQ : Nat) : Prop := ∀ q, q < nQ → ∃ b ns pf l, WQ D nA q b ns pf ∧ bfr D q ns = some l
noncomputable def sfl (D : Mem) (nA : Nat) (t : Int32) : Nat → Nat
  | 0 => 0
  | q + 1 => sfl D nA t q + (FL D nA t q nA).length
noncomputable def cv (I D : Mem) (nA nQ : Nat) (x : Int) : Int32 := if x = 0 then I 0 1 else if x = 1 then I 0 4 else if x = 2 then I 0 5 else if x = 3 then I 0 11 else if x = 4 then I 0 22 else if x = 5 then I 0 2 else if x = 6 then nI (cnt (fun a => D 8 a < D 9 a) nA) else if x = 7 then nI (sfl D nA (I 0 1) nQ) else -1
theorem sfl_le : ∀ n, sfl D nA t n ≤ n * nA := by
  intro n
  induction n with
  | zero => exact Nat.zero_le _
  | succ n ih =>
    unfold sfl
    have := FL_len (D := D) (nA := nA) (t := t) (q := n) nA
    rw [Nat.succ_mul]
    omega
theorem q_count (hs : ST I D nA) (hn : I 0 11 = nI nQ) (h8 : nQ ≤ 8) (hg : GQ D nA nQ) (hp : ∀ J, SC I J → J 0 0 = 0 → post (cv I D nA nQ v.toInt) (mp J)) : wX9_count post (some 0) v (mp I) := by
  have hA := hs.2.1
  unfold wX9_count
  simp only [m_pI, m_I]
  have hsc : SC I (p2 I 0 0 0) := SC_0 SC_rfl (by decide)
  have hp' := hp _ hsc p2_same
  have hr : ∀ k, k ∉ scf → p2 I 0 0 0 0 k = I 0 k := fun k hk => hsc.2 k hk
  rw [hr 1 (by decide), hr 4 (by decide), hr 5 (by decide), hr 11 (by decide), hr 22 (by decide), hr 2 (by decide)]
  unfold cv at hp' hp
  refine brc (fun h => ?_) fun h => brc (fun h0 => ?_) fun h0 => brc (fun h1 => ?_) fun h1 => brc (fun h2 => ?_) fun h2 => brc (fun h3 => ?_) fun h3 => brc (fun h4 => ?_) fun h4 => brc (fun h5 => ?_) fun h5 => brc (fun h6 => ?_) fun h6 => ?_
  · rw [if_neg (by omega), if_neg (by omega), if_neg (by omega), if_neg (by omega), if_neg (by omega), if_neg (by omega), if_neg (by omega), if_neg (by omega)] at hp'
    exact hp'
  · rw [if_pos h0] at hp'; exact hp'
  · rw [if_neg h0, if_pos h1] at hp'; exact hp'
  · rw [if_neg h0, if_neg h1, if_pos h2] at hp'; exact hp'
  · rw [if_neg h0, if_neg h1, if_neg h2, if_pos h3] at hp'; exact hp'
  · rw [if_neg h0, if_neg h1, if_neg h2, if_neg h3, if_pos h4] at hp'; exact hp'
  · rw [if_neg h0, if_neg h1, if_neg h2, if_neg h3, if_neg h4, if_pos h5] at hp'; exact hp'
  · rw [if_neg h0, if_neg h1, if_neg h2, if_neg h3, if_neg h4, if_neg h5, if_pos h6] at hp'
    have hs' := SC_st hsc hs
    generalize p2 I 0 0 0 = J at *
    have e8 := hs'.2.2 8 (by decide)
    have e9 := hs'.2.2 9 (by decide)
    have hl : ∀ k c, nA = c + k → wX9_count_88 post (k + 1) (some 0) (nI (cnt (fun a => D 8 a < D 9 a) c)) (nI c) (mp J) := by
      intro k
      induction k with
      | zero =>
        intro c hc
        unfold wX9_count_88
        simp (disch := first | decide | omega) only [m_I, m_R, m_rc, m_pI, m_aI, m_aZ, m_sI, m_sZ, z01, z11, ix3, ix6, ix250, ix1, ix2, nI_add, nI_clamp, vin, true_and, and_true, or_true, true_or, mN3, mN6, mN7, mN8, mN9, mN10, mN12, mN13, mN14, mN15, mN16, mN17, mN18, mN19, mN20, mN21, mN23, mN24, mN25, mN26, mN33, mN34, mN35, mN37, mN39, mN40, mN41, hs'.1, ile, brt (show nA ≤ c by omega)]
        rw [show c = nA by omega]
        exact hp'
      | succ k ih =>
        intro c hc
        have ihc := ih (c + 1) (by omega)
        unfold wX9_count_88
        unfold wX9_count_117
        simp (disch := first | decide | omega) only [m_I, m_R, m_rc, m_pI, m_aI, m_aZ, m_sI, m_sZ, z01, z11, ix3, ix6, ix250, ix1, ix2, nI_add, nI_clamp, vin, true_and, and_true, or_true, true_or, mN3, mN6, mN7, mN8, mN9, mN10, mN12, mN13, mN14, mN15, mN16, mN17, mN18, mN19, mN20, mN21, mN23, mN24, mN25, mN26, mN33, mN34, mN35, mN37, mN39, mN40, mN41, hs'.1, ile, brf (show ¬ nA ≤ c by omega), e8, e9]
        refine brc (fun h => ?_) fun h => ?_
        · rw [cnt_f (p := fun a => D 8 a < D 9 a) (Int32.not_lt.mpr h)] at ihc
          rw [Int32.add_zero]; exact ihc
        · rw [cnt_t (p := fun a => D 8 a < D 9 a) (Int32.not_le.mp h)] at ihc
          exact ihc
    exact ⟨_, hl nA 0 (by omega)⟩
  · have h7 : v.toInt = 7 := by omega
    rw [if_neg h0, if_neg h1, if_neg h2, if_neg h3, if_neg h4, if_neg h5, if_neg h6, if_pos h7] at hp
    have hl : ∀ k c J, nQ = c + k → SC I J → J 0 0 = 0 → wX9_count_129 post (k + 1) (some 0) (nI (sfl D nA (I 0 1) c)) (nI c) (mp J) := by
      intro k
      induction k with
      | zero =>
        intro c J hc hJ h0
        have e11 : J 0 11 = nI nQ := (hJ.2 11 (by decide)).trans hn
        unfold wX9_count_129
        simp (disch := first | decide | omega) only [m_I, m_R, m_rc, m_pI, m_aI, m_aZ, m_sI, m_sZ, z01, z11, ix3, ix6, ix250, ix1, ix2, nI_add, nI_clamp, vin, true_and, and_true, or_true, true_or, mN3, mN6, mN7, mN8, mN9, mN10, mN12, mN13, mN14, mN15, mN16, mN17, mN18, mN19, mN20, mN21, mN23, mN24, mN25, mN26, mN33, mN34, mN35, mN37, mN39, mN40, mN41, e11, ile, brt (show nQ ≤ c by omega)]
        rw [show c = nQ by omega]
        exact hp J hJ h0
      | succ k ih =>
        intro c J hc hJ h0
        have e11 : J 0 11 = nI nQ := (hJ.2 11 (by decide)).trans hn
        have e1 : J 0 1 = I 0 1 := hJ.2 1 (by decide)
        obtain ⟨b, ns, pf, l, hw, hl⟩ := hg c (by omega)
        unfold wX9_count_129
        simp (disch := first | decide | omega) only [m_I, m_R, m_rc, m_pI, m_aI, m_aZ, m_sI, m_sZ, z01, z11, ix3, ix6, ix250, ix1, ix2, nI_add, nI_clamp, vin, true_and, and_true, or_true, true_or, mN3, mN6, mN7, mN8, mN9, mN10, mN12, mN13, mN14, mN15, mN16, mN17, mN18, mN19, mN20, mN21, mN23, mN24, mN25, mN26, mN33, mN34, mN35, mN37, mN39, mN40, mN41, e11, e1, ile, brf (show ¬ nQ ≤ c by omega)]
        refine q_work (SC_st hJ hs) hw hl fun L h1 h2 h3 h4 => ?_
        rw [m_I, h4.1, nI_add]
        exact ih (c + 1) L (by omega) (SC_trans hJ (SC_sf h1)) ((h1.2 0 (by decide)).trans h0)
    exact ⟨_, hl nQ 0 _ (by omega) hsc p2_same⟩
/-- b is the latest that leads to a -/
def BS (D : Mem) (nA : Nat) (t : Int32) (q p s a b : Nat) : Prop := b < nA ∧ EN D nA t q p b ∧ LD D nA t q p b s a ∧ ∀ c, c < nA → EN D nA t q p c → LD D nA t q p c s a → D 8 c < D 8 b ∨ (D 8 c = D 8 b ∧ c ≤ b)
/-- j acts back from a0 at the step l stands a at the step s -/
def CH (D : Mem) (nA : Nat) (t : Int32) (q l a0 : Nat) : Nat → Nat → Nat → Prop
  | 0 => fun s a => s = l ∧ a = a0
  | j + 1 => fun s a => ∃ s' a', CH D nA t q l a0 j s' a' ∧ bfr D q s' = some s ∧ BS D nA t q s s' a' a
theorem BS_one {p s a b c : Nat} (h1 : BS D nA t q p s a b) (h2 : BS D nA t q p s a c) : b = c := by
  have a1 := h1.2.2.2 c h2.1 h2.2.1 h2.2.2.1
  have a2 := h2.2.2.2 b h1.1 h1.2.1 h1.2.2.1
  simp only [Int32.lt_iff_toInt_lt, ← Int32.toInt_inj] at a1 a2
  omega
theorem CH_one {l a0 : Nat} : ∀ {j s a s' a' : Nat}, CH D nA t q l a0 j s a → CH D nA t q l a0 j s' a' → s = s' ∧ a = a' := by
  intro j
  induction j with
  | zero => intro s a s' a' h1 h2; exact ⟨h1.1.trans h2.1.symm, h1.2.trans h2.2.symm⟩
  | succ j ih =>
    intro s a s' a' h1 h2
    obtain ⟨x, y, g1, g2, g3⟩ := h1
    obtain ⟨x', y', k1, k2, k3⟩ := h2
    obtain ⟨rfl, rfl⟩ := ih g1 k1
    rw [g2] at k2
    cases k2
    exact ⟨rfl, BS_one g3 k3⟩
noncomputable def rk (D : Mem) (q s : Nat) : Nat := cnt (fun k => D 14 (6 * q + k) = 0) s
theorem rk_n {s : Nat} : bfr D q s = none → rk D q s = 0 := by
  induction s with
  | zero => intro _; rfl
  | succ s ih =>
    intro h
    unfold bfr at h
    by_cases e : D 14 (6 * q + s) = 0
    · rw [if_pos e] at h; cases h
    · rw [if_neg e] at h
      have := ih h
      unfold rk at this ⊢
      rw [cnt_f (p := fun k => D 14 (6 * q + k) = 0) e, this]
theorem rk_s {s p : Nat} : bfr D q s = some p → rk D q s = rk D q p + 1 := by
  induction s with
  | zero => intro h; cases h
  | succ s ih =>
    intro h
    unfold bfr at h
    by_cases e : D 14 (6 * q + s) = 0
    · rw [if_pos e] at h; cases h
      unfold rk
      rw [cnt_t (p := fun k => D 14 (6 * q + k) = 0) e]
    · rw [if_neg e] at h
      have := ih h
      unfold rk at this ⊢
      rw [cnt_f (p := fun k => D 14 (6 * q + k) = 0) e, this]
theorem CH_rk {a0 : Nat} : ∀ {j s a : Nat}, CH D nA t q l a0 j s a → rk D q l = rk D q s + j := by
  intro j
  induction j with
  | zero => intro s a h; rw [h.1]; rfl
  | succ j ih =>
    intro s a h
    obtain ⟨x, y, g1, g2, g3⟩ := h
    have := ih g1
    have := rk_s g2
    omega
/-- v is what proof answers for the n-th of the finds F at i -/
def PF (D : Mem) (nA : Nat) (t : Int32) (q l : Nat) (F : List Nat) (n i v : Int32) : Prop := if (0 ≤ n ∧ n < nI F.length) ∧ 0 ≤ i ∧ i < nI (rk D q l + 1) then ∃ s x, CH D nA t q l (F.getD n.toNatClampNeg 0) (rk D q l - i.toNatClampNeg) s x ∧ v = nI x else v = -1
theorem PF_one {F : List Nat} {n i v w : Int32} (h1 : PF D nA t q l F n i v) (h2 : PF D nA t q l F n i w) : v = w := by
  unfold PF at h1 h2
  by_cases h : (0 ≤ n ∧ n < nI F.length) ∧ 0 ≤ i ∧ i < nI (rk D q l + 1)
  · rw [if_pos h] at h1 h2
    obtain ⟨s, x, g1, g2⟩ := h1
    obtain ⟨s', x', k1, k2⟩ := h2
    rw [g2, k2, (CH_one g1 k1).2]
  · rw [if_neg h] at h1 h2
    rw [h1, h2]
theorem rk_le (s : Nat) : rk D q s ≤ s := cnt_le _ s
end
