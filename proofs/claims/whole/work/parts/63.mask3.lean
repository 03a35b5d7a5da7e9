section
variable {Q I : Mem} {nQ nT : Nat} {m v : Int32} {post : Int32 → Pool → Prop}
theorem st_self (h : I 0 29 = nI 0) : st I 0 (I 0 31) = I := by
  funext x y
  unfold st
  by_cases hx : x = 0
  · subst hx
    by_cases h1 : y = 29
    · subst h1; rw [p2_same, h]
    · rw [p2_row h1]
      by_cases h2 : y = 31
      · subst h2; rw [p2_same]
      · rw [p2_row h2]
  · rw [p2_ne hx, p2_ne hx]
/-- the reference as ask begins -/
def aB (I : Mem) (nT : Nat) : Mem := p2 (p2 (p2 I 0 28 (nI nT)) 0 27 0) 0 29 0
def aX (I : Mem) (nT : Nat) : Mem := p2 (p2 (aB I nT) 0 0 0) 0 30 (-1)
theorem aX_c {c : Nat} (h : c ≠ 0) : aX I nT c = I c := by unfold aX aB; rw [p2_ne h, p2_ne h, p2_ne h, p2_ne h, p2_ne h]
theorem aX_0 {k : Nat} (h : k ≠ 28 ∧ k ≠ 27 ∧ k ≠ 29 ∧ k ≠ 0 ∧ k ≠ 30) : aX I nT 0 k = I 0 k := by unfold aX aB; rw [p2_row h.2.2.2.2, p2_row h.2.2.2.1, p2_row h.2.2.1, p2_row h.2.1, p2_row h.1]
theorem q_ask (h27 : I 0 27 = nI nT) (hT : nT ≤ 400) (hb : ∀ i, i < nT → ¬ I 26 i = -1) (h11 : I 0 11 = nI nQ) (h8 : nQ ≤ 8) (hz : BZ I)
    (hB : ¬ (0 ≤ v ∧ v ≤ 3) → post 0 (mp (p2 (aB I nT) 0 0 1)))
    (hF : 0 ≤ v ∧ v ≤ 3 → ∀ f J, textS (I 26) nT (aX I nT) = .inl f → PR (aX I nT) J → J 0 30 = nI f → post 0 (mp (p2 J 0 0 2)))
    (hM : 0 ≤ v ∧ v ≤ 3 → ∀ Q a m, textS (I 26) nT (aX I nT) = .inr Q → PR (aX I nT) Q → ¬ (Q 0 32 &&& (I 3 v.toNatClampNeg ^^^ (-1))) = 0 → post 0 (mp (p2 (st Q a m) 0 0 3)))
    (hE : 0 ≤ v ∧ v ≤ 3 → ∀ Q a m, textS (I 26) nT (aX I nT) = .inr Q → PR (aX I nT) Q → (Q 0 32 &&& (I 3 v.toNatClampNeg ^^^ (-1))) = 0 → nQ = 8 → post 0 (mp (p2 (st Q a m) 0 0 4)))
    (hK : 0 ≤ v ∧ v ≤ 3 → ∀ Q a m J, textS (I 26) nT (aX I nT) = .inr Q → PR (aX I nT) Q → (Q 0 32 &&& (I 3 v.toNatClampNeg ^^^ (-1))) = 0 → nQ < 8 → AK (st Q a m) J nQ → post (nI nQ) (mp J)) : wX9_ask post (some 0) v (mp I) := by
  unfold wX9_ask
  rw [m_I, h27, m_pI, m_pI, m_pI, q_isIn, bI_br]
  have hx : HT (aX I nT) (I 26) nT := ⟨⟨by unfold aX aB; rw [p2_row (by decide), p2_row (by decide), p2_row (by decide), p2_row (by decide), p2_same], hT⟩, aX_c (by decide)⟩
  have h103 : ∀ (J : Mem) (k : Int32), ¬ k ≤ 0 → post 0 (mp (p2 J 0 0 k)) → wX9_ask_103 post (some 0) (mp (p2 J 0 0 k)) := fun J k hk hp => by
    unfold wX9_ask_103
    rw [m_I, p2_same, brf hk]
    exact hp
  refine brc (fun hv => ?_) fun hv => ?_
  · unfold wX9_ask_33
    rw [m_pI, m_I, p2_same, brt (by decide), m_pI, m_rc]
    show wX9_readText _ (some 0) (mp (aX I nT))
    have h29 : aX I nT 0 29 = nI 0 := by unfold aX aB; rw [p2_row (by decide), p2_row (by decide), p2_same]; rfl
    rw [← st_self h29]
    have hin : vp_in v 4 := by
      rw [vp_in_iff]
      have h1 := hv.1
      have h2 := hv.2
      rw [Int32.le_iff_toInt_le] at h1 h2
      have e0 : (0 : Int32).toInt = 0 := by decide
      have e3 : (3 : Int32).toInt = 3 := by decide
      omega
    refine w_text hx PR_rfl hb ⟨fun f J a1 a2 a3 => ?_, fun Q a m a1 a2 => ?_⟩
    · show br ((0 : Int32) = 0) _ _
      rw [brt rfl, m_pI]
      exact h103 J 2 (by decide) (hF hv f J a1 a2 a3)
    · have e3 : Q 3 = I 3 := (PR_row a2 (fun k => by simp [sl])).trans (aX_c (by decide))
      have e11 : Q 0 11 = nI nQ := (a2.1 0 11 (by decide)).trans ((aX_0 (by decide)).trans h11)
      have e0 : Q 0 0 = 0 := (a2.1 0 0 (by decide)).trans (by unfold aX; rw [p2_row (by decide), p2_same])
      show br ((1 : Int32) = 0) _ _
      rw [brf (by decide)]
      simp (disch := first | decide | omega) only [m_I, m_R, m_rc, m_pI, m_aI, m_aZ, m_sI, m_sZ, z01, z11, ix3, ix6, ix250, ix1, ix2, nI_add, nI_clamp, vin, true_and, and_true, or_true, true_or, mN3, mN6, mN7, mN8, mN9, mN10, mN12, mN13, mN14, mN15, mN16, mN17, mN18, mN19, mN20, mN21, mN23, mN24, mN25, mN26, mN33, mN34, mN35, mN37, mN39, mN40, mN41, st_0, st_c, e3, eq_true hin, e11]
      refine brc (fun g => brc (fun g2 => ?_) fun g2 => ?_) fun g => ?_
      · rw [show (8 : Int32) = nI 8 from rfl, nI_eq (by omega) (by omega)] at g2
        exact h103 _ 4 (by decide) (hE hv Q a m a1 a2 g g2)
      · have g3 : ¬ nQ = 8 := fun z => g2 (by rw [z]; rfl)
        have hbz : BZ (aX I nT) := fun s hs => by rw [aX_c (by decide), aX_c (by decide)]; exact hz s hs
        have hqw := text_ok hbz a1
        refine w_103 (by rw [st_0 (by decide) (by decide)]; exact e0) (by rw [st_0 (by decide) (by decide)]; exact e11) (by omega) (fun s hs => by rw [st_c (by decide), st_c (by decide)]; exact hqw.2.2.2 s hs) fun J hJ => hK hv Q a m J a1 a2 g (by omega) hJ
      · exact h103 _ 3 (by decide) (hM hv Q a m a1 a2 g)
  · unfold wX9_ask_33
    rw [m_pI, m_I, p2_same, brf (by decide)]
    exact hB hv
end
