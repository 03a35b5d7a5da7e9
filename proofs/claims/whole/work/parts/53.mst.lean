/-! ===== the reference's calls that change it ===== -/
def pb1 (I : Mem) (n : Nat) (v : Int32) : Mem := p2 (p2 I 26 n (v &&& 255)) 0 27 (nI (n + 1))
def pb4 (I : Mem) (n : Nat) (v : Int32) : Mem := pb1 (pb1 (pb1 (pb1 I n (v >>> ((24 : Int32) &&& 31))) (n + 1) (v >>> ((16 : Int32) &&& 31))) (n + 2) (v >>> ((8 : Int32) &&& 31))) (n + 3) (v >>> ((0 : Int32) &&& 31))
def pb20 (I : Mem) (n : Nat) (a b c d e : Int32) : Mem := pb4 (pb4 (pb4 (pb4 (pb4 I n a) (n + 4) b) (n + 8) c) (n + 12) d) (n + 16) e
theorem pb1_27 {I : Mem} {n : Nat} {v : Int32} : pb1 I n v 0 27 = nI (n + 1) := p2_same
theorem pb4_27 {I : Mem} {n : Nat} {v : Int32} : pb4 I n v 0 27 = nI (n + 4) := by unfold pb4; exact pb1_27
section
variable {I D : Mem} {nA nQ nE nT q : Nat} {t v : Int32} {post : Int32 → Pool → Prop} {pst : Pool → Prop}
theorem q_byte {n : Nat} (h : I 0 27 = nI n) (hn : n < 400) : wX9_byteCame pst (some 0) v (mp I) = pst (mp (pb1 I n v)) := by
  unfold wX9_byteCame pb1
  simp (disch := first | decide | omega) only [m_I, m_R, m_rc, m_pI, m_aI, m_aZ, m_sI, m_sZ, z01, z11, ix3, ix6, ix250, ix1, ix2, nI_add, nI_clamp, vin, true_and, and_true, or_true, true_or, mN3, mN6, mN7, mN8, mN9, mN10, mN12, mN13, mN14, mN15, mN16, mN17, mN18, mN19, mN20, mN21, mN23, mN24, mN25, mN26, mN33, mN34, mN35, mN37, mN39, mN40, mN41, h, p2_ne]
theorem q_feed_24 {n : Nat} {v1 v2 v3 v4 v5 : Int32} (h : I 0 27 = nI n) (hn : n + 4 ≤ 400) (hK : ∃ n1, wX9_feed_47 post n1 (some 0) v2 v3 v4 v5 24 (mp (pb4 I n v1))) : wX9_feed_24 post (4 + 1) (some 0) v1 v2 v3 v4 v5 24 (mp I) := by
  unfold wX9_feed_24
  rw [brf (by decide), m_rc, q_byte h (by omega), show (24 : Int32) + (-8) = 16 from rfl]
  show wX9_feed_24 post (3 + 1) _ _ _ _ _ _ _ _
  unfold wX9_feed_24
  rw [brf (by decide), m_rc, q_byte pb1_27 (by omega), show (16 : Int32) + (-8) = 8 from rfl]
  show wX9_feed_24 post (2 + 1) _ _ _ _ _ _ _ _
  unfold wX9_feed_24
  rw [brf (by decide), m_rc, q_byte pb1_27 (by omega), show (8 : Int32) + (-8) = 0 from rfl]
  show wX9_feed_24 post (1 + 1) _ _ _ _ _ _ _ _
  unfold wX9_feed_24
  rw [brf (by decide), m_rc, q_byte pb1_27 (by omega), show (0 : Int32) + (-8) = -8 from rfl]
  show wX9_feed_24 post (0 + 1) _ _ _ _ _ _ _ _
  unfold wX9_feed_24
  rw [brt (by decide)]
  exact hK
theorem q_feed_47 {n : Nat} {v2 v3 v4 v5 : Int32} (h : I 0 27 = nI n) (hn : n + 4 ≤ 400) (hK : ∃ n1, wX9_feed_70 post n1 (some 0) v3 v4 v5 24 (mp (pb4 I n v2))) : wX9_feed_47 post (4 + 1) (some 0) v2 v3 v4 v5 24 (mp I) := by
  unfold wX9_feed_47
  rw [brf (by decide), m_rc, q_byte h (by omega), show (24 : Int32) + (-8) = 16 from rfl]
  show wX9_feed_47 post (3 + 1) _ _ _ _ _ _ _
  unfold wX9_feed_47
  rw [brf (by decide), m_rc, q_byte pb1_27 (by omega), show (16 : Int32) + (-8) = 8 from rfl]
  show wX9_feed_47 post (2 + 1) _ _ _ _ _ _ _
  unfold wX9_feed_47
  rw [brf (by decide), m_rc, q_byte pb1_27 (by omega), show (8 : Int32) + (-8) = 0 from rfl]
  show wX9_feed_47 post (1 + 1) _ _ _ _ _ _ _
  unfold wX9_feed_47
  rw [brf (by decide), m_rc, q_byte pb1_27 (by omega), show (0 : Int32) + (-8) = -8 from rfl]
  show wX9_feed_47 post (0 + 1) _ _ _ _ _ _ _
  unfold wX9_feed_47
  rw [brt (by decide)]
  exact hK
theorem q_feed_70 {n : Nat} {v3 v4 v5 : Int32} (h : I 0 27 = nI n) (hn : n + 4 ≤ 400) (hK : ∃ n1, wX9_feed_93 post n1 (some 0) v4 v5 24 (mp (pb4 I n v3))) : wX9_feed_70 post (4 + 1) (some 0) v3 v4 v5 24 (mp I) := by
  unfold wX9_feed_70
  rw [brf (by decide), m_rc, q_byte h (by omega), show (24 : Int32) + (-8) = 16 from rfl]
  show wX9_feed_70 post (3 + 1) _ _ _ _ _ _
  unfold wX9_feed_70
  rw [brf (by decide), m_rc, q_byte pb1_27 (by omega), show (16 : Int32) + (-8) = 8 from rfl]
  show wX9_feed_70 post (2 + 1) _ _ _ _ _ _
  unfold wX9_feed_70
  rw [brf (by decide), m_rc, q_byte pb1_27 (by omega), show (8 : Int32) + (-8) = 0 from rfl]
  show wX9_feed_70 post (1 + 1) _ _ _ _ _ _
  unfold wX9_feed_70
  rw [brf (by decide), m_rc, q_byte pb1_27 (by omega), show (0 : Int32) + (-8) = -8 from rfl]
  show wX9_feed_70 post (0 + 1) _ _ _ _ _ _
  unfold wX9_feed_70
  rw [brt (by decide)]
  exact hK
theorem q_feed_93 {n : Nat} {v4 v5 : Int32} (h : I 0 27 = nI n) (hn : n + 4 ≤ 400) (hK : ∃ n1, wX9_feed_117 post n1 (some 0) v5 24 (mp (pb4 I n v4))) : wX9_feed_93 post (4 + 1) (some 0) v4 v5 24 (mp I) := by
  unfold wX9_feed_93
  rw [brf (by decide), m_rc, q_byte h (by omega), show (24 : Int32) + (-8) = 16 from rfl]
  show wX9_feed_93 post (3 + 1) _ _ _ _ _
  unfold wX9_feed_93
  rw [brf (by decide), m_rc, q_byte pb1_27 (by omega), show (16 : Int32) + (-8) = 8 from rfl]
  show wX9_feed_93 post (2 + 1) _ _ _ _ _
  unfold wX9_feed_93
  rw [brf (by decide), m_rc, q_byte pb1_27 (by omega), show (8 : Int32) + (-8) = 0 from rfl]
  show wX9_feed_93 post (1 + 1) _ _ _ _ _
  unfold wX9_feed_93
  rw [brf (by decide), m_rc, q_byte pb1_27 (by omega), show (0 : Int32) + (-8) = -8 from rfl]
  show wX9_feed_93 post (0 + 1) _ _ _ _ _
  unfold wX9_feed_93
  rw [brt (by decide)]
  exact hK
theorem q_feed_117 {n : Nat} {v5 : Int32} (h : I 0 27 = nI n) (hn : n + 4 ≤ 400) (hK : post (nI (n + 4)) (mp (pb4 I n v5))) : wX9_feed_117 post (4 + 1) (some 0) v5 24 (mp I) := by
  unfold wX9_feed_117
  rw [brf (by decide), m_rc, q_byte h (by omega), show (24 : Int32) + (-8) = 16 from rfl]
  show wX9_feed_117 post (3 + 1) _ _ _ _
  unfold wX9_feed_117
  rw [brf (by decide), m_rc, q_byte pb1_27 (by omega), show (16 : Int32) + (-8) = 8 from rfl]
  show wX9_feed_117 post (2 + 1) _ _ _ _
  unfold wX9_feed_117
  rw [brf (by decide), m_rc, q_byte pb1_27 (by omega), show (8 : Int32) + (-8) = 0 from rfl]
  show wX9_feed_117 post (1 + 1) _ _ _ _
  unfold wX9_feed_117
  rw [brf (by decide), m_rc, q_byte pb1_27 (by omega), show (0 : Int32) + (-8) = -8 from rfl]
  show wX9_feed_117 post (0 + 1) _ _ _ _
  unfold wX9_feed_117
  rw [brt (by decide)]
  rw [m_I, pb1_27]
  exact hK
theorem q_feed {v1 v2 v3 v4 v5 : Int32} (h : I 0 27 = nI nT) (hn : nT + 20 ≤ 400) (hp : post (nI (nT + 20)) (mp (pb20 (p2 I 0 0 0) nT v1 v2 v3 v4 v5))) : wX9_feed post (some 0) v1 v2 v3 v4 v5 (mp I) := by
  have h' : p2 I 0 0 0 0 27 = nI nT := by rw [p2_row (by decide), h]
  unfold wX9_feed
  rw [m_pI, m_I, h', ix20, brt (show nI (nT + 20) ≤ 400 from nI_le (b := 400) (by omega) (by omega))]
  exact ⟨_, q_feed_24 h' (by omega) ⟨_, q_feed_47 pb4_27 (by omega) ⟨_, q_feed_70 pb4_27 (by omega) ⟨_, q_feed_93 pb4_27 (by omega) ⟨_, q_feed_117 pb4_27 (by omega) hp⟩⟩⟩⟩⟩
theorem q_feedB {v1 v2 v3 v4 v5 : Int32} (h : I 0 27 = nI nT) (h4 : nT ≤ 400) (hn : ¬ nT + 20 ≤ 400) (hp : post (-1) (mp (p2 I 0 0 0))) : wX9_feed post (some 0) v1 v2 v3 v4 v5 (mp I) := by
  have h' : p2 I 0 0 0 0 27 = nI nT := by rw [p2_row (by decide), h]
  unfold wX9_feed
  rw [m_pI, m_I, h', ix20, brf (show ¬ nI (nT + 20) ≤ 400 from nI_ge (a := 400) (by omega) (by omega))]
  exact hp
theorem q_end (hp : if 0 ≤ v ∧ v ≤ I 0 27 then post 1 (mp (p2 (p2 I 0 0 0) 0 27 v)) else post 0 (mp (p2 I 0 0 0))) : wX9_end post (some 0) v (mp I) := by
  unfold wX9_end
  simp (disch := first | decide | omega) only [m_I, m_R, m_rc, m_pI, m_aI, m_aZ, m_sI, m_sZ, z01, z11, ix3, ix6, ix250, ix1, ix2, nI_add, nI_clamp, vin, true_and, and_true, or_true, true_or, mN3, mN6, mN7, mN8, mN9, mN10, mN12, mN13, mN14, mN15, mN16, mN17, mN18, mN19, mN20, mN21, mN23, mN24, mN25, mN26, mN33, mN34, mN35, mN37, mN39, mN40, mN41, p2_row]
  refine brc (fun h => ?_) fun h => brc (fun h' => ?_) fun h' => ?_
  · rw [if_neg (fun z => Int32.not_le.mpr h z.1)] at hp; exact hp
  · rw [if_pos ⟨Int32.not_lt.mp h, h'⟩] at hp; exact hp
  · rw [if_neg (fun z => h' z.2)] at hp; exact hp
theorem q_ticks (hp : if 0 ≤ v ∧ v ≤ 100000 then post (if I 0 1 + v ≤ 1000000 then I 0 1 + v else 1000000) (mp (p2 (p2 I 0 0 0) 0 1 (if I 0 1 + v ≤ 1000000 then I 0 1 + v else 1000000))) else post 0 (mp (p2 I 0 0 1))) : wX9_ticks post (some 0) v (mp I) := by
  unfold wX9_ticks wX9_ticks_16 wX9_ticks_51
  simp only [q_isIn, bI_br]
  refine brc (fun h => ?_) fun h => ?_
  · rw [if_pos h] at hp
    simp (disch := first | decide | omega) only [m_pI, m_I, p2_same, le00, brT, p2_row]
    refine brc (fun h2 => ?_) fun h2 => ?_
    · rw [if_pos h2] at hp; exact hp
    · rw [if_neg h2] at hp; exact hp
  · rw [if_neg h] at hp
    simp (disch := first | decide | omega) only [m_pI, m_I, p2_same, le10, brF]
    exact hp
theorem q_fault (hp : post (I 0 30) (mp (p2 I 0 0 0))) : wX9_fault post (some 0) (mp I) := by
  unfold wX9_fault
  simp (disch := first | decide | omega) only [m_pI, m_I, p2_row]
  exact hp
theorem q_thrown : wX9_thrown post (some 0) (mp I) = post (I 0 0) (mp I) := by
  unfold wX9_thrown
  rw [m_I]
theorem q_gap (hp : if 0 ≤ v ∧ v ≤ 100000 then pst (mp (p2 (p2 I 0 0 0) 0 2 v)) else pst (mp (p2 I 0 0 1))) : wX9_gap pst (some 0) v (mp I) := by
  unfold wX9_gap wX9_gap_16
  simp only [q_isIn, bI_br]
  refine brc (fun h => ?_) fun h => ?_
  · rw [if_pos h] at hp
    simp (disch := first | decide | omega) only [m_pI, m_I, p2_same, c00, brT]
    exact hp
  · rw [if_neg h] at hp
    simp (disch := first | decide | omega) only [m_pI, m_I, p2_same, c10, brF]
    exact hp
theorem q_may {w : Int32} (hp : if 0 ≤ v ∧ v ≤ 3 then (if 0 ≤ w ∧ w ≤ 7 then pst (mp (p2 (p2 I 0 0 0) 3 v.toNatClampNeg w)) else pst (mp (p2 I 0 0 2))) else pst (mp (p2 I 0 0 1))) : wX9_may pst (some 0) v w (mp I) := by
  unfold wX9_may wX9_may_29
  simp only [q_isIn, bI_br]
  refine brc (fun h => ?_) fun h => ?_
  · rw [if_pos h] at hp
    refine brc (fun h2 => ?_) fun h2 => ?_
    · rw [if_pos h2] at hp
      have hin : vp_in v 4 := by
        rw [vp_in_iff]
        have := h.1
        have := h.2
        simp only [Int32.le_iff_toInt_le] at *
        have e0 : (0 : Int32).toInt = 0 := by decide
        have e3 : (3 : Int32).toInt = 3 := by decide
        omega
      simp (disch := first | decide | omega) only [m_I, m_R, m_rc, m_pI, m_aI, m_aZ, m_sI, m_sZ, z01, z11, ix3, ix6, ix250, ix1, ix2, nI_add, nI_clamp, vin, true_and, and_true, or_true, true_or, mN3, mN6, mN7, mN8, mN9, mN10, mN12, mN13, mN14, mN15, mN16, mN17, mN18, mN19, mN20, mN21, mN23, mN24, mN25, mN26, mN33, mN34, mN35, mN37, mN39, mN40, mN41, p2_same, c00, brT, eq_true hin]
      exact hp
    · rw [if_neg h2] at hp
      simp (disch := first | decide | omega) only [m_pI, m_I, p2_same, brf (by decide : ¬ (2 : Int32) = 0)]
      exact hp
  · rw [if_neg h] at hp
    simp (disch := first | decide | omega) only [m_pI, m_I, p2_same, c10, brF]
    exact hp
def exM (I : Mem) (nE : Nat) (q w u : Int32) : Mem := p2 (p2 (p2 (p2 (p2 I 0 0 0) 23 nE q) 24 nE w) 25 nE u) 0 22 (nI (nE + 1))
theorem q_exempt {w u : Int32} (hE : I 0 22 = nI nE) (hE2 : nE ≤ 40) (hp : if 0 ≤ v ∧ v < I 0 11 then (if (0 ≤ w ∧ w ≤ 30) ∧ 0 ≤ u ∧ u ≤ 1000000 then (if nE = 40 then post (-1) (mp (p2 I 0 0 0)) else post (nI (nE + 1)) (mp (exM I nE v w u))) else post 0 (mp (p2 I 0 0 2))) else post 0 (mp (p2 I 0 0 1))) : wX9_exempt post (some 0) v w u (mp I) := by
  unfold wX9_exempt wX9_exempt_33 wX9_exempt_38
  simp only [m_rc, q_isQ, q_isIn, bI_br]
  refine brc (fun h => ?_) fun h => ?_
  · rw [if_pos h] at hp
    refine brc (fun h2 => ?_) fun h2 => ?_
    · refine brc (fun h3 => ?_) fun h3 => ?_
      · rw [if_pos ⟨h2, h3⟩] at hp
        rw [m_pI, m_I, p2_same, brt (by decide), m_I, p2_row (by decide), hE]
        refine brc (fun h4 => ?_) fun h4 => ?_
        · rw [if_pos ((nI_eq (b := 40) (by omega) (by omega)).mp h4)] at hp
          exact hp
        · have h5 : ¬ nE = 40 := fun z => h4 (by rw [z]; rfl)
          rw [if_neg h5] at hp
          simp (disch := first | decide | omega) only [m_I, m_R, m_rc, m_pI, m_aI, m_aZ, m_sI, m_sZ, z01, z11, ix3, ix6, ix250, ix1, ix2, nI_add, nI_clamp, vin, true_and, and_true, or_true, true_or, mN3, mN6, mN7, mN8, mN9, mN10, mN12, mN13, mN14, mN15, mN16, mN17, mN18, mN19, mN20, mN21, mN23, mN24, mN25, mN26, mN33, mN34, mN35, mN37, mN39, mN40, mN41, p2_row, p2_ne, hE, p2_same]
          exact hp
      · rw [if_neg (fun z => h3 z.2)] at hp
        simp (disch := first | decide | omega) only [m_pI, m_I, p2_same, le20, brF]
        exact hp
    · rw [if_neg (fun z => h2 z.1)] at hp
      simp (disch := first | decide | omega) only [m_pI, m_I, p2_same, le20, brF]
      exact hp
  · rw [if_neg h] at hp
    simp (disch := first | decide | omega) only [m_pI, m_I, p2_same, le10, brF]
    exact hp
end
