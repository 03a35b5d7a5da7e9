section
variable {I D : Mem} {nA nQ nE nT q : Nat} {t v : Int32} {post : Int32 → Pool → Prop} {pst : Pool → Prop}
def smA (I : Mem) (a : Nat) (k w x y u : Int32) : Prop := I 6 a = k ∧ I 7 (3 * a) = w ∧ I 7 (3 * a + 1) = x ∧ I 7 (3 * a + 2) = y ∧ I 8 a = u
def dbM (I : Mem) (a : Nat) : Mem := p2 (p2 (p2 I 0 0 0) 10 a (I 10 a + 1)) 0 5 (I 0 5 + 1)
def acM (I : Mem) (nA : Nat) (k w x y u : Int32) : Mem := p2 (p2 (p2 (p2 (p2 (p2 (p2 (p2 (p2 (p2 I 0 0 0) 0 0 0) 6 nA k) 7 (3 * nA) w) 7 (3 * nA + 1) x) 7 (3 * nA + 2) y) 8 nA u) 9 nA (I 0 1)) 10 nA 0) 0 4 (nI (nA + 1))
def okA (I : Mem) (k w x y u : Int32) : Prop := (0 ≤ k ∧ k ≤ 7) ∧ (0 ≤ w ∧ w ≤ 30) ∧ (0 ≤ x ∧ x ≤ 30) ∧ (0 ≤ y ∧ y ≤ 15) ∧ 0 ≤ u ∧ u ≤ I 0 1
theorem p2_p2 {α : Type} {f : Nat → Nat → α} {a k : Nat} {v w : α} : p2 (p2 f a k v) a k w = p2 f a k w := by
  funext b j
  by_cases hb : b = a
  · subst hb
    rw [p2_at, p2_at, p2_at]
    by_cases hj : j = k
    · simp [hj]
    · simp [hj]
  · rw [p2_ne hb, p2_ne hb, p2_ne hb]
theorem q_actB {k w x y u : Int32} (h : ¬ okA I k w x y u) (hp : post 0 (mp (p2 I 0 0 1))) : wX9_act post (some 0) k w x y u (mp I) := by
  have hz : wX9_act_59 post (some 0) k w x y u 0 (mp I) := by
    unfold wX9_act_59 wX9_act_72
    simp (disch := first | decide | omega) only [m_pI, m_I, p2_same, c00, brT, le10, brF]
    exact hp
  unfold wX9_act
  unfold wX9_act_58
  simp only [q_isIn, bI_br, m_I]
  refine brc (fun h1 => brc (fun h2 => brc (fun h3 => brc (fun h4 => brc (fun h5 => absurd ⟨h1, h2, h3, h4, h5⟩ h) fun _ => hz) fun _ => hz) fun _ => hz) fun _ => hz) fun _ => hz
theorem q_act {k w x y u : Int32} (hA : I 0 4 = nI nA) (hA2 : nA ≤ 250) (h : okA I k w x y u) (hd : ∀ a, a < nA → smA I a k w x y u → (∀ c, c < a → ¬ smA I c k w x y u) → post (-1) (mp (dbM I a))) (hn : (∀ a, a < nA → ¬ smA I a k w x y u) → if nA = 250 then post 0 (mp (p2 I 0 0 2)) else post (nI nA) (mp (acM I nA k w x y u))) : wX9_act post (some 0) k w x y u (mp I) := by
  have hz : wX9_act_59 post (some 0) k w x y u 1 (mp I) := by
    unfold wX9_act_59 wX9_act_72
    simp (disch := first | decide | omega) only [m_pI, m_I, p2_same, c10, brF, le00, brT]
    have hl : ∀ m a, nA = a + m → (∀ c, c < a → ¬ smA I c k w x y u) → wX9_act_87 post (m + 1) (some 0) k w x y u (nI a) (mp (p2 I 0 0 0)) := by
      intro m
      induction m with
      | zero =>
        intro a ha hno
        unfold wX9_act_87
        unfold wX9_act_223
        have hn' := hn fun c hc => hno c (by omega)
        simp (disch := first | decide | omega) only [m_I, m_R, m_rc, m_pI, m_aI, m_aZ, m_sI, m_sZ, z01, z11, ix3, ix6, ix250, ix1, ix2, nI_add, nI_clamp, vin, true_and, and_true, or_true, true_or, mN3, mN6, mN7, mN8, mN9, mN10, mN12, mN13, mN14, mN15, mN16, mN17, mN18, mN19, mN20, mN21, mN23, mN24, mN25, mN26, mN33, mN34, mN35, mN37, mN39, mN40, mN41, p2_row, hA, ile, brt (show nA ≤ a by omega)]
        refine brc (fun h4 => ?_) fun h4 => ?_
        · rw [if_pos ((nI_eq (b := 250) (by omega) (by omega)).mp h4)] at hn'
          simp (disch := first | decide | omega) only [m_pI, m_I, p2_same, le20, brF, p2_p2]
          exact hn'
        · have h5 : ¬ nA = 250 := fun z => h4 (by rw [z]; rfl)
          rw [if_neg h5] at hn'
          simp (disch := first | decide | omega) only [m_I, m_R, m_rc, m_pI, m_aI, m_aZ, m_sI, m_sZ, z01, z11, ix3, ix6, ix250, ix1, ix2, nI_add, nI_clamp, vin, true_and, and_true, or_true, true_or, mN3, mN6, mN7, mN8, mN9, mN10, mN12, mN13, mN14, mN15, mN16, mN17, mN18, mN19, mN20, mN21, mN23, mN24, mN25, mN26, mN33, mN34, mN35, mN37, mN39, mN40, mN41, p2_same, le00, brT, p2_row, p2_ne, hA, nI_pred]
          exact hn'
      | succ m ih =>
        intro a ha hno
        have hnext : ¬ smA I a k w x y u → wX9_act_87 post (m + 1) (some 0) k w x y u (nI (a + 1)) (mp (p2 I 0 0 0)) := fun h => ih (a + 1) (by omega) fun c hc => by
          by_cases e : c = a
          · rw [e]; exact h
          · exact hno c (by omega)
        have hdbl : smA I a k w x y u → post (-1) (mp (dbM I a)) := fun h => hd a (by omega) h hno
        unfold dbM at hdbl
        unfold wX9_act_87
        unfold wX9_act_167 wX9_act_168
        simp (disch := first | decide | omega) only [m_I, m_R, m_rc, m_pI, m_aI, m_aZ, m_sI, m_sZ, z01, z11, ix3, ix6, ix250, ix1, ix2, nI_add, nI_clamp, vin, true_and, and_true, or_true, true_or, mN3, mN6, mN7, mN8, mN9, mN10, mN12, mN13, mN14, mN15, mN16, mN17, mN18, mN19, mN20, mN21, mN23, mN24, mN25, mN26, mN33, mN34, mN35, mN37, mN39, mN40, mN41, p2_row, p2_ne, hA, ile, brf (show ¬ nA ≤ a by omega), c00, c10, brT, brF]
        unfold smA at hnext hdbl
        repeat' (apply brc <;> intro _)
        all_goals first | (refine hdbl ⟨?_, ?_, ?_, ?_, ?_⟩ <;> assumption) | (refine hnext ?_; grind)
    exact ⟨_, hl nA 0 (by omega) fun c hc => by omega⟩
  unfold wX9_act
  unfold wX9_act_58
  simp only [q_isIn, bI_br, m_I]
  exact brc (fun h1 => brc (fun h2 => brc (fun h3 => brc (fun h4 => brc (fun h5 => hz) fun z => absurd h.2.2.2.2 z) fun z => absurd h.2.2.2.1 z) fun z => absurd h.2.2.1 z) fun z => absurd h.2.1 z) fun z => absurd h.1 z
noncomputable def lkv (I : Mem) (a : Nat) (x : Int) : Int32 := if x = 0 then I 6 a else if x = 1 then I 7 (3 * a) else if x = 2 then I 7 (3 * a + 1) else if x = 3 then I 7 (3 * a + 2) else if x = 4 then I 8 a else if x = 5 then I 9 a else I 10 a
theorem q_lookB {w : Int32} (h : ¬ (0 ≤ v ∧ v < I 0 4)) (hp : post 0 (mp (p2 I 0 0 1))) : wX9_look post (some 0) v w (mp I) := by
  unfold wX9_look wX9_look_28
  simp only [m_rc, q_isA, bI_br, brf h, m_pI, m_I, p2_same, le10, brF]
  exact hp
theorem q_look {a : Nat} {w : Int32} (hA : I 0 4 = nI nA) (hA2 : nA ≤ 250) (ha : a < nA) (hp : if 0 ≤ w.toInt ∧ w.toInt ≤ 6 then post (lkv I a w.toInt) (mp (p2 I 0 0 0)) else post 0 (mp (p2 I 0 0 2))) : wX9_look post (some 0) (nI a) w (mp I) := by
  have h : 0 ≤ nI a ∧ nI a < I 0 4 := by rw [hA]; exact ⟨nI_pos' (by omega), nI_lt ha (by omega)⟩
  have hw : (0 ≤ w ∧ w ≤ 6) ↔ (0 ≤ w.toInt ∧ w.toInt ≤ 6) := by
    rw [Int32.le_iff_toInt_le, Int32.le_iff_toInt_le]
    exact Iff.rfl
  unfold wX9_look wX9_look_28 wX9_look_112
  simp only [m_rc, q_isA, bI_br, brt h, q_isIn, m_pI, m_I, p2_same, le20, le00, brF, brT]
  refine brc (fun h1 => ?_) fun h1 => ?_
  · have h2 := hw.mp h1
    rw [if_pos h2] at hp
    unfold lkv at hp
    have hc : ∀ n : Nat, w.toInt = n → w = nI n := fun n hn => by
      have hb := w.toInt_lt
      rw [← Int32.toInt_inj, nI_toInt (by omega), hn]
    rw [brf (by omega)]
    refine brc (fun g0 => ?_) fun g0 => brc (fun g1 => ?_) fun g1 => brc (fun g2 => ?_) fun g2 => brc (fun g3 => ?_) fun g3 => brc (fun g4 => ?_) fun g4 => brc (fun g5 => ?_) fun g5 => ?_
    · rw [if_pos g0] at hp
      simp (disch := first | decide | omega) only [m_I, m_R, m_rc, m_pI, m_aI, m_aZ, m_sI, m_sZ, z01, z11, ix3, ix6, ix250, ix1, ix2, nI_add, nI_clamp, vin, true_and, and_true, or_true, true_or, mN3, mN6, mN7, mN8, mN9, mN10, mN12, mN13, mN14, mN15, mN16, mN17, mN18, mN19, mN20, mN21, mN23, mN24, mN25, mN26, mN33, mN34, mN35, mN37, mN39, mN40, mN41, p2_ne]; exact hp
    · rw [if_neg g0, if_pos g1] at hp
      rw [hc 1 g1]
      simp (disch := first | decide | omega) only [m_I, m_R, m_rc, m_pI, m_aI, m_aZ, m_sI, m_sZ, z01, z11, ix3, ix6, ix250, ix1, ix2, nI_add, nI_clamp, vin, true_and, and_true, or_true, true_or, mN3, mN6, mN7, mN8, mN9, mN10, mN12, mN13, mN14, mN15, mN16, mN17, mN18, mN19, mN20, mN21, mN23, mN24, mN25, mN26, mN33, mN34, mN35, mN37, mN39, mN40, mN41, p2_ne, nI_pred]; exact hp
    · rw [if_neg g0, if_neg g1, if_pos g2] at hp
      rw [hc 2 g2]
      simp (disch := first | decide | omega) only [m_I, m_R, m_rc, m_pI, m_aI, m_aZ, m_sI, m_sZ, z01, z11, ix3, ix6, ix250, ix1, ix2, nI_add, nI_clamp, vin, true_and, and_true, or_true, true_or, mN3, mN6, mN7, mN8, mN9, mN10, mN12, mN13, mN14, mN15, mN16, mN17, mN18, mN19, mN20, mN21, mN23, mN24, mN25, mN26, mN33, mN34, mN35, mN37, mN39, mN40, mN41, p2_ne]
      rw [show 3 * a + 2 = (3 * a + 1) + 1 from rfl, nI_pred]
      simp (disch := first | decide | omega) only [m_I, m_R, m_rc, m_pI, m_aI, m_aZ, m_sI, m_sZ, z01, z11, ix3, ix6, ix250, ix1, ix2, nI_add, nI_clamp, vin, true_and, and_true, or_true, true_or, mN3, mN6, mN7, mN8, mN9, mN10, mN12, mN13, mN14, mN15, mN16, mN17, mN18, mN19, mN20, mN21, mN23, mN24, mN25, mN26, mN33, mN34, mN35, mN37, mN39, mN40, mN41]; exact hp
    · rw [if_neg g0, if_neg g1, if_neg g2, if_pos g3] at hp
      rw [hc 3 g3]
      simp (disch := first | decide | omega) only [m_I, m_R, m_rc, m_pI, m_aI, m_aZ, m_sI, m_sZ, z01, z11, ix3, ix6, ix250, ix1, ix2, nI_add, nI_clamp, vin, true_and, and_true, or_true, true_or, mN3, mN6, mN7, mN8, mN9, mN10, mN12, mN13, mN14, mN15, mN16, mN17, mN18, mN19, mN20, mN21, mN23, mN24, mN25, mN26, mN33, mN34, mN35, mN37, mN39, mN40, mN41, p2_ne]
      rw [show 3 * a + 3 = (3 * a + 2) + 1 from rfl, nI_pred]
      simp (disch := first | decide | omega) only [m_I, m_R, m_rc, m_pI, m_aI, m_aZ, m_sI, m_sZ, z01, z11, ix3, ix6, ix250, ix1, ix2, nI_add, nI_clamp, vin, true_and, and_true, or_true, true_or, mN3, mN6, mN7, mN8, mN9, mN10, mN12, mN13, mN14, mN15, mN16, mN17, mN18, mN19, mN20, mN21, mN23, mN24, mN25, mN26, mN33, mN34, mN35, mN37, mN39, mN40, mN41]; exact hp
    · rw [if_neg g0, if_neg g1, if_neg g2, if_neg g3, if_pos g4] at hp
      simp (disch := first | decide | omega) only [m_I, m_R, m_rc, m_pI, m_aI, m_aZ, m_sI, m_sZ, z01, z11, ix3, ix6, ix250, ix1, ix2, nI_add, nI_clamp, vin, true_and, and_true, or_true, true_or, mN3, mN6, mN7, mN8, mN9, mN10, mN12, mN13, mN14, mN15, mN16, mN17, mN18, mN19, mN20, mN21, mN23, mN24, mN25, mN26, mN33, mN34, mN35, mN37, mN39, mN40, mN41, p2_ne]; exact hp
    · rw [if_neg g0, if_neg g1, if_neg g2, if_neg g3, if_neg g4, if_pos g5] at hp
      simp (disch := first | decide | omega) only [m_I, m_R, m_rc, m_pI, m_aI, m_aZ, m_sI, m_sZ, z01, z11, ix3, ix6, ix250, ix1, ix2, nI_add, nI_clamp, vin, true_and, and_true, or_true, true_or, mN3, mN6, mN7, mN8, mN9, mN10, mN12, mN13, mN14, mN15, mN16, mN17, mN18, mN19, mN20, mN21, mN23, mN24, mN25, mN26, mN33, mN34, mN35, mN37, mN39, mN40, mN41, p2_ne]; exact hp
    · rw [if_neg g0, if_neg g1, if_neg g2, if_neg g3, if_neg g4, if_neg g5] at hp
      simp (disch := first | decide | omega) only [m_I, m_R, m_rc, m_pI, m_aI, m_aZ, m_sI, m_sZ, z01, z11, ix3, ix6, ix250, ix1, ix2, nI_add, nI_clamp, vin, true_and, and_true, or_true, true_or, mN3, mN6, mN7, mN8, mN9, mN10, mN12, mN13, mN14, mN15, mN16, mN17, mN18, mN19, mN20, mN21, mN23, mN24, mN25, mN26, mN33, mN34, mN35, mN37, mN39, mN40, mN41, p2_ne]; exact hp
  · rw [if_neg (fun z => h1 (hw.mpr z))] at hp
    exact hp
end
