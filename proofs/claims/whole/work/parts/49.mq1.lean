/-! ===== the reference's questions ===== -/
def sc0 : List Nat := [0, 33, 34, 35, 37, 39, 40, 41]
def scf : List Nat := [0, 36, 38]
/-- J is I but for what is worked with -/
def SC (I J : Mem) : Prop := (∀ c, c ∉ sc0 → J c = I c) ∧ ∀ k, k ∉ scf → J 0 k = I 0 k
theorem SC_rfl {I : Mem} : SC I I := ⟨fun _ _ => rfl, fun _ _ => rfl⟩
theorem SC_trans {I J K : Mem} (h1 : SC I J) (h2 : SC J K) : SC I K := ⟨fun c a => (h2.1 c a).trans (h1.1 c a), fun k hk => (h2.2 k hk).trans (h1.2 k hk)⟩
theorem SC_sf {I J : Mem} (h : SF I J) : SC I J := ⟨fun c a => h.1 c (fun z => a (by rw [z]; decide)) (fun z => a (by rw [z]; decide)) (fun z => a (by rw [z]; decide)) (fun z => a (by rw [z]; decide)), fun k hk => h.2 k (fun z => hk (by rw [z]; decide))⟩
theorem SC_p {I J : Mem} {c k : Nat} {v : Int32} (h : SC I J) (hc : c ∈ sc0) (h0 : c ≠ 0) : SC I (p2 J c k v) := by
  refine ⟨fun d hd => ?_, fun k hk => ?_⟩
  · rw [p2_ne (fun z => hd (by rw [z]; exact hc))]; exact h.1 d hd
  · rw [p2_ne (fun z => h0 z.symm)]; exact h.2 k hk
theorem SC_0 {I J : Mem} {k : Nat} {v : Int32} (h : SC I J) (hk : k ∈ scf) : SC I (p2 J 0 k v) := by
  refine ⟨fun d hd => ?_, fun j hj => ?_⟩
  · rw [p2_ne (fun z => hd (by rw [z]; decide))]; exact h.1 d hd
  · rw [p2_row (fun z => hj (by rw [z]; exact hk))]; exact h.2 j hj
theorem SC_st {I J D : Mem} {nA : Nat} (h : SC I J) (hs : ST I D nA) : ST J D nA := ⟨(h.2 4 (by decide)).trans hs.1, hs.2.1, fun c hc => by
  have h4 : ∀ c, c ∈ scs → c ∉ sc0 := by decide
  exact (h.1 c (h4 c hc)).trans (hs.2.2 c hc)⟩
section
variable {I D : Mem} {nA nQ q b ns pf l : Nat} {t v : Int32} {post : Int32 → Pool → Prop}
theorem q_isIn {S : Pool} {x lo hi : Int32} : wX9_isIn post x lo hi S = post (bI (lo ≤ x ∧ x ≤ hi)) S := by
  unfold wX9_isIn
  simp only [true_or, or_true, true_and, br_if]
  by_cases h1 : x < lo
  · rw [if_pos h1, bI_f (fun z => Int32.not_le.mpr h1 z.1)]
  · rw [if_neg h1]
    by_cases h2 : hi < x
    · rw [if_pos h2, bI_f (fun z => Int32.not_le.mpr h2 z.2)]
    · rw [if_neg h2, bI_t ⟨Int32.not_lt.mp h1, Int32.not_lt.mp h2⟩]
theorem q_isQ {x : Int32} : wX9_isQuestion post (some 0) x (mp I) = post (bI (0 ≤ x ∧ x < I 0 11)) (mp I) := by
  unfold wX9_isQuestion
  simp only [true_or, or_true, true_and, br_if, m_I]
  by_cases h1 : x < 0
  · rw [if_pos h1, bI_f (fun z => Int32.not_le.mpr h1 z.1)]
  · rw [if_neg h1]
    by_cases h2 : I 0 11 ≤ x
    · rw [if_pos h2, bI_f (fun z => Int32.not_le.mpr z.2 h2)]
    · rw [if_neg h2, bI_t ⟨Int32.not_lt.mp h1, Int32.not_le.mp h2⟩]
theorem q_isA {x : Int32} : wX9_isAct post (some 0) x (mp I) = post (bI (0 ≤ x ∧ x < I 0 4)) (mp I) := by
  unfold wX9_isAct
  simp only [true_or, or_true, true_and, br_if, m_I]
  by_cases h1 : x < 0
  · rw [if_pos h1, bI_f (fun z => Int32.not_le.mpr h1 z.1)]
  · rw [if_neg h1]
    by_cases h2 : I 0 4 ≤ x
    · rw [if_pos h2, bI_f (fun z => Int32.not_le.mpr z.2 h2)]
    · rw [if_neg h2, bI_t ⟨Int32.not_lt.mp h1, Int32.not_le.mp h2⟩]
theorem isq_t (h : q < nQ) (hn : I 0 11 = nI nQ) (h8 : nQ ≤ 8) : 0 ≤ nI q ∧ nI q < I 0 11 := by rw [hn]; exact ⟨nI_pos' (by omega), nI_lt h (by omega)⟩
theorem thr0 : (p2 I 0 0 (0 : Int32)) 0 0 = 0 := p2_same
theorem le00 : ((0 : Int32) ≤ 0) = True := by simp
theorem le10 : ((1 : Int32) ≤ 0) = False := by simp
theorem le20 : ((2 : Int32) ≤ 0) = False := by simp
theorem le30 : ((3 : Int32) ≤ 0) = False := by simp
theorem le40 : ((4 : Int32) ≤ 0) = False := by simp
theorem nq_bad : ¬ (0 ≤ v ∧ v < I 0 11) → (bI (0 ≤ v ∧ v < I 0 11) = 0) = True := fun h => eq_true (bI_f h)
theorem q_findsB (h : ¬ (0 ≤ v ∧ v < I 0 11)) (hp : post 0 (mp (p2 I 0 0 1))) : wX9_finds post (some 0) v t (mp I) := by
  unfold wX9_finds wX9_finds_14
  simp only [m_rc, q_isQ, nq_bad h, brT, m_pI, m_I, p2_same, le10, brF]
  exact hp
theorem q_finds (hs : ST I D nA) (hw : WQ D nA q b ns pf) (hl : bfr D q ns = some l) (hn : I 0 11 = nI nQ) (h8 : nQ ≤ 8) (hq : q < nQ) (hp : ∀ J, SC I J → J 0 0 = 0 → post (nI (FL D nA t q nA).length) (mp J)) : wX9_finds post (some 0) (nI q) t (mp I) := by
  unfold wX9_finds wX9_finds_14
  simp only [m_rc, q_isQ, bI_br, brt (isq_t hq hn h8), m_pI, m_I, p2_same, le00, brT]
  refine q_work (SC_st (SC_0 SC_rfl (by decide)) hs) hw hl fun J h1 h2 h3 h4 => ?_
  rw [m_I, h4.1]
  exact hp J (SC_trans (SC_0 SC_rfl (by decide)) (SC_sf h1)) ((h1.2 0 (by decide)).trans p2_same)
theorem q_foundB {n : Int32} (h : ¬ (0 ≤ v ∧ v < I 0 11)) (hp : post 0 (mp (p2 I 0 0 1))) : wX9_found post (some 0) v t n (mp I) := by
  unfold wX9_found wX9_found_14
  simp only [m_rc, q_isQ, nq_bad h, brT, m_pI, m_I, p2_same, le10, brF]
  exact hp
/-- the n-th of the list F, or -1 -/
def nth (F : List Nat) (n : Int32) : Int32 := if 0 ≤ n ∧ n < nI F.length then nI (F.getD n.toNatClampNeg 0) else -1
theorem q_found {n : Int32} (hs : ST I D nA) (hw : WQ D nA q b ns pf) (hl : bfr D q ns = some l) (hn : I 0 11 = nI nQ) (h8 : nQ ≤ 8) (hq : q < nQ) (hp : ∀ J, SC I J → J 0 0 = 0 → post (nth (FL D nA t q nA) n) (mp J)) : wX9_found post (some 0) (nI q) t n (mp I) := by
  have hA := hs.2.1
  unfold wX9_found wX9_found_14
  simp only [m_rc, q_isQ, bI_br, brt (isq_t hq hn h8), m_pI, m_I, p2_same, le00, brT]
  refine q_work (SC_st (SC_0 SC_rfl (by decide)) hs) hw hl fun J h1 h2 h3 h4 => ?_
  have hp' := hp J (SC_trans (SC_0 SC_rfl (by decide)) (SC_sf h1)) ((h1.2 0 (by decide)).trans p2_same)
  have hfl := FL_len (D := D) (nA := nA) (t := t) (q := q) nA
  unfold nth at hp'
  simp (disch := first | decide | omega) only [m_I, m_R, h4.1]
  refine brc (fun h => ?_) fun h => brc (fun h' => ?_) fun h' => ?_
  · rw [if_neg (fun z => Int32.not_le.mpr h z.1)] at hp'
    exact hp'
  · rw [if_neg (fun z => Int32.not_le.mpr z.2 h')] at hp'
    exact hp'
  · obtain ⟨j, hj, rfl⟩ := nI_of h
    have hj2 : j < (FL D nA t q nA).length := by
      have := Int32.not_le.mp h'
      rwa [nI_ltI hj (by omega)] at this
    rw [if_pos ⟨Int32.not_lt.mp h, Int32.not_le.mp h'⟩, nI_clamp hj] at hp'
    simp (disch := first | decide | omega) only [m_I, m_R, m_rc, m_pI, m_aI, m_aZ, m_sI, m_sZ, z01, z11, ix3, ix6, ix250, ix1, ix2, nI_add, nI_clamp, vin, true_and, and_true, or_true, true_or, mN3, mN6, mN7, mN8, mN9, mN10, mN12, mN13, mN14, mN15, mN16, mN17, mN18, mN19, mN20, mN21, mN23, mN24, mN25, mN26, mN33, mN34, mN35, mN37, mN39, mN40, mN41]
    rw [h4.2 j hj2]
    exact hp'
/-- exempt -/
def EXQ (I : Mem) (nE : Nat) (q a : Nat) : Prop := ∃ k, k < nE ∧ I 23 k = nI q ∧ I 24 k = I 7 (3 * a) ∧ I 8 a ≤ I 25 k
theorem q_isEx {nE a : Nat} (hE : I 0 22 = nI nE) (hE2 : nE ≤ 40) (ha : a < 250) (hp : post (bI (EXQ I nE q a)) (mp I)) : wX9_isExempt post (some 0) (nI q) (nI a) (mp I) := by
  have h : ∀ k j, nE = j + k → (∀ i, i < j → ¬ (I 23 i = nI q ∧ I 24 i = I 7 (3 * a) ∧ I 8 a ≤ I 25 i)) → wX9_isExempt_2 post (k + 1) (some 0) (nI q) (nI a) (nI j) (mp I) := by
    intro k
    induction k with
    | zero =>
      intro j hj hn
      unfold wX9_isExempt_2
      simp (disch := first | decide | omega) only [m_I, m_R, m_rc, m_pI, m_aI, m_aZ, m_sI, m_sZ, z01, z11, ix3, ix6, ix250, ix1, ix2, nI_add, nI_clamp, vin, true_and, and_true, or_true, true_or, mN3, mN6, mN7, mN8, mN9, mN10, mN12, mN13, mN14, mN15, mN16, mN17, mN18, mN19, mN20, mN21, mN23, mN24, mN25, mN26, mN33, mN34, mN35, mN37, mN39, mN40, mN41, hE, ile, brt (show nE ≤ j by omega)]
      rw [bI_f (fun ⟨i, hi, h2⟩ => hn i (by omega) h2)] at hp
      exact hp
    | succ k ih =>
      intro j hj hn
      have hnext : ¬ (I 23 j = nI q ∧ I 24 j = I 7 (3 * a) ∧ I 8 a ≤ I 25 j) → wX9_isExempt_2 post (k + 1) (some 0) (nI q) (nI a) (nI (j + 1)) (mp I) := fun h => ih (j + 1) (by omega) fun i hi => by
        by_cases e : i = j
        · rw [e]; exact h
        · exact hn i (by omega)
      have hone : (I 23 j = nI q ∧ I 24 j = I 7 (3 * a) ∧ I 8 a ≤ I 25 j) → post 1 (mp I) := fun h => by
        rw [bI_t ⟨j, by omega, h⟩] at hp
        exact hp
      unfold wX9_isExempt_2
      unfold wX9_isExempt_54
      simp (disch := first | decide | omega) only [m_I, m_R, m_rc, m_pI, m_aI, m_aZ, m_sI, m_sZ, z01, z11, ix3, ix6, ix250, ix1, ix2, nI_add, nI_clamp, vin, true_and, and_true, or_true, true_or, mN3, mN6, mN7, mN8, mN9, mN10, mN12, mN13, mN14, mN15, mN16, mN17, mN18, mN19, mN20, mN21, mN23, mN24, mN25, mN26, mN33, mN34, mN35, mN37, mN39, mN40, mN41, hE, ile, brf (show ¬ nE ≤ j by omega)]
      repeat' (apply brc <;> intro _)
      all_goals first | (refine hone ⟨?_, ?_, ?_⟩ <;> grind) | (refine hnext ?_; grind)
  exact ⟨_, h nE 0 (by omega) fun i hi => by omega⟩
theorem q_sparedB (h : ¬ (0 ≤ v ∧ v < I 0 11)) (hp : post 0 (mp (p2 I 0 0 1))) : wX9_spared post (some 0) v t (mp I) := by
  unfold wX9_spared wX9_spared_14
  simp only [m_rc, q_isQ, nq_bad h, brT, m_pI, m_I, p2_same, le10, brF]
  exact hp
theorem EXQ_sc {J : Mem} {nE a : Nat} (h : SC I J) : EXQ J nE q a = EXQ I nE q a := by
  unfold EXQ
  rw [h.1 23 (by decide), h.1 24 (by decide), h.1 25 (by decide), h.1 7 (by decide), h.1 8 (by decide)]
theorem q_spared {nE : Nat} (hs : ST I D nA) (hw : WQ D nA q b ns pf) (hl : bfr D q ns = some l) (hn : I 0 11 = nI nQ) (h8 : nQ ≤ 8) (hq : q < nQ) (hE : I 0 22 = nI nE) (hE2 : nE ≤ 40) (hp : ∀ J, SC I J → J 0 0 = 0 → post (nI (cnt (fun k => EXQ I nE q ((FL D nA t q nA).getD k 0)) (FL D nA t q nA).length)) (mp J)) : wX9_spared post (some 0) (nI q) t (mp I) := by
  have hA := hs.2.1
  unfold wX9_spared wX9_spared_14
  simp only [m_rc, q_isQ, bI_br, brt (isq_t hq hn h8), m_pI, m_I, p2_same, le00, brT]
  refine q_work (SC_st (SC_0 SC_rfl (by decide)) hs) hw hl fun J h1 h2 h3 h4 => ?_
  have hsc : SC I J := SC_trans (SC_0 SC_rfl (by decide)) (SC_sf h1)
  have hp' := hp J hsc ((h1.2 0 (by decide)).trans p2_same)
  have hfl := FL_len (D := D) (nA := nA) (t := t) (q := q) nA
  have hE' : J 0 22 = nI nE := (hsc.2 22 (by decide)).trans hE
  have h : ∀ k j, (FL D nA t q nA).length = j + k → wX9_spared_37 post (k + 1) (some 0) (nI q) (nI (cnt (fun k => EXQ I nE q ((FL D nA t q nA).getD k 0)) j)) (nI j) (mp J) := by
    intro k
    induction k with
    | zero =>
      intro j hj
      unfold wX9_spared_37
      simp (disch := first | decide | omega) only [m_I, m_R, m_rc, m_pI, m_aI, m_aZ, m_sI, m_sZ, z01, z11, ix3, ix6, ix250, ix1, ix2, nI_add, nI_clamp, vin, true_and, and_true, or_true, true_or, mN3, mN6, mN7, mN8, mN9, mN10, mN12, mN13, mN14, mN15, mN16, mN17, mN18, mN19, mN20, mN21, mN23, mN24, mN25, mN26, mN33, mN34, mN35, mN37, mN39, mN40, mN41, h4.1, ile, brt (show (FL D nA t q nA).length ≤ j by omega)]
      rw [show j = (FL D nA t q nA).length by omega]
      exact hp'
    | succ k ih =>
      intro j hj
      have ihj := ih (j + 1) (by omega)
      have hg := FL_get (D := D) (nA := nA) (t := t) (q := q) (n := nA) (i := j) (by omega)
      unfold wX9_spared_37
      simp (disch := first | decide | omega) only [m_I, m_R, m_rc, m_pI, m_aI, m_aZ, m_sI, m_sZ, z01, z11, ix3, ix6, ix250, ix1, ix2, nI_add, nI_clamp, vin, true_and, and_true, or_true, true_or, mN3, mN6, mN7, mN8, mN9, mN10, mN12, mN13, mN14, mN15, mN16, mN17, mN18, mN19, mN20, mN21, mN23, mN24, mN25, mN26, mN33, mN34, mN35, mN37, mN39, mN40, mN41, h4.1, ile, brf (show ¬ (FL D nA t q nA).length ≤ j by omega), h4.2 j (by omega)]
      refine q_isEx hE' hE2 (by omega) ?_
      rw [EXQ_sc hsc, bI_br]
      unfold wX9_spared_67
      refine brc (fun h => ?_) fun h => ?_
      · rw [cnt_t (p := fun k => EXQ I nE q ((FL D nA t q nA).getD k 0)) h] at ihj
        rw [ix1, ix1]
        exact ihj
      · rw [cnt_f (p := fun k => EXQ I nE q ((FL D nA t q nA).getD k 0)) h] at ihj
        rw [ix1, Int32.add_zero]
        exact ihj
  exact ⟨_, h (FL D nA t q nA).length 0 (by omega)⟩
end
