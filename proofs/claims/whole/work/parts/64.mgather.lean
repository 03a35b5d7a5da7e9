/-! ===== cases ===== -/
def MT (I : Mem) (a b : Nat) : Prop := ¬ (I 0 2 < (if I 8 a ≤ I 8 b then I 8 b - I 8 a else I 8 a - I 8 b)) ∧ (I 7 (3 * a) = I 7 (3 * b) ∨ I 7 (3 * a + 2) = I 7 (3 * b + 2))
/-- joined, over m things with the edges E -/
def con (E : Nat → Nat → Prop) (m i j : Nat) : Prop := ∀ r : Nat → Nat → Prop, (∀ x, r x x) → (∀ x y, r x y → r y x) → (∀ x y z, r x y → r y z → r x z) → (∀ x y, x < m → y < m → E x y → r x y) → r i j
theorem con_rfl {E : Nat → Nat → Prop} {m i : Nat} : con E m i i := fun r h1 _ _ _ => h1 i
theorem con_sym {E : Nat → Nat → Prop} {m i j : Nat} (h : con E m i j) : con E m j i := fun r h1 h2 h3 h4 => h2 _ _ (h r h1 h2 h3 h4)
theorem con_trans {E : Nat → Nat → Prop} {m i j k : Nat} (h : con E m i j) (h' : con E m j k) : con E m i k := fun r h1 h2 h3 h4 => h3 _ _ _ (h r h1 h2 h3 h4) (h' r h1 h2 h3 h4)
theorem con_e {E : Nat → Nat → Prop} {m i j : Nat} (hi : i < m) (hj : j < m) (h : E i j) : con E m i j := fun r _ _ _ h4 => h4 i j hi hj h
section
variable {I D : Mem} {nA nQ nE q : Nat} {t : Int32} {post : Int32 → Pool → Prop} {pst : Pool → Prop}
theorem q_meet {a b : Nat} (ha : a < 250) (hb : b < 250) (hp : post (bI (MT I a b)) (mp I)) : wX9_meet post (some 0) (nI a) (nI b) (mp I) := by
  have h : ∀ z, z = (if I 8 a ≤ I 8 b then I 8 b - I 8 a else I 8 a - I 8 b) → wX9_meet_44 post (some 0) (nI a) (nI b) z (mp I) := fun z hz => by
    unfold wX9_meet_44 wX9_meet_95
    simp (disch := first | decide | omega) only [m_I, m_R, m_rc, m_pI, m_aI, m_aZ, m_sI, m_sZ, z01, z11, ix3, ix6, ix250, ix1, ix2, nI_add, nI_clamp, vin, true_and, and_true, or_true, true_or, mN3, mN6, mN7, mN8, mN9, mN10, mN12, mN13, mN14, mN15, mN16, mN17, mN18, mN19, mN20, mN21, mN23, mN24, mN25, mN26, mN33, mN34, mN35, mN37, mN39, mN40, mN41]
    have hone : ¬ I 0 2 < z → (I 7 (3 * a) = I 7 (3 * b) ∨ I 7 (3 * a + 2) = I 7 (3 * b + 2)) → post 1 (mp I) := fun h1 h2 => by
      rw [bI_t ⟨by rw [← hz]; exact h1, h2⟩] at hp; exact hp
    refine brc (fun h1 => ?_) fun h1 => brc (fun h2 => hone h1 (.inl h2)) fun h2 => brc (fun h3 => hone h1 (.inr h3)) fun h3 => ?_
    · rw [bI_f (fun y => y.1 (by rw [← hz]; exact h1))] at hp; exact hp
    · rw [bI_f (fun y => y.2.elim h2 h3)] at hp; exact hp
  unfold wX9_meet
  simp (disch := first | decide | omega) only [m_I, m_R, m_rc, m_pI, m_aI, m_aZ, m_sI, m_sZ, z01, z11, ix3, ix6, ix250, ix1, ix2, nI_add, nI_clamp, vin, true_and, and_true, or_true, true_or, mN3, mN6, mN7, mN8, mN9, mN10, mN12, mN13, mN14, mN15, mN16, mN17, mN18, mN19, mN20, mN21, mN23, mN24, mN25, mN26, mN33, mN34, mN35, mN37, mN39, mN40, mN41]
  refine brc (fun h1 => h _ (by rw [if_pos h1])) fun h1 => h _ (by rw [if_neg h1])
noncomputable def ALq (D I : Mem) (nA nE : Nat) (t : Int32) (q n : Nat) : List (Nat × Nat) := (((FL D nA t q nA).take n).filter (fun a => @decide (¬ EXQ I nE q a) (Classical.propDecidable _))).map (fun a => (q, a))
noncomputable def AL (D I : Mem) (nA nE : Nat) (t : Int32) : Nat → List (Nat × Nat)
  | 0 => []
  | q + 1 => AL D I nA nE t q ++ ALq D I nA nE t q (FL D nA t q nA).length
theorem ALq_len {n : Nat} : (ALq D I nA nE t q n).length ≤ nA := by
  unfold ALq
  rw [List.length_map]
  have h1 := List.length_filter_le (fun a => @decide (¬ EXQ I nE q a) (Classical.propDecidable _)) ((FL D nA t q nA).take n)
  have h2 := FL_len (D := D) (nA := nA) (t := t) (q := q) nA
  rw [List.length_take] at h1
  omega
theorem AL_len : ∀ n, (AL D I nA nE t n).length ≤ n * nA := by
  intro n
  induction n with
  | zero => exact Nat.zero_le _
  | succ n ih =>
    unfold AL
    rw [List.length_append, Nat.succ_mul]
    have := ALq_len (D := D) (I := I) (nA := nA) (nE := nE) (t := t) (q := n) (n := (FL D nA t n nA).length)
    omega
theorem ALq_s {n : Nat} (hn : n < (FL D nA t q nA).length) : ALq D I nA nE t q (n + 1) = ALq D I nA nE t q n ++ (@ite _ (EXQ I nE q ((FL D nA t q nA).getD n 0)) (Classical.propDecidable _) [] [(q, (FL D nA t q nA).getD n 0)]) := by
  unfold ALq
  rw [List.take_succ_eq_append_getElem hn, List.filter_append, List.map_append, getD_lt hn]
  congr 1
  by_cases h : EXQ I nE q (FL D nA t q nA)[n]
  · rw [if_pos h, List.filter_cons_of_neg (by simp [h])]; rfl
  · rw [if_neg h, List.filter_cons_of_pos (by simp [h])]; rfl
/-- the rows of all finds hold the list L -/
def GR (J : Mem) (L : List (Nat × Nat)) : Prop := J 0 38 = nI L.length ∧ ∀ i, i < L.length → J 39 i = nI (L.getD i (0, 0)).1 ∧ J 40 i = nI (L.getD i (0, 0)).2 ∧ J 41 i = nI i
theorem getD_app {α : Type} {L M : List α} {d : α} {i : Nat} (h : i < L.length) : (L ++ M).getD i d = L.getD i d := by
  rw [List.getD_eq_getElem?_getD, List.getD_eq_getElem?_getD, List.getElem?_append_left h]
theorem getD_last {α : Type} {L : List α} {x d : α} : (L ++ [x]).getD L.length d = x := by
  rw [List.getD_eq_getElem?_getD, List.getElem?_append_right (Nat.le_refl _), Nat.sub_self]; rfl
theorem q_g26 {K : Option Nat → Int32 → Pool → Prop} {J0 : Mem} {L0 : List (Nat × Nat)} (hs : ST I D nA) (hsc : SC I J0) (h00 : J0 0 0 = I 0 0) (hE : I 0 22 = nI nE) (hE2 : nE ≤ 40) (hF : LR J0 (FL D nA t q nA)) (hL0 : L0.length ≤ q * nA) (hq : q < 8) (hK : ∀ J, SC I J → J 0 0 = I 0 0 → GR J (L0 ++ ALq D I nA nE t q (FL D nA t q nA).length) → K (some 0) (nI (q + 1)) (mp J)) : ∀ k n J, (FL D nA t q nA).length = n + k → SC I J → J 0 0 = I 0 0 → LR J (FL D nA t q nA) → GR J (L0 ++ ALq D I nA nE t q n) → wX9_gather_26 K pst (k + 1) (some 0) (nI q) (nI n) (mp J) := by
  have hA := hs.2.1
  have hfl := FL_len (D := D) (nA := nA) (t := t) (q := q) nA
  intro k
  induction k with
  | zero =>
    intro n J hn hJ h0 hLR hG
    unfold wX9_gather_26
    simp (disch := first | decide | omega) only [m_I, m_R, m_rc, m_pI, m_aI, m_aZ, m_sI, m_sZ, z01, z11, ix3, ix6, ix250, ix1, ix2, nI_add, nI_clamp, vin, true_and, and_true, or_true, true_or, mN3, mN6, mN7, mN8, mN9, mN10, mN12, mN13, mN14, mN15, mN16, mN17, mN18, mN19, mN20, mN21, mN23, mN24, mN25, mN26, mN33, mN34, mN35, mN37, mN39, mN40, mN41, hLR.1, ile, brt (show (FL D nA t q nA).length ≤ n by omega)]
    rw [show n = (FL D nA t q nA).length by omega] at hG
    exact hK J hJ h0 hG
  | succ k ih =>
    intro n J hn hJ h0 hLR hG
    have hg := FL_get (D := D) (nA := nA) (t := t) (q := q) (n := nA) (i := n) (by omega)
    have hlen : (L0 ++ ALq D I nA nE t q n).length < 2000 := by
      rw [List.length_append]
      have : (ALq D I nA nE t q n).length ≤ n := by
        unfold ALq
        rw [List.length_map]
        have h1 := List.length_filter_le (fun a => @decide (¬ EXQ I nE q a) (Classical.propDecidable _)) ((FL D nA t q nA).take n)
        rw [List.length_take] at h1
        omega
      have h7 : q * nA ≤ 7 * 250 := Nat.mul_le_mul (by omega) hA
      omega
    unfold wX9_gather_26
    unfold wX9_gather_99
    simp (disch := first | decide | omega) only [m_I, m_R, m_rc, m_pI, m_aI, m_aZ, m_sI, m_sZ, z01, z11, ix3, ix6, ix250, ix1, ix2, nI_add, nI_clamp, vin, true_and, and_true, or_true, true_or, mN3, mN6, mN7, mN8, mN9, mN10, mN12, mN13, mN14, mN15, mN16, mN17, mN18, mN19, mN20, mN21, mN23, mN24, mN25, mN26, mN33, mN34, mN35, mN37, mN39, mN40, mN41, hLR.1, ile, brf (show ¬ (FL D nA t q nA).length ≤ n by omega), hLR.2 n (by omega)]
    refine q_isEx ((hJ.2 22 (by decide)).trans hE) hE2 (by omega) ?_
    rw [EXQ_sc hJ, bI_br]
    have hs1 := ALq_s (D := D) (I := I) (nA := nA) (nE := nE) (t := t) (q := q) (n := n) (by omega)
    refine brc (fun h => ?_) fun h => ?_
    · refine ih (n + 1) J (by omega) hJ h0 hLR ?_
      rw [hs1, if_pos h, List.append_nil]
      exact hG
    · rw [if_neg h] at hs1
      simp (disch := first | decide | omega) only [m_I, m_R, m_rc, m_pI, m_aI, m_aZ, m_sI, m_sZ, z01, z11, ix3, ix6, ix250, ix1, ix2, nI_add, nI_clamp, vin, true_and, and_true, or_true, true_or, mN3, mN6, mN7, mN8, mN9, mN10, mN12, mN13, mN14, mN15, mN16, mN17, mN18, mN19, mN20, mN21, mN23, mN24, mN25, mN26, mN33, mN34, mN35, mN37, mN39, mN40, mN41, hG.1, p2_ne, hLR.2 n (by omega)]
      refine ih (n + 1) _ (by omega) (SC_0 (SC_p (SC_p (SC_p hJ (by decide) (by decide)) (by decide) (by decide)) (by decide) (by decide)) (by decide)) (by rw [p2_row (by decide), p2_ne (by decide), p2_ne (by decide), p2_ne (by decide)]; exact h0) ⟨by rw [p2_row (by decide), p2_ne (by decide), p2_ne (by decide), p2_ne (by decide)]; exact hLR.1, fun i hi => by rw [p2_ne (by decide), p2_ne (by decide), p2_ne (by decide), p2_ne (by decide)]; exact hLR.2 i hi⟩ ?_
      rw [hs1, ← List.append_assoc]
      generalize L0 ++ ALq D I nA nE t q n = L at *
      refine ⟨by rw [p2_same, List.length_append]; rfl, fun i hi => ?_⟩
      rw [List.length_append] at hi
      by_cases e : i = L.length
      · subst e
        rw [getD_last]
        refine ⟨?_, ?_, ?_⟩
        · rw [p2_ne (by decide), p2_ne (by decide), p2_ne (by decide), p2_same]
        · rw [p2_ne (by decide), p2_ne (by decide), p2_same]
        · rw [p2_ne (by decide), p2_same]
      · have hi2 : i < L.length := by simp at hi; omega
        rw [getD_app hi2]
        obtain ⟨g1, g2, g3⟩ := hG.2 i hi2
        refine ⟨?_, ?_, ?_⟩
        · rw [p2_ne (by decide), p2_ne (by decide), p2_ne (by decide), p2_row e]; exact g1
        · rw [p2_ne (by decide), p2_ne (by decide), p2_row e, p2_ne (by decide)]; exact g2
        · rw [p2_ne (by decide), p2_row e, p2_ne (by decide), p2_ne (by decide)]; exact g3
theorem q_g7 (hs : ST I D nA) (hn : I 0 11 = nI nQ) (h8 : nQ ≤ 8) (hg : GQ D nA nQ) (hE : I 0 22 = nI nE) (hE2 : nE ≤ 40) (hK : ∀ J, SC I J → J 0 0 = I 0 0 → GR J (AL D I nA nE (I 0 1) nQ) → ∃ n1, wX9_gather_113 pst n1 (some 0) 0 (mp J)) : ∀ k q J, nQ = q + k → SC I J → J 0 0 = I 0 0 → GR J (AL D I nA nE (I 0 1) q) → wX9_gather_7 pst (k + 1) (some 0) (nI q) (mp J) := by
  intro k
  induction k with
  | zero =>
    intro q J hq hJ h0 hG
    have e11 : J 0 11 = nI nQ := (hJ.2 11 (by decide)).trans hn
    unfold wX9_gather_7
    simp (disch := first | decide | omega) only [m_I, m_R, m_rc, m_pI, m_aI, m_aZ, m_sI, m_sZ, z01, z11, ix3, ix6, ix250, ix1, ix2, nI_add, nI_clamp, vin, true_and, and_true, or_true, true_or, mN3, mN6, mN7, mN8, mN9, mN10, mN12, mN13, mN14, mN15, mN16, mN17, mN18, mN19, mN20, mN21, mN23, mN24, mN25, mN26, mN33, mN34, mN35, mN37, mN39, mN40, mN41, e11, ile, brt (show nQ ≤ q by omega)]
    rw [show q = nQ by omega] at hG
    exact hK J hJ h0 hG
  | succ k ih =>
    intro q J hq hJ h0 hG
    have e11 : J 0 11 = nI nQ := (hJ.2 11 (by decide)).trans hn
    have e1 : J 0 1 = I 0 1 := hJ.2 1 (by decide)
    obtain ⟨b, ns, pf, l, hw, hl⟩ := hg q (by omega)
    unfold wX9_gather_7
    simp (disch := first | decide | omega) only [m_I, m_R, m_rc, m_pI, m_aI, m_aZ, m_sI, m_sZ, z01, z11, ix3, ix6, ix250, ix1, ix2, nI_add, nI_clamp, vin, true_and, and_true, or_true, true_or, mN3, mN6, mN7, mN8, mN9, mN10, mN12, mN13, mN14, mN15, mN16, mN17, mN18, mN19, mN20, mN21, mN23, mN24, mN25, mN26, mN33, mN34, mN35, mN37, mN39, mN40, mN41, e11, e1, ile, brf (show ¬ nQ ≤ q by omega)]
    refine q_work (SC_st hJ hs) hw hl fun J2 a1 a2 a3 a4 => ?_
    have hJ2 := SC_trans hJ (SC_sf a1)
    have hG2 : GR J2 (AL D I nA nE (I 0 1) q) := ⟨(a1.2 38 (by decide)).trans hG.1, fun i hi => by
      rw [a1.1 39 (by decide) (by decide) (by decide) (by decide), a1.1 40 (by decide) (by decide) (by decide) (by decide), a1.1 41 (by decide) (by decide) (by decide) (by decide)]
      exact hG.2 i hi⟩
    have h02 : J2 0 0 = I 0 0 := (a1.2 0 (by decide)).trans h0
    refine ⟨_, q_g26 hs hJ2 h02 hE hE2 a4 (AL_len q) (by omega) (fun J3 b1 b2 b3 => ih (q + 1) J3 (by omega) b1 b2 b3) (FL D nA (I 0 1) q nA).length 0 J2 (by omega) hJ2 h02 a4 ?_⟩
    have e0 : ALq D I nA nE (I 0 1) q 0 = [] := by unfold ALq; rw [List.take_zero]; rfl
    rw [e0, List.append_nil]
    exact hG2
end
