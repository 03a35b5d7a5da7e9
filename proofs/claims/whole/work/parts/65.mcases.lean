section
variable {I D : Mem} {nA nQ nE : Nat} {t : Int32} {post : Int32 → Pool → Prop} {pst : Pool → Prop} {L : List (Nat × Nat)}
theorem MT_sym {a b : Nat} (h : MT I a b) : MT I b a := by
  refine ⟨?_, h.2.imp Eq.symm Eq.symm⟩
  have h1 := h.1
  by_cases e1 : I 8 a ≤ I 8 b
  · by_cases e2 : I 8 b ≤ I 8 a
    · have e : I 8 a = I 8 b := by
        rw [← Int32.toInt_inj]
        rw [Int32.le_iff_toInt_le] at e1 e2
        omega
      rw [e] at h1 ⊢
      exact h1
    · rw [if_neg e2]; rw [if_pos e1] at h1; exact h1
  · have e2 : I 8 b ≤ I 8 a := by
      rw [Int32.le_iff_toInt_le] at *
      omega
    rw [if_pos e2]; rw [if_neg e1] at h1; exact h1
/-- edges of the list L -/
def EL (I : Mem) (L : List (Nat × Nat)) (i j : Nat) : Prop := MT I (L.getD i (0, 0)).2 (L.getD j (0, 0)).2
/-- the rows hold L with the labels lab -/
def GS (I J : Mem) (L : List (Nat × Nat)) (lab : Nat → Nat) : Prop := SC I J ∧ J 0 0 = I 0 0 ∧ J 0 38 = nI L.length ∧ ∀ i, i < L.length → J 39 i = nI (L.getD i (0, 0)).1 ∧ J 40 i = nI (L.getD i (0, 0)).2 ∧ J 41 i = nI (lab i) ∧ lab i < 2000
theorem MT_sc {J : Mem} {a b : Nat} (h : SC I J) : MT J a b = MT I a b := by
  unfold MT
  rw [h.1 7 (by decide), h.1 8 (by decide), h.2 2 (by decide)]
theorem q_g174 {K1 : Option Nat → Int32 → Pool → Prop} {K2 : Option Nat → Int32 → Int32 → Pool → Prop} {i j was to : Nat} (hm : L.length ≤ 2000) (hi : i < L.length) (hw : was < 2000) (ht : to < 2000) (hne : was ≠ to) {lab : Nat → Nat} (hK : ∀ J, GS I J L (fun x => if x ≤ i ∧ lab x = was then to else lab x) → K2 (some 0) (nI i) (nI (j + 1)) (mp J)) : ∀ k x J, i + 1 = x + k → GS I J L (fun y => if y < x ∧ lab y = was then to else lab y) → wX9_gather_174 K1 K2 pst (k + 1) (some 0) (nI i) (nI j) (nI was) (nI to) (nI x) (mp J) := by
  intro k
  induction k with
  | zero =>
    intro x J hx hG
    unfold wX9_gather_174
    unfold wX9_gather_206
    simp (disch := first | decide | omega) only [ilt, brt (show i < x by omega), ix1]
    refine hK J ?_
    have e : (fun y => if y < x ∧ lab y = was then to else lab y) = (fun y => if y ≤ i ∧ lab y = was then to else lab y) := by
      funext y
      by_cases h : y ≤ i
      · simp [h, show y < x by omega]
      · simp [h, show ¬ y < x by omega]
    rw [← e]
    exact hG
  | succ k ih =>
    intro x J hx hG
    obtain ⟨g1, g2, g3, g4⟩ := hG
    obtain ⟨r1, r2, r3, r4⟩ := g4 x (by omega)
    simp only [show ¬ x < x by omega, false_and, if_false] at r3 r4
    unfold wX9_gather_174
    unfold wX9_gather_200
    simp (disch := first | decide | omega) only [m_I, m_R, m_rc, m_pI, m_aI, m_aZ, m_sI, m_sZ, z01, z11, ix3, ix6, ix250, ix1, ix2, nI_add, nI_clamp, vin, true_and, and_true, or_true, true_or, mN3, mN6, mN7, mN8, mN9, mN10, mN12, mN13, mN14, mN15, mN16, mN17, mN18, mN19, mN20, mN21, mN23, mN24, mN25, mN26, mN33, mN34, mN35, mN37, mN39, mN40, mN41, ilt, brf (show ¬ i < x by omega), r3, ieq]
    refine brc (fun h => ?_) fun h => ?_
    · refine ih (x + 1) _ (by omega) ⟨SC_p g1 (by decide) (by decide), by rw [p2_ne (by decide)]; exact g2, by rw [p2_ne (by decide)]; exact g3, fun y hy => ?_⟩
      obtain ⟨s1, s2, s3, s4⟩ := g4 y hy
      refine ⟨by rw [p2_ne (by decide)]; exact s1, by rw [p2_ne (by decide)]; exact s2, ?_⟩
      by_cases e : y = x
      · subst e
        rw [p2_same]
        simp only [show y < y + 1 by omega, h, and_self, if_true]
        exact ⟨trivial, ht⟩
      · rw [p2_row e]
        have e2 : (y < x + 1) = (y < x) := propext ⟨fun z => by omega, fun z => by omega⟩
        simp only [e2]
        exact ⟨s3, s4⟩
    · refine ih (x + 1) _ (by omega) ⟨g1, g2, g3, fun y hy => ?_⟩
      obtain ⟨s1, s2, s3, s4⟩ := g4 y hy
      refine ⟨s1, s2, ?_⟩
      by_cases e : y = x
      · subst e
        simp only [h, and_false, if_false]
        exact ⟨r3, r4⟩
      · have e2 : (y < x + 1) = (y < x) := propext ⟨fun z => by omega, fun z => by omega⟩
        simp only [e2]
        exact ⟨s3, s4⟩
theorem q_g123 {K1 : Option Nat → Int32 → Pool → Prop} {i : Nat} (hm : L.length ≤ 2000) (hi : i < L.length) (hL : ∀ x, x < L.length → (L.getD x (0, 0)).2 < 250) (hK : ∀ J lab, GS I J L lab → (∀ k, i < k → lab k = k) → (∀ k, k ≤ i → lab k ≤ i) → (∀ x y, x ≤ i → y ≤ i → lab x = lab y → con (EL I L) L.length x y) → (∀ x y, x ≤ i → y < x → EL I L x y → lab x = lab y) → K1 (some 0) (nI (i + 1)) (mp J)) : ∀ k j J lab, i = j + k → GS I J L lab → (∀ k, i < k → lab k = k) → (∀ k, k ≤ i → lab k ≤ i) → (∀ x y, x ≤ i → y ≤ i → lab x = lab y → con (EL I L) L.length x y) → (∀ x y, x < i → y < x → EL I L x y → lab x = lab y) → (∀ y, y < j → EL I L i y → lab i = lab y) → wX9_gather_123 K1 pst (k + 1) (some 0) (nI i) (nI j) (mp J) := by
  intro k
  induction k with
  | zero =>
    intro j J lab hj hG h1 h2 h3 h4 h5
    unfold wX9_gather_123
    simp (disch := first | decide | omega) only [ile, brt (show i ≤ j by omega), ix1]
    refine hK J lab hG h1 h2 h3 fun x y hx hy he => ?_
    by_cases e : x = i
    · subst e; exact h5 y (by omega) he
    · exact h4 x y (by omega) hy he
  | succ k ih =>
    intro j J lab hj hG h1 h2 h3 h4 h5
    obtain ⟨g1, g2, g3, g4⟩ := hG
    obtain ⟨r1, r2, r3, r4⟩ := g4 i hi
    obtain ⟨s1, s2, s3, s4⟩ := g4 j (by omega)
    have hli := hL i hi
    have hlj := hL j (by omega)
    have hnext : (EL I L i j → lab i = lab j) → wX9_gather_123 K1 pst (k + 1) (some 0) (nI i) (nI (j + 1)) (mp J) := fun h => ih (j + 1) J lab (by omega) ⟨g1, g2, g3, g4⟩ h1 h2 h3 h4 fun y hy he => by
      by_cases e : y = j
      · rw [e] at he ⊢; exact h he
      · exact h5 y (by omega) he
    unfold wX9_gather_123
    unfold wX9_gather_206
    simp (disch := first | decide | omega) only [m_I, m_R, m_rc, m_pI, m_aI, m_aZ, m_sI, m_sZ, z01, z11, ix3, ix6, ix250, ix1, ix2, nI_add, nI_clamp, vin, true_and, and_true, or_true, true_or, mN3, mN6, mN7, mN8, mN9, mN10, mN12, mN13, mN14, mN15, mN16, mN17, mN18, mN19, mN20, mN21, mN23, mN24, mN25, mN26, mN33, mN34, mN35, mN37, mN39, mN40, mN41, ile, brf (show ¬ i ≤ j by omega), r2, r3, s2, s3, ieq]
    refine brc (fun h => hnext fun _ => h) fun h => ?_
    refine q_meet hli hlj ?_
    rw [MT_sc g1, bI_br]
    refine brc (fun he => ?_) fun he => hnext fun z => absurd z he
    have hG0 : GS I J L (fun y => if y < 0 ∧ lab y = lab i then lab j else lab y) := by
      have e : (fun y => if y < 0 ∧ lab y = lab i then lab j else lab y) = lab := by funext y; simp
      rw [e]
      exact ⟨g1, g2, g3, g4⟩
    refine ⟨_, q_g174 hm hi (by omega) (by omega) h (fun J2 hJ2 => ?_) (i + 1) 0 J (by omega) hG0⟩
    have hc : con (EL I L) L.length i j := con_e hi (by omega) he
    refine ih (j + 1) J2 _ (by omega) hJ2 (fun k hk => ?_) (fun k hk => ?_) (fun x y hx hy e => ?_) (fun x y hx hy e => ?_) (fun y hy e => ?_)
    · simp only [show ¬ k ≤ i by omega, false_and, if_false]; exact h1 k hk
    · by_cases e : lab k = lab i
      · simp only [hk, e, and_self, if_true]; exact h2 j (by omega)
      · simp only [e, and_false, if_false]; exact h2 k hk
    · simp only [hx, hy, true_and] at e
      by_cases e1 : lab x = lab i
      · by_cases e2 : lab y = lab i
        · exact h3 x y hx hy (e1.trans e2.symm)
        · rw [if_pos e1, if_neg e2] at e
          exact con_trans (h3 x i hx (Nat.le_refl _) e1) (con_trans hc (h3 j y (by omega) hy e))
      · by_cases e2 : lab y = lab i
        · rw [if_neg e1, if_pos e2] at e
          exact con_trans (h3 x j hx (by omega) e) (con_trans (con_sym hc) (h3 i y (Nat.le_refl _) hy e2.symm))
        · rw [if_neg e1, if_neg e2] at e
          exact h3 x y hx hy e
    · simp only [show x ≤ i by omega, show y ≤ i by omega, true_and]
      rw [h4 x y hx hy e]
    · simp only [show i ≤ i by omega, show y ≤ i by omega, true_and, if_true]
      by_cases e2 : y = j
      · subst e2
        rw [if_neg (fun z => h z.symm)]
      · have e3 := h5 y (by omega) e
        rw [if_pos e3.symm]
theorem q_g113 (hm : L.length ≤ 2000) (hL : ∀ x, x < L.length → (L.getD x (0, 0)).2 < 250) (hp : ∀ J lab, GS I J L lab → (∀ x y, x < L.length → y < L.length → (lab x = lab y ↔ con (EL I L) L.length x y)) → pst (mp J)) : ∀ k i J lab, L.length = i + k → GS I J L lab → (∀ k, i ≤ k → lab k = k) → (∀ k, k < i → lab k < i) → (∀ x y, x < i → y < i → lab x = lab y → con (EL I L) L.length x y) → (∀ x y, x < i → y < x → EL I L x y → lab x = lab y) → wX9_gather_113 pst (k + 1) (some 0) (nI i) (mp J) := by
  intro k
  induction k with
  | zero =>
    intro i J lab hi hG h1 h2 h3 h4
    unfold wX9_gather_113
    simp (disch := first | decide | omega) only [m_I, m_R, m_rc, m_pI, m_aI, m_aZ, m_sI, m_sZ, z01, z11, ix3, ix6, ix250, ix1, ix2, nI_add, nI_clamp, vin, true_and, and_true, or_true, true_or, mN3, mN6, mN7, mN8, mN9, mN10, mN12, mN13, mN14, mN15, mN16, mN17, mN18, mN19, mN20, mN21, mN23, mN24, mN25, mN26, mN33, mN34, mN35, mN37, mN39, mN40, mN41, hG.2.2.1, ile, brt (show L.length ≤ i by omega)]
    refine hp J lab hG fun x y hx hy => ⟨fun h => h3 x y (by omega) (by omega) h, fun h => ?_⟩
    refine h (fun x y => lab x = lab y) (fun _ => rfl) (fun _ _ => Eq.symm) (fun _ _ _ => Eq.trans) fun x y hx hy he => ?_
    by_cases e : x = y
    · rw [e]
    · by_cases e2 : y < x
      · exact h4 x y (by omega) e2 he
      · exact (h4 y x (by omega) (by omega) (MT_sym he)).symm
  | succ k ih =>
    intro i J lab hi hG h1 h2 h3 h4
    unfold wX9_gather_113
    simp (disch := first | decide | omega) only [m_I, m_R, m_rc, m_pI, m_aI, m_aZ, m_sI, m_sZ, z01, z11, ix3, ix6, ix250, ix1, ix2, nI_add, nI_clamp, vin, true_and, and_true, or_true, true_or, mN3, mN6, mN7, mN8, mN9, mN10, mN12, mN13, mN14, mN15, mN16, mN17, mN18, mN19, mN20, mN21, mN23, mN24, mN25, mN26, mN33, mN34, mN35, mN37, mN39, mN40, mN41, hG.2.2.1, ile, brf (show ¬ L.length ≤ i by omega)]
    have hii := h1 i (Nat.le_refl _)
    refine ⟨_, q_g123 hm (by omega) hL (fun J2 lab2 a1 a2 a3 a4 a5 => ih (i + 1) J2 lab2 (by omega) a1 (fun k hk => a2 k (by omega)) (fun k hk => by have := a3 k (by omega); omega) (fun x y hx hy => a4 x y (by omega) (by omega)) (fun x y hx hy => a5 x y (by omega) hy)) i 0 J lab (by omega) hG (fun k hk => h1 k (by omega)) (fun k hk => ?_) (fun x y hx hy e => ?_) h4 (fun y hy => by omega)⟩
    · by_cases e : k = i
      · rw [e, hii]; exact Nat.le_refl _
      · have := h2 k (by omega); omega
    · by_cases e1 : x = i
      · by_cases e2 : y = i
        · rw [e1, e2]; exact con_rfl
        · have := h2 y (by omega)
          rw [e1, hii] at e
          omega
      · by_cases e2 : y = i
        · have := h2 x (by omega)
          rw [e2, hii] at e
          omega
        · exact h3 x y (by omega) (by omega) e
theorem AL_lt : ∀ {n : Nat} {x : Nat × Nat}, x ∈ AL D I nA nE t n → x.1 < n ∧ x.2 < nA ∧ x.2 ∈ FL D nA t x.1 nA ∧ ¬ EXQ I nE x.1 x.2 := by
  intro n
  induction n with
  | zero => intro x h; unfold AL at h; cases h
  | succ n ih =>
    intro x h
    unfold AL at h
    rcases List.mem_append.mp h with h | h
    · have := ih h
      exact ⟨by omega, this.2⟩
    · unfold ALq at h
      obtain ⟨a, h1, rfl⟩ := List.mem_map.mp h
      have h2 := List.mem_filter.mp h1
      have h3 := List.mem_of_mem_take h2.1
      exact ⟨by show n < n + 1; omega, FL_lt h3, h3, by simpa using h2.2⟩
theorem q_gather (hs : ST I D nA) (hn : I 0 11 = nI nQ) (h8 : nQ ≤ 8) (hg : GQ D nA nQ) (hE : I 0 22 = nI nE) (hE2 : nE ≤ 40) (hp : ∀ J lab, GS I J (AL D I nA nE (I 0 1) nQ) lab → (∀ x y, x < (AL D I nA nE (I 0 1) nQ).length → y < (AL D I nA nE (I 0 1) nQ).length → (lab x = lab y ↔ con (EL I (AL D I nA nE (I 0 1) nQ)) (AL D I nA nE (I 0 1) nQ).length x y)) → pst (mp J)) : wX9_gather pst (some 0) (mp I) := by
  have hA := hs.2.1
  have hlen := AL_len (D := D) (I := I) (nA := nA) (nE := nE) (t := I 0 1) nQ
  have h2000 : nQ * nA ≤ 8 * 250 := Nat.mul_le_mul h8 hA
  have hL : ∀ x, x < (AL D I nA nE (I 0 1) nQ).length → ((AL D I nA nE (I 0 1) nQ).getD x (0, 0)).2 < 250 := fun x hx => by
    have : (AL D I nA nE (I 0 1) nQ).getD x (0, 0) ∈ AL D I nA nE (I 0 1) nQ := by
      rw [List.getD_eq_getElem?_getD, List.getElem?_eq_getElem hx]
      exact List.getElem_mem hx
    have := (AL_lt this).2.1
    omega
  unfold wX9_gather
  rw [m_pI]
  refine ⟨_, q_g7 hs hn h8 hg hE hE2 (fun J a1 a2 a3 => ?_) nQ 0 _ (by omega) (SC_0 SC_rfl (by decide)) (p2_row (by decide)) ⟨by rw [p2_same]; rfl, fun i hi => by unfold AL at hi; cases hi⟩⟩
  exact ⟨_, q_g113 (by omega) hL hp (AL D I nA nE (I 0 1) nQ).length 0 J id (by omega) ⟨a1, a2, a3.1, fun i hi => ⟨(a3.2 i hi).1, (a3.2 i hi).2.1, (a3.2 i hi).2.2, show i < 2000 by omega⟩⟩ (fun _ _ => rfl) (fun k hk => by omega) (fun x y hx => by omega) (fun x y hx => by omega)⟩
end
