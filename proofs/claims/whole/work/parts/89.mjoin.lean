section
variable {I D : Mem} {nA nQ nE q a : Nat} {t v w : Int32} {post : Int32 → Pool → Prop} {pst : Pool → Prop} {L : List (Nat × Nat)}
noncomputable def csn (E : Nat → Nat → Prop) (m : Nat) : Nat := cnt (fun i => ∀ j, j < i → ¬ con E m j i) m
noncomputable def jsm (E : Nat → Nat → Prop) (L : List (Nat × Nat)) (q a : Nat) : Nat → Nat
  | 0 => 0
  | i + 1 => jsm E L q a i + @ite _ (L.getD i (0, 0) = (q, a)) (Classical.propDecidable _) (cnt (fun j => con E L.length j i) L.length) 0
theorem AL_sc {J : Mem} (h : SC I J) : ∀ n, AL D J nA nE t n = AL D I nA nE t n := by
  intro n
  induction n with
  | zero => rfl
  | succ n ih =>
    unfold AL ALq
    have e : (fun a => @decide (¬ EXQ J nE n a) (Classical.propDecidable _)) = (fun a => @decide (¬ EXQ I nE n a) (Classical.propDecidable _)) := by
      funext a
      rw [EXQ_sc h]
    rw [ih, e]
theorem EL_sc {J : Mem} (h : SC I J) : EL J L = EL I L := by
  funext i j
  unfold EL
  rw [MT_sc h]
theorem q_c26 {K : Option Nat → Int32 → Int32 → Pool → Prop} {J : Mem} {lab : Nat → Nat} {c i : Nat} (hm : L.length ≤ 2000) (hi : i < L.length) (hG : GS I J L lab) (hK : K (some 0) (nI (c + @ite _ (∀ j, j < i → lab j ≠ lab i) (Classical.propDecidable _) 1 0)) (nI (i + 1)) (mp J)) : ∀ k j, i = j + k → wX9_cases_26 K post (k + 1) (some 0) (nI c) (nI i) (bI (∀ j', j' < j → lab j' ≠ lab i)) (nI j) (mp J) := by
  intro k
  induction k with
  | zero =>
    intro j hj
    have e : j = i := by omega
    subst e
    unfold wX9_cases_26 wX9_cases_74
    simp (disch := first | decide | omega) only [ile, brt (Nat.le_refl j)]
    rw [bI_br]
    refine brc (fun h => ?_) fun h => ?_
    · rw [if_pos h] at hK; simp (disch := first | decide | omega) only [ix1]; exact hK
    · rw [if_neg h] at hK
      have e0 : nI c + 0 = nI c := by rw [show (0 : Int32) = nI 0 from rfl, nI_add]; rfl
      simp (disch := first | decide | omega) only [ix1, e0]
      exact hK
  | succ k ih =>
    intro j hj
    obtain ⟨_, _, r3, r4⟩ := hG.2.2.2 j (by omega)
    obtain ⟨_, _, s3, s4⟩ := hG.2.2.2 i hi
    unfold wX9_cases_26 wX9_cases_56 wX9_cases_57
    simp (disch := first | decide | omega) only [ile, brf (show ¬ i ≤ j by omega), m_I, m_R, m_rc, m_pI, m_aI, m_aZ, m_sI, m_sZ, z01, z11, ix3, ix6, ix250, ix1, ix2, nI_add, nI_clamp, vin, true_and, and_true, or_true, true_or, mN3, mN6, mN7, mN8, mN9, mN10, mN12, mN13, mN14, mN15, mN16, mN17, mN18, mN19, mN20, mN21, mN23, mN24, mN25, mN26, mN33, mN34, mN35, mN37, mN39, mN40, mN41]
    rw [bI_br]
    have hs : ∀ p : Prop, ((∀ j', j' < j + 1 → lab j' ≠ lab i) ↔ p) → wX9_cases_26 K post (k + 1) (some 0) (nI c) (nI i) (bI p) (nI (j + 1)) (mp J) := fun p hp => by
      rw [← propext hp]
      exact ih (j + 1) (by omega)
    refine brc (fun h => ?_) fun h => ?_
    · rw [r3, s3, ieq (by omega) (by omega)]
      refine brc (fun g => ?_) fun g => ?_
      · have := hs False ⟨fun z => z j (by omega) g, False.elim⟩
        rw [bI_f id] at this
        exact this
      · have := hs True ⟨fun _ => trivial, fun _ j' hj' => by
          by_cases e : j' = j
          · rw [e]; exact g
          · exact h j' (by omega)⟩
        rw [bI_t trivial] at this
        exact this
    · have := hs False ⟨fun z => h fun j' hj' => z j' (by omega), False.elim⟩
      rw [bI_f id] at this
      exact this
theorem q_cases (hs : ST I D nA) (hn : I 0 11 = nI nQ) (h8 : nQ ≤ 8) (hg : GQ D nA nQ) (hE : I 0 22 = nI nE) (hE2 : nE ≤ 40) (hp : ∀ J, SC I J → J 0 0 = 0 → post (nI (csn (EL I (AL D I nA nE (I 0 1) nQ)) (AL D I nA nE (I 0 1) nQ).length)) (mp J)) : wX9_cases post (some 0) (mp I) := by
  have hsc : SC I (p2 I 0 0 0) := SC_0 SC_rfl (by decide)
  have h01 : p2 I 0 0 (0 : Int32) 0 1 = I 0 1 := p2_row (by decide)
  have hAL := AL_sc (D := D) (nA := nA) (nE := nE) (t := I 0 1) hsc nQ
  have hlen := AL_len (D := D) (I := I) (nA := nA) (nE := nE) (t := I 0 1) nQ
  have h2000 : nQ * nA ≤ 8 * 250 := Nat.mul_le_mul h8 hs.2.1
  unfold wX9_cases
  rw [m_pI, m_rc]
  refine q_gather (nE := nE) (nQ := nQ) (SC_st hsc hs) (by rw [p2_row (by decide)]; exact hn) h8 hg (by rw [p2_row (by decide)]; exact hE) hE2 fun J lab hG hlab => ?_
  rw [h01, hAL, EL_sc hsc] at hlab
  rw [h01, hAL] at hG
  have hfin : csn (EL I (AL D I nA nE (I 0 1) nQ)) (AL D I nA nE (I 0 1) nQ).length = cnt (fun i => ∀ j, j < i → lab j ≠ lab i) (AL D I nA nE (I 0 1) nQ).length := by
    unfold csn
    refine cnt_cong fun i hi => ?_
    exact ⟨fun h j hj z => h j hj ((hlab j i (by omega) hi).mp z), fun h j hj z => h j hj ((hlab j i (by omega) hi).mpr z)⟩
  rw [hfin] at hp
  revert hG hlab hp hlen
  generalize AL D I nA nE (I 0 1) nQ = L
  intro hlen hp hG hlab
  have key : ∀ k i, L.length = i + k → wX9_cases_13 post (k + 1) (some 0) (nI (cnt (fun i => ∀ j, j < i → lab j ≠ lab i) i)) (nI i) (mp J) := by
    intro k
    induction k with
    | zero =>
      intro i hi
      unfold wX9_cases_13
      simp (disch := first | decide | omega) only [m_I, m_R, m_rc, m_pI, m_aI, m_aZ, m_sI, m_sZ, z01, z11, ix3, ix6, ix250, ix1, ix2, nI_add, nI_clamp, vin, true_and, and_true, or_true, true_or, mN3, mN6, mN7, mN8, mN9, mN10, mN12, mN13, mN14, mN15, mN16, mN17, mN18, mN19, mN20, mN21, mN23, mN24, mN25, mN26, mN33, mN34, mN35, mN37, mN39, mN40, mN41, hG.2.2.1, ile, brt (show L.length ≤ i by omega)]
      have e : L.length = i := by omega
      have := hp J (SC_trans hsc hG.1) (by rw [hG.2.1, p2_same])
      rw [e] at this
      exact this
    | succ k ih =>
      intro i hi
      unfold wX9_cases_13
      simp (disch := first | decide | omega) only [m_I, m_R, m_rc, m_pI, m_aI, m_aZ, m_sI, m_sZ, z01, z11, ix3, ix6, ix250, ix1, ix2, nI_add, nI_clamp, vin, true_and, and_true, or_true, true_or, mN3, mN6, mN7, mN8, mN9, mN10, mN12, mN13, mN14, mN15, mN16, mN17, mN18, mN19, mN20, mN21, mN23, mN24, mN25, mN26, mN33, mN34, mN35, mN37, mN39, mN40, mN41, hG.2.2.1, ile, brf (show ¬ L.length ≤ i by omega)]
      have := q_c26 (K := wX9_cases_13 post (k + 1)) (post := post) (c := cnt (fun i => ∀ j, j < i → lab j ≠ lab i) i) (i := i) (by omega) (by omega) hG (ih (i + 1) (by omega)) i 0 (by omega)
      rw [bI_t (fun j hj => by omega)] at this
      exact ⟨_, this⟩
  exact ⟨_, key L.length 0 (by omega)⟩
theorem q_joinedB (h : ¬ ((0 ≤ v ∧ v < I 0 11) ∧ 0 ≤ w ∧ w < I 0 4)) (hp : post 0 (mp (p2 I 0 0 1))) : wX9_joined post (some 0) v w (mp I) := by
  unfold wX9_joined wX9_joined_17 wX9_joined_22
  simp only [m_rc, q_isQ, q_isA, bI_br, m_pI, m_I, p2_same, le10, brF]
  refine brc (fun g1 => brc (fun g2 => absurd ⟨g1, g2⟩ h) fun _ => hp) fun _ => hp
theorem q_joined (hs : ST I D nA) (hn : I 0 11 = nI nQ) (h8 : nQ ≤ 8) (hg : GQ D nA nQ) (hE : I 0 22 = nI nE) (hE2 : nE ≤ 40) (hq : q < nQ) (ha : a < nA) (hp : ∀ J, SC I J → J 0 0 = 0 → post (nI (jsm (EL I (AL D I nA nE (I 0 1) nQ)) (AL D I nA nE (I 0 1) nQ) q a (AL D I nA nE (I 0 1) nQ).length)) (mp J)) : wX9_joined post (some 0) (nI q) (nI a) (mp I) := by
  have hsc : SC I (p2 I 0 0 0) := SC_0 SC_rfl (by decide)
  have h01 : p2 I 0 0 (0 : Int32) 0 1 = I 0 1 := p2_row (by decide)
  have hAL := AL_sc (D := D) (nA := nA) (nE := nE) (t := I 0 1) hsc nQ
  have hlen := AL_len (D := D) (I := I) (nA := nA) (nE := nE) (t := I 0 1) nQ
  have h2000 : nQ * nA ≤ 8 * 250 := Nat.mul_le_mul h8 hs.2.1
  have hA := hs.2.1
  have hqa : 0 ≤ nI a ∧ nI a < I 0 4 := by rw [hs.1]; exact ⟨nI_pos' (by omega), by rw [ilt (by omega) (by omega)]; exact ha⟩
  have hLlt : ∀ x, x ∈ AL D I nA nE (I 0 1) nQ → x.1 < nQ ∧ x.2 < nA := fun x hx => ⟨(AL_lt hx).1, (AL_lt hx).2.1⟩
  unfold wX9_joined wX9_joined_22
  simp only [m_rc, q_isQ, q_isA, bI_br, brt (isq_t hq hn h8), brt hqa, m_pI, m_I, p2_same, le00, brT]
  refine q_gather (nE := nE) (nQ := nQ) (SC_st hsc hs) (by rw [p2_row (by decide)]; exact hn) h8 hg (by rw [p2_row (by decide)]; exact hE) hE2 fun J lab hG hlab => ?_
  rw [h01, hAL, EL_sc hsc] at hlab
  rw [h01, hAL] at hG
  revert hG hlab hp hlen hLlt
  generalize AL D I nA nE (I 0 1) nQ = L
  intro hp hlen hLlt hG hlab
  have hmem : ∀ i, i < L.length → L.getD i (0, 0) ∈ L := fun i hi => by
    rw [List.getD_eq_getElem?_getD, List.getElem?_eq_getElem hi]
    exact List.getElem_mem hi
  have inner : ∀ (K : Option Nat → Int32 → Int32 → Int32 → Int32 → Pool → Prop) (i c : Nat), i < L.length → K (some 0) (nI q) (nI a) (nI (c + cnt (fun j => con (EL I L) L.length j i) L.length)) (nI (i + 1)) (mp J) → ∀ k j, L.length = j + k → wX9_joined_80 K post (k + 1) (some 0) (nI q) (nI a) (nI (c + cnt (fun j => con (EL I L) L.length j i) j)) (nI i) (nI j) (mp J) := by
    intro K i c hi hK k
    induction k with
    | zero =>
      intro j hj
      have e : L.length = j := by omega
      unfold wX9_joined_80 wX9_joined_120
      simp (disch := first | decide | omega) only [m_I, m_R, m_rc, m_pI, m_aI, m_aZ, m_sI, m_sZ, z01, z11, ix3, ix6, ix250, ix1, ix2, nI_add, nI_clamp, vin, true_and, and_true, or_true, true_or, mN3, mN6, mN7, mN8, mN9, mN10, mN12, mN13, mN14, mN15, mN16, mN17, mN18, mN19, mN20, mN21, mN23, mN24, mN25, mN26, mN33, mN34, mN35, mN37, mN39, mN40, mN41, hG.2.2.1, ile, brt (show L.length ≤ j by omega)]
      rw [e] at hK ⊢
      exact hK
    | succ k ih =>
      intro j hj
      obtain ⟨_, _, r3, r4⟩ := hG.2.2.2 j (by omega)
      obtain ⟨_, _, s3, s4⟩ := hG.2.2.2 i hi
      have hc := hlab j i (by omega) hi
      unfold wX9_joined_80 wX9_joined_112
      simp (disch := first | decide | omega) only [m_I, m_R, m_rc, m_pI, m_aI, m_aZ, m_sI, m_sZ, z01, z11, ix3, ix6, ix250, ix1, ix2, nI_add, nI_clamp, vin, true_and, and_true, or_true, true_or, mN3, mN6, mN7, mN8, mN9, mN10, mN12, mN13, mN14, mN15, mN16, mN17, mN18, mN19, mN20, mN21, mN23, mN24, mN25, mN26, mN33, mN34, mN35, mN37, mN39, mN40, mN41, hG.2.2.1, ile, brf (show ¬ L.length ≤ j by omega), r3, s3, ieq]
      have := ih (j + 1) (by omega)
      refine brc (fun g => ?_) fun g => ?_
      · rw [cnt_t (p := fun j => con (EL I L) L.length j i) (hc.mp g), ← Nat.add_assoc] at this
        exact this
      · rw [cnt_f (p := fun j => con (EL I L) L.length j i) (fun z => g (hc.mpr z))] at this
        have e0 : nI (c + cnt (fun j => con (EL I L) L.length j i) j) + 0 = nI (c + cnt (fun j => con (EL I L) L.length j i) j) := by rw [show (0 : Int32) = nI 0 from rfl, nI_add]; rfl
        rw [e0]
        exact this
  have key : ∀ k i, L.length = i + k → wX9_joined_43 post (k + 1) (some 0) (nI q) (nI a) (nI (jsm (EL I L) L q a i)) (nI i) (mp J) := by
    intro k
    induction k with
    | zero =>
      intro i hi
      have e : L.length = i := by omega
      unfold wX9_joined_43
      simp (disch := first | decide | omega) only [m_I, m_R, m_rc, m_pI, m_aI, m_aZ, m_sI, m_sZ, z01, z11, ix3, ix6, ix250, ix1, ix2, nI_add, nI_clamp, vin, true_and, and_true, or_true, true_or, mN3, mN6, mN7, mN8, mN9, mN10, mN12, mN13, mN14, mN15, mN16, mN17, mN18, mN19, mN20, mN21, mN23, mN24, mN25, mN26, mN33, mN34, mN35, mN37, mN39, mN40, mN41, hG.2.2.1, ile, brt (show L.length ≤ i by omega)]
      have := hp J (SC_trans hsc hG.1) (by rw [hG.2.1, p2_same])
      rw [← e]
      exact this
    | succ k ih =>
      intro i hi
      obtain ⟨r1, r2, _, _⟩ := hG.2.2.2 i (by omega)
      have hl := hLlt _ (hmem i (by omega))
      have := ih (i + 1) (by omega)
      unfold wX9_joined_43 wX9_joined_120
      simp (disch := first | decide | omega) only [m_I, m_R, m_rc, m_pI, m_aI, m_aZ, m_sI, m_sZ, z01, z11, ix3, ix6, ix250, ix1, ix2, nI_add, nI_clamp, vin, true_and, and_true, or_true, true_or, mN3, mN6, mN7, mN8, mN9, mN10, mN12, mN13, mN14, mN15, mN16, mN17, mN18, mN19, mN20, mN21, mN23, mN24, mN25, mN26, mN33, mN34, mN35, mN37, mN39, mN40, mN41, hG.2.2.1, ile, brf (show ¬ L.length ≤ i by omega), r1, r2, ieq]
      rw [jsm] at this
      have hno : ¬ L.getD i (0, 0) = (q, a) → wX9_joined_43 post (k + 1) (some 0) (nI q) (nI a) (nI (jsm (EL I L) L q a i)) (nI (i + 1)) (mp J) := fun z => by
        rw [if_neg z, Nat.add_zero] at this
        exact this
      refine brc (fun g1 => brc (fun g2 => ?_) fun g2 => hno fun z => g2 (by rw [z])) fun g1 => hno fun z => g1 (by rw [z])
      have e : L.getD i (0, 0) = (q, a) := Prod.ext g1 g2
      rw [if_pos e] at this
      exact ⟨_, inner _ i (jsm (EL I L) L q a i) (by omega) this L.length 0 (by omega)⟩
  exact ⟨_, key L.length 0 (by omega)⟩
end
