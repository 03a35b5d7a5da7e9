section
variable {I D : Mem} {nA nQ q b ns pf l : Nat} {t v : Int32} {post : Int32 → Pool → Prop}
/-- v is what q costs at t: the fewest that fit -/
def CO (D : Mem) (nA : Nat) (t : Int32) (q ns : Nat) (v : Int32) : Prop := (∃ s, s < ns ∧ D 14 (6 * q + s) = 0 ∧ v = nI (cnt (FT D nA t q s) nA)) ∧ ∀ s, s < ns → D 14 (6 * q + s) = 0 → v ≤ nI (cnt (FT D nA t q s) nA)
theorem q_costB (h : ¬ (0 ≤ v ∧ v < I 0 11)) (hp : post 0 (mp (p2 I 0 0 1))) : wX9_cost post (some 0) v t (mp I) := by
  unfold wX9_cost wX9_cost_14
  simp only [m_rc, q_isQ, nq_bad h, brT, m_pI, m_I, p2_same, le10, brF]
  exact hp
theorem nI_nm1 {n : Nat} (h : n < 2 ^ 31) : ¬ nI n = -1 := fun z => by
  have := congrArg Int32.toInt z
  rw [nI_toInt h] at this
  have e : (-1 : Int32).toInt = -1 := by decide
  rw [e] at this
  omega
theorem q_cost (hs : ST I D nA) (hw : WQ D nA q b ns pf) (hl : bfr D q ns = some l) (hn : I 0 11 = nI nQ) (h8 : nQ ≤ 8) (hq : q < nQ) (hp : ∀ v J, CO D nA t q ns v → SC I J → J 0 0 = 0 → post v (mp J)) : wX9_cost post (some 0) (nI q) t (mp I) := by
  have hA := hs.2.1
  have hn6 : ns ≤ 6 := hw.2.2.2.1
  have hns : D 13 q = nI ns := hw.2.2.2.2.1
  unfold wX9_cost wX9_cost_14
  simp only [m_rc, q_isQ, bI_br, brt (isq_t hq hn h8), m_pI, m_I, p2_same, le00, brT]
  have hsc : SC I (p2 I 0 0 0) := SC_0 SC_rfl (by decide)
  have hp' := fun v (h : CO D nA t q ns v) => hp v _ h hsc p2_same
  have hs' := SC_st hsc hs
  generalize hJ : p2 I 0 0 0 = J at *
  have e13 := hs'.2.2 13 (by decide)
  have e14 := hs'.2.2 14 (by decide)
  have h2 : ∀ (K : Option Nat → Int32 → Int32 → Int32 → Int32 → Pool → Prop) (v : Int32) (s : Nat), s < ns → K (some 0) (nI q) t (if v = -1 ∨ nI (cnt (FT D nA t q s) nA) < v then nI (cnt (FT D nA t q s) nA) else v) (nI (s + 1)) (mp J) → ∀ k c, nA = c + k → wX9_cost_66 K post (k + 1) (some 0) (nI q) t v (nI s) (nI (cnt (FT D nA t q s) c)) (nI c) (mp J) := by
    intro K v s hsn hK k
    induction k with
    | zero =>
      intro c hc
      unfold wX9_cost_66
      unfold wX9_cost_115 wX9_cost_118
      simp (disch := first | decide | omega) only [m_I, m_R, m_rc, m_pI, m_aI, m_aZ, m_sI, m_sZ, z01, z11, ix3, ix6, ix250, ix1, ix2, nI_add, nI_clamp, vin, true_and, and_true, or_true, true_or, mN3, mN6, mN7, mN8, mN9, mN10, mN12, mN13, mN14, mN15, mN16, mN17, mN18, mN19, mN20, mN21, mN23, mN24, mN25, mN26, mN33, mN34, mN35, mN37, mN39, mN40, mN41, hs'.1, ile, brt (show nA ≤ c by omega)]
      have ec : c = nA := by omega
      rw [ec]
      refine brc (fun h => ?_) fun h => brc (fun h' => ?_) fun h' => ?_
      · rw [if_pos (.inl h)] at hK; exact hK
      · rw [if_neg (fun z => z.elim h fun z => Int32.not_le.mpr z h')] at hK; exact hK
      · rw [if_pos (.inr (Int32.not_le.mp h'))] at hK; exact hK
    | succ k ih =>
      intro c hc
      have ihc := ih (c + 1) (by omega)
      unfold wX9_cost_66
      unfold wX9_cost_95
      simp (disch := first | decide | omega) only [m_I, m_R, m_rc, m_pI, m_aI, m_aZ, m_sI, m_sZ, z01, z11, ix3, ix6, ix250, ix1, ix2, nI_add, nI_clamp, vin, true_and, and_true, or_true, true_or, mN3, mN6, mN7, mN8, mN9, mN10, mN12, mN13, mN14, mN15, mN16, mN17, mN18, mN19, mN20, mN21, mN23, mN24, mN25, mN26, mN33, mN34, mN35, mN37, mN39, mN40, mN41, hs'.1, ile, brf (show ¬ nA ≤ c by omega)]
      refine q_fits hs' hw.1 (by omega) (by omega) ?_
      rw [bI_br]
      refine brc (fun h => ?_) fun h => ?_
      · rw [cnt_t h] at ihc
        exact ihc
      · rw [cnt_f h] at ihc
        rw [Int32.add_zero]; exact ihc
  have h1 : ∀ k s v, ns = s + k → ((v = -1 ∧ ∀ s', s' < s → ¬ D 14 (6 * q + s') = 0) ∨ CO D nA t q s v) → wX9_cost_31 post (k + 1) (some 0) (nI q) t v (nI s) (mp J) := by
    intro k
    induction k with
    | zero =>
      intro s v hk h
      unfold wX9_cost_31
      simp (disch := first | decide | omega) only [m_I, m_R, m_rc, m_pI, m_aI, m_aZ, m_sI, m_sZ, z01, z11, ix3, ix6, ix250, ix1, ix2, nI_add, nI_clamp, vin, true_and, and_true, or_true, true_or, mN3, mN6, mN7, mN8, mN9, mN10, mN12, mN13, mN14, mN15, mN16, mN17, mN18, mN19, mN20, mN21, mN23, mN24, mN25, mN26, mN33, mN34, mN35, mN37, mN39, mN40, mN41, e13, hns, ile, brt (show ns ≤ s by omega)]
      rcases h with h | h
      · exact absurd (bfr_lt hl).2 (h.2 l (by have := (bfr_lt hl).1; omega))
      · rw [show s = ns by omega] at h
        exact hp' v h
    | succ k ih =>
      intro s v hk h
      unfold wX9_cost_31
      unfold wX9_cost_118
      simp (disch := first | decide | omega) only [m_I, m_R, m_rc, m_pI, m_aI, m_aZ, m_sI, m_sZ, z01, z11, ix3, ix6, ix250, ix1, ix2, nI_add, nI_clamp, vin, true_and, and_true, or_true, true_or, mN3, mN6, mN7, mN8, mN9, mN10, mN12, mN13, mN14, mN15, mN16, mN17, mN18, mN19, mN20, mN21, mN23, mN24, mN25, mN26, mN33, mN34, mN35, mN37, mN39, mN40, mN41, e13, e14, hns, ile, brf (show ¬ ns ≤ s by omega)]
      refine brc (fun h0 => ?_) fun h0 => ?_
      · refine ⟨_, h2 _ v s (by omega) (ih (s + 1) _ (by omega) (.inr ?_)) nA 0 (by omega)⟩
        have hcl := cnt_le (FT D nA t q s) nA
        by_cases hc : v = -1 ∨ nI (cnt (FT D nA t q s) nA) < v
        · rw [if_pos hc]
          refine ⟨⟨s, by omega, h0, rfl⟩, fun s' hs1 hs2 => ?_⟩
          by_cases e : s' = s
          · rw [e]; exact Int32.le_refl _
          · rcases h with h | h
            · exact absurd hs2 (h.2 s' (by omega))
            · rcases hc with hc | hc
              · obtain ⟨s2, _, _, e2⟩ := h.1
                exact absurd (e2.symm.trans hc) (nI_nm1 (by have := cnt_le (FT D nA t q s2) nA; omega))
              · exact Int32.le_trans (Int32.le_of_lt hc) (h.2 s' (by omega) hs2)
        · rw [if_neg hc]
          rcases h with h | h
          · exact absurd (.inl h.1) hc
          · obtain ⟨⟨s2, a1, a2, a3⟩, a4⟩ := h
            refine ⟨⟨s2, by omega, a2, a3⟩, fun s' hs1 hs2 => ?_⟩
            by_cases e : s' = s
            · rw [e]; exact Int32.not_lt.mp fun z => hc (.inr z)
            · exact a4 s' (by omega) hs2
      · refine ih (s + 1) v (by omega) ?_
        rcases h with h | h
        · refine .inl ⟨h.1, fun s' hs' => ?_⟩
          by_cases e : s' = s
          · rw [e]; exact h0
          · exact h.2 s' (by omega)
        · obtain ⟨⟨s2, a1, a2, a3⟩, a4⟩ := h
          refine .inr ⟨⟨s2, by omega, a2, a3⟩, fun s' hs1 hs2 => ?_⟩
          by_cases e : s' = s
          · rw [e] at hs2; exact absurd hs2 h0
          · exact a4 s' (by omega) hs2
  exact ⟨_, h1 ns 0 (-1) (by omega) (.inl ⟨rfl, fun s' h => by omega⟩)⟩
/-- how many values the field f has in the first j of the list F -/
noncomputable def fvs (D : Mem) (F : List Nat) (f j : Nat) : Nat := cnt (fun v => ∃ k, k < j ∧ D 7 (3 * F.getD k 0 + f) = nI v) 31
def wst (c : Nat → Nat) : Nat → Int32 × Nat
  | 0 => (-1, 0)
  | f + 1 => if (wst c f).2 < c f then (nI f, c f) else wst c f
theorem q_widestB (h : ¬ (0 ≤ v ∧ v < I 0 11)) (hp : post 0 (mp (p2 I 0 0 1))) : wX9_widest post (some 0) v t (mp I) := by
  unfold wX9_widest wX9_widest_14
  simp only [m_rc, q_isQ, nq_bad h, brT, m_pI, m_I, p2_same, le10, brF]
  exact hp
theorem wst_le {c : Nat → Nat} (hc : ∀ f, c f ≤ 31) : ∀ f, (wst c f).2 ≤ 31 := by
  intro f
  induction f with
  | zero => exact Nat.zero_le _
  | succ f ih =>
    unfold wst
    by_cases h : (wst c f).2 < c f
    · rw [if_pos h]; exact hc f
    · rw [if_neg h]; exact ih
theorem fvs_s {F : List Nat} {f j w : Nat} {x : Int32} (hw : w < 31) (he : D 7 (3 * F.getD j 0 + f) = nI w) (hx : ∀ v, v < 31 → (btt x v = true ↔ ∃ k, k < j ∧ D 7 (3 * F.getD k 0 + f) = nI v)) : fvs D F f (j + 1) = (if btt x w = false then fvs D F f j + 1 else fvs D F f j) ∧ ∀ v, v < 31 → (btt (x ||| (1 : Int32) <<< (nI w &&& 31)) v = true ↔ ∃ k, k < j + 1 ∧ D 7 (3 * F.getD k 0 + f) = nI v) := by
  have hc : ∀ v, v < 31 → (((∃ k, k < j ∧ D 7 (3 * F.getD k 0 + f) = nI v) ∨ v = w) ↔ ∃ k, k < j + 1 ∧ D 7 (3 * F.getD k 0 + f) = nI v) := fun v hv => by
    refine ⟨fun z => z.elim (fun ⟨k, h1, h2⟩ => ⟨k, by omega, h2⟩) fun z => ⟨j, by omega, by rw [he, z]⟩, fun ⟨k, h1, h2⟩ => ?_⟩
    by_cases e : k = j
    · subst e
      rw [he] at h2
      exact .inr ((nI_eq (by omega) (by omega)).mp h2).symm
    · exact .inl ⟨k, by omega, h2⟩
  refine ⟨?_, fun v hv => ?_⟩
  · unfold fvs
    rw [← cnt_cong hc]
    cases hb : btt x w with
    | false =>
      rw [if_pos rfl, cnt_ins (p := fun v => ∃ k, k < j ∧ D 7 (3 * F.getD k 0 + f) = nI v) (fun z => by have := (hx w hw).mpr z; rw [hb] at this; cases this) hw]
    | true =>
      rw [if_neg (by decide)]
      refine cnt_cong fun v hv => ⟨fun z => z.elim id fun z => ?_, .inl⟩
      rw [z]; exact (hx w hw).mp hb
  · rw [b_set x (by omega) (by omega), ← hc v hv, ← hx v hv]
    simp only [Bool.or_eq_true, decide_eq_true_eq]
    exact or_congr Iff.rfl eq_comm
theorem q_widest (hs : ST I D nA) (hw : WQ D nA q b ns pf) (hl : bfr D q ns = some l) (hn : I 0 11 = nI nQ) (h8 : nQ ≤ 8) (hq : q < nQ) (hp : ∀ J, SC I J → J 0 0 = 0 → post (wst (fun f => fvs D (FL D nA t q nA) f (FL D nA t q nA).length) 3).1 (mp J)) : wX9_widest post (some 0) (nI q) t (mp I) := by
  have hA := hs.2.1
  unfold wX9_widest wX9_widest_14
  simp only [m_rc, q_isQ, bI_br, brt (isq_t hq hn h8), m_pI, m_I, p2_same, le00, brT]
  refine q_work (SC_st (SC_0 SC_rfl (by decide)) hs) hw hl fun J h1 h2 h3 h4 => ?_
  have hsc : SC I J := SC_trans (SC_0 SC_rfl (by decide)) (SC_sf h1)
  have hp' := hp J hsc ((h1.2 0 (by decide)).trans p2_same)
  have hfl := FL_len (D := D) (nA := nA) (t := t) (q := q) nA
  have hs' := SC_st hsc hs
  have e7 := hs'.2.2 7 (by decide)
  have hgt : ∀ j, j < (FL D nA t q nA).length → (FL D nA t q nA).getD j 0 < nA := fun j hj => FL_get hj
  generalize FL D nA t q nA = F at *
  have hcl : ∀ f j, fvs D F f j ≤ 31 := fun f j => cnt_le _ 31
  have hw3 := wst_le (c := fun f => fvs D F f F.length) (fun f => hcl f _)
  have h5 : ∀ (K : Option Nat → Int32 → Int32 → Int32 → Pool → Prop) (bs : Int32) (mo f : Nat), mo ≤ 31 → f < 3 → K (some 0) (if mo < fvs D F f F.length then nI f else bs) (nI (if mo < fvs D F f F.length then fvs D F f F.length else mo)) (nI (f + 1)) (mp J) → ∀ k j x, F.length = j + k → (∀ v, v < 31 → (btt x v = true ↔ ∃ k, k < j ∧ D 7 (3 * F.getD k 0 + f) = nI v)) → wX9_widest_55 K post (k + 1) (some 0) bs (nI mo) (nI f) x (nI (fvs D F f j)) (nI j) (mp J) := by
    intro K bs mo f hmo hf hK k
    induction k with
    | zero =>
      intro j x hj hx
      have h31 := hcl f j
      have ej : j = F.length := by omega
      subst ej
      unfold wX9_widest_55
      unfold wX9_widest_133
      simp (disch := first | decide | omega) only [m_I, m_R, m_rc, m_pI, m_aI, m_aZ, m_sI, m_sZ, z01, z11, ix3, ix6, ix250, ix1, ix2, nI_add, nI_clamp, vin, true_and, and_true, or_true, true_or, mN3, mN6, mN7, mN8, mN9, mN10, mN12, mN13, mN14, mN15, mN16, mN17, mN18, mN19, mN20, mN21, mN23, mN24, mN25, mN26, mN33, mN34, mN35, mN37, mN39, mN40, mN41, h4.1, ile, brt (show F.length ≤ F.length by omega), ilt]
      refine brc (fun h => ?_) fun h => ?_
      · rw [if_pos h, if_pos h] at hK; exact hK
      · rw [if_neg h, if_neg h] at hK; exact hK
    | succ k ih =>
      intro j x hj hx
      have hg := hgt j (by omega)
      obtain ⟨w, hw1, hw2⟩ := hw.2.2.2.2.2.2.2 (F.getD j 0) f hg hf
      have hst := fvs_s hw1 hw2 hx
      have ihj := ih (j + 1) _ (by omega) hst.2
      unfold wX9_widest_55
      unfold wX9_widest_100
      simp (disch := first | decide | omega) only [m_I, m_R, m_rc, m_pI, m_aI, m_aZ, m_sI, m_sZ, z01, z11, ix3, ix6, ix250, ix1, ix2, nI_add, nI_clamp, vin, true_and, and_true, or_true, true_or, mN3, mN6, mN7, mN8, mN9, mN10, mN12, mN13, mN14, mN15, mN16, mN17, mN18, mN19, mN20, mN21, mN23, mN24, mN25, mN26, mN33, mN34, mN35, mN37, mN39, mN40, mN41, h4.1, ile, brf (show ¬ F.length ≤ j by omega), h4.2 j (by omega), e7, hw2, b_tst]
      rw [hst.1] at ihj
      refine brc (fun h => ?_) fun h => ?_
      · rw [if_pos h] at ihj
        exact ihj
      · rw [if_neg h] at ihj
        rw [Int32.add_zero]; exact ihj
  have h6 : ∀ k f, 3 = f + k → wX9_widest_40 post (k + 1) (some 0) (wst (fun f => fvs D F f F.length) f).1 (nI (wst (fun f => fvs D F f F.length) f).2) (nI f) (mp J) := by
    intro k
    induction k with
    | zero =>
      intro f hf
      unfold wX9_widest_40
      simp (disch := first | decide | omega) only [m_I, m_R, m_rc, m_pI, m_aI, m_aZ, m_sI, m_sZ, z01, z11, ix3, ix6, ix250, ix1, ix2, nI_add, nI_clamp, vin, true_and, and_true, or_true, true_or, mN3, mN6, mN7, mN8, mN9, mN10, mN12, mN13, mN14, mN15, mN16, mN17, mN18, mN19, mN20, mN21, mN23, mN24, mN25, mN26, mN33, mN34, mN35, mN37, mN39, mN40, mN41, l3le, brt (show 3 ≤ f by omega)]
      rw [show f = 3 by omega]
      exact hp'
    | succ k ih =>
      intro f hf
      have ihf := ih (f + 1) (by omega)
      unfold wX9_widest_40
      simp (disch := first | decide | omega) only [m_I, m_R, m_rc, m_pI, m_aI, m_aZ, m_sI, m_sZ, z01, z11, ix3, ix6, ix250, ix1, ix2, nI_add, nI_clamp, vin, true_and, and_true, or_true, true_or, mN3, mN6, mN7, mN8, mN9, mN10, mN12, mN13, mN14, mN15, mN16, mN17, mN18, mN19, mN20, mN21, mN23, mN24, mN25, mN26, mN33, mN34, mN35, mN37, mN39, mN40, mN41, l3le, brf (show ¬ 3 ≤ f by omega)]
      unfold wst at ihf
      have h7 := h5 (wX9_widest_40 post (k + 1)) (wst (fun f => fvs D F f F.length) f).1 (wst (fun f => fvs D F f F.length) f).2 f (hw3 f) (by omega) (by
        by_cases h : (wst (fun f => fvs D F f F.length) f).2 < fvs D F f F.length
        · rw [if_pos h] at ihf
          rw [if_pos h, if_pos h]; exact ihf
        · rw [if_neg h] at ihf
          rw [if_neg h, if_neg h]; exact ihf) F.length 0 0 (by omega) (fun v hv => by rw [b_zero]; exact ⟨fun z => (by cases z), fun ⟨c, h1, _⟩ => by omega⟩)
      unfold fvs at h7
      rw [cnt_no (fun v _ => fun ⟨c, h1, _⟩ => by omega)] at h7
      exact ⟨_, h7⟩
  exact ⟨_, h6 3 0 rfl⟩
end
