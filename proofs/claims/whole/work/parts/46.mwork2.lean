/-! ===== work ===== -/
def SF (I J : Mem) : Prop := (∀ c, c ≠ 0 → c ≠ 33 → c ≠ 34 → c ≠ 37 → J c = I c) ∧ ∀ k, k ≠ 36 → J 0 k = I 0 k
theorem SF_rfl {I : Mem} : SF I I := ⟨fun _ _ _ _ _ => rfl, fun _ _ => rfl⟩
theorem SF_st {I J D : Mem} {nA : Nat} (h : SF I J) (hs : ST I D nA) : ST J D nA := ⟨(h.2 4 (by decide)).trans hs.1, hs.2.1, fun c hc => by
  have h4 : ∀ c, c ∈ scs → c ≠ 0 ∧ c ≠ 33 ∧ c ≠ 34 ∧ c ≠ 37 := by decide
  obtain ⟨a1, a2, a3, a4⟩ := h4 c hc
  exact (h.1 c a1 a2 a3 a4).trans (hs.2.2 c hc)⟩
theorem SF_p {I J : Mem} {c k : Nat} {v : Int32} (h : SF I J) (hc : c = 33 ∨ c = 34 ∨ c = 37) : SF I (p2 J c k v) := by
  refine ⟨fun d h0 h1 h2 h3 => ?_, fun k hk => ?_⟩
  · rw [p2_ne (by omega)]; exact h.1 d h0 h1 h2 h3
  · rw [p2_ne (by omega)]; exact h.2 k hk
theorem SF_36 {I J : Mem} {v : Int32} (h : SF I J) : SF I (p2 J 0 36 v) := by
  refine ⟨fun d h0 h1 h2 h3 => ?_, fun k hk => ?_⟩
  · rw [p2_ne h0]; exact h.1 d h0 h1 h2 h3
  · rw [p2_row hk]; exact h.2 k hk
section
variable {I0 D : Mem} {nA q b ns pf : Nat} {t : Int32}
/-- what the state owes for q -/
def WQ (D : Mem) (nA q b ns pf : Nat) : Prop := q < 9 ∧ b < 3 ∧ D 12 q = nI b ∧ ns ≤ 6 ∧ D 13 q = nI ns ∧ (D 19 q = -1 ∨ D 19 q = nI pf) ∧ pf < 3 ∧ ∀ c f, c < nA → f < 3 → ∃ v, v < 31 ∧ D 7 (3 * c + f) = nI v
theorem ET_ge {s x : Nat} : ∀ {k : Nat}, k ≤ s → ¬ ET D nA t q k s x := by
  intro k
  induction k with
  | zero => intro _ h; exact h
  | succ k ih =>
    intro h1 h
    unfold ET at h
    rw [if_neg (by omega)] at h
    exact ih (by omega) h
theorem ET_EN {k s x : Nat} : s < k → (ET D nA t q k s x ↔ EN D nA t q s x) := by
  induction k with
  | zero => intro h; omega
  | succ k ih =>
    intro h
    by_cases e : s = k
    · subst e; exact Iff.rfl
    · rw [show ET D nA t q (k + 1) s x = ET D nA t q k s x by conv => lhs; unfold ET; rw [if_neg e]]
      exact ih (by omega)
theorem bfr_lt {s p : Nat} : bfr D q s = some p → p < s ∧ D 14 (6 * q + p) = 0 := by
  induction s with
  | zero => intro h; cases h
  | succ s ih =>
    intro h
    unfold bfr at h
    by_cases e : D 14 (6 * q + s) = 0
    · rw [if_pos e] at h; cases h; exact ⟨by omega, e⟩
    · rw [if_neg e] at h
      have := ih h
      exact ⟨by omega, this.2⟩
/-- the find row holds the list F -/
def LR (I : Mem) (F : List Nat) : Prop := I 0 36 = nI F.length ∧ ∀ i, i < F.length → I 37 i = nI (F.getD i 0)
noncomputable def FL (D : Mem) (nA : Nat) (t : Int32) (q n : Nat) : List Nat := flt (FD D nA t q) (byT D n)
theorem FL_s (n : Nat) (h : FD D nA t q n) : FL D nA t q (n + 1) = insT D n (FL D nA t q n) := by
  show flt _ (insT D n (byT D n)) = _
  rw [flt_ins h]; rfl
theorem FL_n (n : Nat) (h : ¬ FD D nA t q n) : FL D nA t q (n + 1) = FL D nA t q n := by
  show flt _ (insT D n (byT D n)) = _
  rw [flt_out (byT_srt n) h]; rfl
theorem FL_len (n : Nat) : (FL D nA t q n).length ≤ n := by
  have := flt_len (p := FD D nA t q) (F := byT D n)
  rw [byT_len] at this
  exact this
theorem FL_lt {n x : Nat} (h : x ∈ FL D nA t q n) : x < n := byT_mem.mp (flt_mem.mp h).1
theorem FL_get {n i : Nat} (h : i < (FL D nA t q n).length) : (FL D nA t q n).getD i 0 < n := by
  rw [getD_lt h]; exact FL_lt (List.getElem_mem h)
/-- the insertion of a into the find row -/
theorem q_ins {post : Pool → Prop} {K : Option Nat → Int32 → Int32 → Int32 → Int32 → Pool → Prop} {a l : Nat} {F : List Nat} (hF : srt D F) (hFn : ∀ x, x ∈ F → x < nA) (hFl : F.length < nA) (ha : a < nA) (hp : ∀ J, SF I0 J → J 33 = I0 33 → J 34 = I0 34 → LR J (insT D a F) → K (some 0) (nI q) t (nI l) (nI (a + 1)) (mp J)) (hs : ST I0 D nA) (hL : I0 0 36 = nI F.length) : ∀ to I, SF I0 I → I 33 = I0 33 → I 34 = I0 34 → I 0 36 = I0 0 36 → to ≤ F.length → (∀ j, to ≤ j → j < F.length → D 8 a < D 8 (F.getD j 0)) → (∀ i, i < to → I 37 i = nI (F.getD i 0)) → (∀ i, to < i → i ≤ F.length → I 37 i = nI (F.getD (i - 1) 0)) → wX9_work_331 K post (to + 1) (some 0) (nI q) t (nI l) (nI a) (nI to) (mp I) := by
  have hA := hs.2.1
  have hfin : ∀ to I, SF I0 I → I 33 = I0 33 → I 34 = I0 34 → I 0 36 = I0 0 36 → to ≤ F.length → (∀ j, to ≤ j → j < F.length → D 8 a < D 8 (F.getD j 0)) → (∀ i, i < to → I 37 i = nI (F.getD i 0)) → (∀ i, to < i → i ≤ F.length → I 37 i = nI (F.getD (i - 1) 0)) → (to = 0 ∨ D 8 (F.getD (to - 1) 0) ≤ D 8 a) → wX9_work_382 K post (some 0) (nI q) t (nI l) (nI a) (nI to) (mp I) := by
    intro to I hS h33 h34 h36 ht h1 h2 h3 h4
    unfold wX9_work_382
    unfold wX9_work_401
    simp (disch := first | decide | omega) only [m_I, m_R, m_rc, m_pI, m_aI, m_aZ, m_sI, m_sZ, z01, z11, ix3, ix6, ix250, ix1, ix2, nI_add, nI_clamp, vin, true_and, and_true, or_true, true_or, mN3, mN6, mN7, mN8, mN9, mN10, mN12, mN13, mN14, mN15, mN16, mN17, mN18, mN19, mN20, mN21, mN23, mN24, mN25, mN26, mN33, mN34, mN35, mN37, mN39, mN40, mN41, p2_ne, h36, hL]
    refine hp _ (SF_36 (SF_p hS (by omega))) ?_ ?_ ?_
    · rw [p2_ne (by omega), p2_ne (by omega), h33]
    · rw [p2_ne (by omega), p2_ne (by omega), h34]
    · rw [insT_at hF ht h1 h4]
      have hlen : (F.take to ++ a :: F.drop to).length = F.length + 1 := by
        rw [List.length_append, List.length_take, List.length_cons, List.length_drop]; omega
      refine ⟨by rw [p2_same, hlen], fun i hi => ?_⟩
      rw [hlen] at hi
      rw [p2_ne (by omega), ins_get ht]
      by_cases e1 : i < to
      · rw [if_pos e1, p2_row (by omega), h2 i e1]
      · rw [if_neg e1]
        by_cases e2 : i = to
        · rw [if_pos e2, e2, p2_same]
        · rw [if_neg e2, p2_row e2, h3 i (by omega) (by omega)]
  intro to
  induction to with
  | zero =>
    intro I hS h33 h34 h36 ht h1 h2 h3
    unfold wX9_work_331
    rw [brt (by decide)]
    exact hfin 0 I hS h33 h34 h36 ht h1 h2 h3 (.inl rfl)
  | succ to ih =>
    intro I hS h33 h34 h36 ht h1 h2 h3
    have e8 := (SF_st hS hs).2.2 8 (by decide)
    have hg : F.getD to 0 < nA := by rw [getD_lt (by omega)]; exact hFn _ (List.getElem_mem _)
    unfold wX9_work_331
    rw [brf (nI_nle (by omega) (by omega))]
    simp (disch := first | decide | omega) only [m_I, m_R, m_rc, m_pI, m_aI, m_aZ, m_sI, m_sZ, z01, z11, ix3, ix6, ix250, ix1, ix2, nI_add, nI_clamp, vin, true_and, and_true, or_true, true_or, mN3, mN6, mN7, mN8, mN9, mN10, mN12, mN13, mN14, mN15, mN16, mN17, mN18, mN19, mN20, mN21, mN23, mN24, mN25, mN26, mN33, mN34, mN35, mN37, mN39, mN40, mN41, e8, nI_pred, h2 to (by omega)]
    refine brc (fun h => hfin (to + 1) I hS h33 h34 h36 ht h1 h2 h3 (.inr h)) fun h => ?_
    rw [ixsub, nI_pred]
    refine ih _ (SF_p hS (by omega)) (by rw [p2_ne (by omega), h33]) (by rw [p2_ne (by omega), h34]) (by rw [p2_ne (by omega), h36]) (by omega) (fun j hj1 hj2 => ?_) (fun i hi => ?_) (fun i hi1 hi2 => ?_)
    · by_cases e : j = to
      · rw [e]; exact Int32.not_le.mp h
      · exact h1 j (by omega) hj2
    · rw [p2_row (by omega)]; exact h2 i (by omega)
    · by_cases e : i = to + 1
      · rw [e, p2_same]; rfl
      · rw [p2_row e]; exact h3 i (by omega) hi2
end
