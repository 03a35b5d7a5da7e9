/-! ===== rows by tick ===== -/
def insT (D : Mem) (a : Nat) (F : List Nat) : List Nat := F.filter (fun x => decide (D 8 x ≤ D 8 a)) ++ a :: F.filter (fun x => decide (D 8 a < D 8 x))
def byT (D : Mem) : Nat → List Nat
  | 0 => []
  | n + 1 => insT D n (byT D n)
def srt (D : Mem) (F : List Nat) : Prop := F.Pairwise (fun x y => D 8 x ≤ D 8 y)
noncomputable def flt (p : Nat → Prop) (F : List Nat) : List Nat := F.filter (fun a => @decide (p a) (Classical.propDecidable _))
theorem flt_mem {p : Nat → Prop} {F : List Nat} {x : Nat} : x ∈ flt p F ↔ x ∈ F ∧ p x := by
  unfold flt
  rw [List.mem_filter]
  simp
theorem insT_mem {D : Mem} {a : Nat} {F : List Nat} {x : Nat} : x ∈ insT D a F ↔ x = a ∨ x ∈ F := by
  unfold insT
  simp only [List.mem_append, List.mem_filter, List.mem_cons, decide_eq_true_eq]
  by_cases h : D 8 x ≤ D 8 a
  · have : ¬ D 8 a < D 8 x := Int32.not_lt.mpr h
    simp [h, this]; exact Or.comm
  · have : D 8 a < D 8 x := Int32.not_le.mp h
    simp [h, this]
theorem insT_len {D : Mem} {a : Nat} : ∀ {F : List Nat}, (insT D a F).length = F.length + 1 := by
  intro F
  unfold insT
  induction F with
  | nil => rfl
  | cons x F ih =>
    simp only [List.filter_cons, List.length_append, List.length_cons] at ih ⊢
    by_cases h : D 8 x ≤ D 8 a
    · have : ¬ D 8 a < D 8 x := Int32.not_lt.mpr h
      simp only [h, this, decide_true, decide_false, if_true, List.length_cons, Bool.false_eq_true, if_false]
      omega
    · have : D 8 a < D 8 x := Int32.not_le.mp h
      simp only [h, this, decide_true, decide_false, if_true, List.length_cons, Bool.false_eq_true, if_false]
      omega
theorem insT_srt {D : Mem} {a : Nat} {F : List Nat} (h : srt D F) : srt D (insT D a F) := by
  unfold srt insT at *
  rw [List.pairwise_append]
  refine ⟨h.sublist List.filter_sublist, ?_, ?_⟩
  · rw [List.pairwise_cons]
    refine ⟨fun y hy => ?_, h.sublist List.filter_sublist⟩
    have := (List.mem_filter.mp hy).2
    simp only [decide_eq_true_eq] at this
    exact Int32.le_of_lt this
  · intro x hx y hy
    have h1 := (List.mem_filter.mp hx).2
    simp only [decide_eq_true_eq] at h1
    rcases List.mem_cons.mp hy with rfl | hy
    · exact h1
    · have h2 := (List.mem_filter.mp hy).2
      simp only [decide_eq_true_eq] at h2
      exact Int32.le_trans h1 (Int32.le_of_lt h2)
theorem byT_len {D : Mem} : ∀ n, (byT D n).length = n := by
  intro n
  induction n with
  | zero => rfl
  | succ n ih => unfold byT; rw [insT_len, ih]
theorem byT_mem {D : Mem} {x : Nat} : ∀ {n}, x ∈ byT D n ↔ x < n := by
  intro n
  induction n with
  | zero => unfold byT; simp
  | succ n ih => unfold byT; rw [insT_mem, ih]; omega
theorem byT_srt {D : Mem} : ∀ n, srt D (byT D n) := by
  intro n
  induction n with
  | zero => exact List.Pairwise.nil
  | succ n ih => exact insT_srt ih
theorem flt_srt {D : Mem} {p : Nat → Prop} {F : List Nat} (h : srt D F) : srt D (flt p F) := h.sublist List.filter_sublist
theorem flt_len {p : Nat → Prop} {F : List Nat} : (flt p F).length ≤ F.length := List.length_filter_le _ _
theorem flt_ins {D : Mem} {p : Nat → Prop} {a : Nat} {F : List Nat} (h : p a) : flt p (insT D a F) = insT D a (flt p F) := by
  unfold flt insT
  rw [List.filter_append, List.filter_cons_of_pos (by simp [h]), List.filter_filter, List.filter_filter, List.filter_filter, List.filter_filter]
  simp only [Bool.and_comm]
theorem srt_split {D : Mem} {a : Nat} : ∀ {F : List Nat}, srt D F → F.filter (fun x => decide (D 8 x ≤ D 8 a)) ++ F.filter (fun x => decide (D 8 a < D 8 x)) = F := by
  intro F
  induction F with
  | nil => intro _; rfl
  | cons x F ih =>
    intro h
    have h2 := List.pairwise_cons.mp h
    have e := ih h2.2
    by_cases hx : D 8 x ≤ D 8 a
    · rw [List.filter_cons_of_pos (by simp [hx]), List.filter_cons_of_neg (by simp [Int32.not_lt.mpr hx]), List.cons_append, e]
    · have hx2 : D 8 a < D 8 x := Int32.not_le.mp hx
      rw [List.filter_eq_nil_iff.mpr, List.filter_eq_self.mpr, List.nil_append]
      · intro y hy
        rcases List.mem_cons.mp hy with rfl | hy
        · simp [hx2]
        · have := h2.1 y hy
          simp only [decide_eq_true_eq]
          rw [Int32.lt_iff_toInt_lt] at *
          rw [Int32.le_iff_toInt_le] at *
          omega
      · intro y hy
        rcases List.mem_cons.mp hy with rfl | hy
        · simp [hx]
        · have := h2.1 y hy
          simp only [decide_eq_true_eq]
          rw [Int32.le_iff_toInt_le] at *
          omega
theorem flt_out {D : Mem} {p : Nat → Prop} {a : Nat} {F : List Nat} (hs : srt D F) (h : ¬ p a) : flt p (insT D a F) = flt p F := by
  unfold flt insT
  rw [List.filter_append, List.filter_cons_of_neg (by simp [h]), ← List.filter_append, srt_split hs]
theorem getD_lt {F : List Nat} {j : Nat} (h : j < F.length) : F.getD j 0 = F[j] := by
  rw [List.getD_eq_getElem?_getD, List.getElem?_eq_getElem h]; rfl
/-- where an insertion ends -/
theorem insT_at {D : Mem} {a to : Nat} {F : List Nat} (hs : srt D F) (ht : to ≤ F.length) (h1 : ∀ j, to ≤ j → j < F.length → D 8 a < D 8 (F.getD j 0)) (h2 : to = 0 ∨ D 8 (F.getD (to - 1) 0) ≤ D 8 a) : insT D a F = F.take to ++ a :: F.drop to := by
  have ht1 : ∀ x, x ∈ F.take to → D 8 x ≤ D 8 a := fun x hx => by
    obtain ⟨i, hi, rfl⟩ := List.mem_iff_getElem.mp hx
    rw [List.length_take] at hi
    rw [List.getElem_take]
    rcases h2 with h2 | h2
    · omega
    · rw [getD_lt (by omega)] at h2
      by_cases e : i = to - 1
      · subst e; exact h2
      · exact Int32.le_trans (List.pairwise_iff_getElem.mp hs i (to - 1) (by omega) (by omega) (by omega)) h2
  have ht2 : ∀ x, x ∈ F.drop to → D 8 a < D 8 x := fun x hx => by
    obtain ⟨i, hi, rfl⟩ := List.mem_iff_getElem.mp hx
    rw [List.length_drop] at hi
    rw [List.getElem_drop]
    have := h1 (to + i) (by omega) (by omega)
    rw [getD_lt (by omega)] at this
    exact this
  have e : F.filter (fun x => decide (D 8 x ≤ D 8 a)) = F.take to := by
    rw [show F.filter (fun x => decide (D 8 x ≤ D 8 a)) = (F.take to ++ F.drop to).filter (fun x => decide (D 8 x ≤ D 8 a)) by rw [List.take_append_drop], List.filter_append, List.filter_eq_self.mpr (fun x hx => by simp [ht1 x hx]), List.filter_eq_nil_iff.mpr (fun x hx => by simp [ht2 x hx]), List.append_nil]
  have e2 : F.filter (fun x => decide (D 8 a < D 8 x)) = F.drop to := by
    rw [show F.filter (fun x => decide (D 8 a < D 8 x)) = (F.take to ++ F.drop to).filter (fun x => decide (D 8 a < D 8 x)) by rw [List.take_append_drop], List.filter_append, List.filter_eq_nil_iff.mpr (fun x hx => by simp [ht1 x hx]), List.filter_eq_self.mpr (fun x hx => by simp [ht2 x hx]), List.nil_append]
  unfold insT
  rw [e, e2]
theorem ins_get {a to : Nat} {F : List Nat} (ht : to ≤ F.length) (j : Nat) : (F.take to ++ a :: F.drop to).getD j 0 = if j < to then F.getD j 0 else if j = to then a else F.getD (j - 1) 0 := by
  simp only [List.getD_eq_getElem?_getD]
  by_cases h1 : j < to
  · rw [if_pos h1, List.getElem?_append_left (by rw [List.length_take]; omega), List.getElem?_take_of_lt h1]
  · rw [if_neg h1, List.getElem?_append_right (by rw [List.length_take]; omega), List.length_take, Nat.min_eq_left ht]
    by_cases h2 : j = to
    · rw [if_pos h2, h2, Nat.sub_self]; rfl
    · rw [if_neg h2]
      obtain ⟨i, rfl⟩ : ∃ i, j = to + i + 1 := ⟨j - to - 1, by omega⟩
      rw [show to + i + 1 - to = i + 1 by omega, List.getElem?_cons_succ, List.getElem?_drop]
      rfl
