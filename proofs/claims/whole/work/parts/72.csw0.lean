/-! ===== the acts by tick: what a pass over them has seen ===== -/
def bef (D : Mem) (x y : Nat) : Prop := D 8 x < D 8 y ∨ (D 8 x = D 8 y ∧ x < y)
def bt (D : Mem) (n k : Nat) : Nat := (byT D n).getD k 0
theorem byT_bef {D : Mem} : ∀ n, (byT D n).Pairwise (bef D) := by
  intro n
  induction n with
  | zero => exact List.Pairwise.nil
  | succ n ih =>
    unfold byT insT
    rw [List.pairwise_append]
    refine ⟨ih.sublist List.filter_sublist, ?_, ?_⟩
    · rw [List.pairwise_cons]
      refine ⟨fun x hx => ?_, ih.sublist List.filter_sublist⟩
      have := (List.mem_filter.mp hx).2
      exact .inl (by simpa using this)
    · intro x hx y hy
      have h1 := List.mem_filter.mp hx
      have h2 : D 8 x ≤ D 8 n := by simpa using h1.2
      rcases List.mem_cons.mp hy with rfl | hy
      · by_cases e : D 8 x = D 8 y
        · exact .inr ⟨e, byT_mem.mp h1.1⟩
        · refine .inl ?_
          rw [Int32.lt_iff_toInt_lt]
          rw [Int32.le_iff_toInt_le] at h2
          have : (D 8 x).toInt ≠ (D 8 y).toInt := fun z => e (Int32.toInt_inj.mp z)
          omega
      · have h3 := (List.mem_filter.mp hy).2
        have h4 : D 8 n < D 8 y := by simpa using h3
        exact .inl (Int32.lt_of_le_of_lt h2 h4)
section
variable {D : Mem} {nA q b ns pf l s p st i j k x y : Nat} {t : Int32} {P : Nat → Prop}
theorem bt_lt (h : k < nA) : bt D nA k < nA := byT_lt h
theorem bt_bef (h : i < j) (hj : j < nA) : bef D (bt D nA i) (bt D nA j) := by
  have hl : (byT D nA).length = nA := byT_len nA
  have h1 := List.pairwise_iff_getElem.mp (byT_bef (D := D) nA) i j (by omega) (by omega) h
  unfold bt
  rw [getD_lt (by omega), getD_lt (by omega)]
  exact h1
theorem bt_le (h : i ≤ j) (hj : j < nA) : D 8 (bt D nA i) ≤ D 8 (bt D nA j) := by
  by_cases e : i = j
  · rw [e]; exact Int32.le_refl _
  · rcases bt_bef (D := D) (show i < j by omega) hj with h | h
    · exact Int32.le_of_lt h
    · rw [h.1]; exact Int32.le_refl _
theorem bt_at (h : x < nA) : ∃ j, j < nA ∧ bt D nA j = x := by
  have h1 : x ∈ byT D nA := byT_mem.mpr h
  obtain ⟨j, hj, e⟩ := List.getElem_of_mem h1
  have hl : (byT D nA).length = nA := byT_len nA
  exact ⟨j, by omega, by unfold bt; rw [getD_lt hj]; exact e⟩
theorem bt_pos (hi : i < nA) (hj : j < nA) (h : D 8 (bt D nA i) < D 8 (bt D nA j)) : i < j := by
  apply Decidable.byContradiction
  intro hc
  exact Int32.not_lt.mpr (bt_le (show j ≤ i by omega) hi) h
theorem flt_take (hk : k < nA) : flt P ((byT D nA).take (k + 1)) = flt P ((byT D nA).take k) ++ @ite _ (P (bt D nA k)) (Classical.propDecidable _) [bt D nA k] [] := by
  have hl : (byT D nA).length = nA := byT_len nA
  rw [List.take_succ_eq_append_getElem (by omega)]
  unfold flt bt
  rw [List.filter_append, getD_lt (show k < (byT D nA).length by omega)]
  by_cases h : P ((byT D nA)[k])
  · rw [if_pos h]; simp [h]
  · rw [if_neg h]; simp [h]
theorem flt_all : flt P ((byT D nA).take nA) = flt P (byT D nA) := by
  rw [List.take_of_length_le (by rw [byT_len]; exact Nat.le_refl _)]
theorem flt_cnt : ∀ n, (flt P (byT D n)).length = cnt P n := by
  intro n
  induction n with
  | zero => rfl
  | succ n ih =>
    unfold byT
    by_cases h : P n
    · rw [flt_ins h, insT_len, ih, cnt_t h]
    · rw [flt_out (byT_srt n) h, ih, cnt_f h]
/-- the last, and the first, of the first k that has P -/
noncomputable def lsB (B : Nat → Nat) (P : Nat → Prop) : Nat → Option Nat
  | 0 => none
  | k + 1 => @ite _ (P (B k)) (Classical.propDecidable _) (some (B k)) (lsB B P k)
noncomputable def frB (B : Nat → Nat) (P : Nat → Prop) : Nat → Option Nat
  | 0 => none
  | k + 1 => match frB B P k with
    | some x => some x
    | none => @ite _ (P (B k)) (Classical.propDecidable _) (some (B k)) none
theorem lsB_t {B : Nat → Nat} (h : P (B k)) : lsB B P (k + 1) = some (B k) := if_pos h
theorem lsB_f {B : Nat → Nat} (h : ¬ P (B k)) : lsB B P (k + 1) = lsB B P k := if_neg h
theorem lsB_some {B : Nat → Nat} : ∀ {k : Nat}, lsB B P k = some x → ∃ j, j < k ∧ x = B j ∧ P x ∧ ∀ i, j < i → i < k → ¬ P (B i) := by
  intro k
  induction k with
  | zero => intro h; unfold lsB at h; cases h
  | succ k ih =>
    intro h
    by_cases e : P (B k)
    · rw [lsB_t e] at h
      cases h
      exact ⟨k, by omega, rfl, e, fun i h1 h2 => by omega⟩
    · rw [lsB_f e] at h
      obtain ⟨j, h1, h2, h3, h4⟩ := ih h
      refine ⟨j, by omega, h2, h3, fun i a1 a2 => ?_⟩
      by_cases e2 : i = k
      · rw [e2]; exact e
      · exact h4 i a1 (by omega)
theorem lsB_none {B : Nat → Nat} : ∀ {k : Nat}, lsB B P k = none → ∀ j, j < k → ¬ P (B j) := by
  intro k
  induction k with
  | zero => intro h j hj; omega
  | succ k ih =>
    intro h j hj
    by_cases e : P (B k)
    · rw [lsB_t e] at h; cases h
    · rw [lsB_f e] at h
      by_cases e2 : j = k
      · rw [e2]; exact e
      · exact ih h j (by omega)
theorem frB_some {B : Nat → Nat} : ∀ {k : Nat}, frB B P k = some x → ∃ j, j < k ∧ x = B j ∧ P x ∧ ∀ i, i < j → ¬ P (B i) := by
  intro k
  induction k with
  | zero => intro h; unfold frB at h; cases h
  | succ k ih =>
    intro h
    unfold frB at h
    cases e : frB B P k with
    | some z =>
      rw [e] at h
      cases h
      obtain ⟨j, h1, h2⟩ := ih e
      exact ⟨j, by omega, h2⟩
    | none =>
      rw [e] at h
      by_cases e2 : P (B k)
      · simp only [if_pos e2] at h
        cases h
        refine ⟨k, by omega, rfl, e2, fun i hi => ?_⟩
        have hn : ∀ k, frB B P k = none → ∀ i, i < k → ¬ P (B i) := by
          intro k
          induction k with
          | zero => intro _ i hi; omega
          | succ k ih2 =>
            intro h i hi
            unfold frB at h
            cases e3 : frB B P k with
            | some z => rw [e3] at h; cases h
            | none =>
              rw [e3] at h
              by_cases e4 : P (B k)
              · simp only [if_pos e4] at h; cases h
              · by_cases e5 : i = k
                · rw [e5]; exact e4
                · exact ih2 e3 i (by omega)
        exact hn k e i hi
      · simp only [if_neg e2] at h; cases h
def otd (D : Mem) (d : Int32) (o : Option Nat) : Int32 := match o with
  | none => d
  | some x => D 8 x
def NT (D : Mem) (q ns r c : Nat) : Prop := ∃ n, n < ns ∧ ¬ D 14 (6 * q + n) = 0 ∧ rk D q n = r ∧ FT0 D q n c
theorem EN_iff : EN D nA t q s b ↔ D 14 (6 * q + s) = 0 ∧ FT D nA t q s b ∧ ∀ p, bfr D q s = some p → ∃ a, a < nA ∧ EN D nA t q p a ∧ LD D nA t q p a s b := by
  unfold EN
  rw [ET]
  show (if s = s then _ else ET D nA t q s s b) ↔ _
  rw [if_pos rfl]
  constructor
  · rintro ⟨h1, h2, h3⟩
    refine ⟨h1, h2, fun p hp => ?_⟩
    obtain ⟨a, a1, a2, a3⟩ := h3 p hp
    exact ⟨a, a1, (ET_EN (bfr_lt hp).1).mp a2, a3⟩
  · rintro ⟨h1, h2, h3⟩
    refine ⟨h1, h2, fun p hp => ?_⟩
    obtain ⟨a, a1, a2, a3⟩ := h3 p hp
    exact ⟨a, a1, (ET_EN (bfr_lt hp).1).mpr a2, a3⟩
theorem EN_FT (h : EN D nA t q s b) : FT D nA t q s b := (EN_iff.mp h).2.1
theorem EN_kn (h : EN D nA t q s b) : D 9 b ≤ t := (EN_FT h).1
theorem rk_mono : ∀ {m n : Nat}, m ≤ n → rk D q m ≤ rk D q n := by
  intro m n h
  induction h with
  | refl => exact Nat.le_refl _
  | step _ ih =>
    refine Nat.le_trans ih ?_
    unfold rk
    rw [cnt]
    omega
theorem rk_t (h : D 14 (6 * q + s) = 0) : rk D q (s + 1) = rk D q s + 1 := cnt_t (p := fun k => D 14 (6 * q + k) = 0) h
theorem rk_f (h : ¬ D 14 (6 * q + s) = 0) : rk D q (s + 1) = rk D q s := cnt_f (p := fun k => D 14 (6 * q + k) = 0) h
theorem bfr_between : ∀ {s}, bfr D q s = some p → ∀ n, p < n → n < s → ¬ D 14 (6 * q + n) = 0 := by
  intro s
  induction s with
  | zero => intro h; unfold bfr at h; cases h
  | succ s ih =>
    intro h n h1 h2
    unfold bfr at h
    by_cases e : D 14 (6 * q + s) = 0
    · rw [if_pos e] at h; cases h; omega
    · rw [if_neg e] at h
      by_cases e2 : n = s
      · rw [e2]; exact e
      · exact ih h n h1 (by omega)
theorem bfr_none : ∀ {s}, bfr D q s = none → ∀ n, n < s → ¬ D 14 (6 * q + n) = 0 := by
  intro s
  induction s with
  | zero => intro h n hn; omega
  | succ s ih =>
    intro h n h2
    unfold bfr at h
    by_cases e : D 14 (6 * q + s) = 0
    · rw [if_pos e] at h; cases h
    · rw [if_neg e] at h
      by_cases e2 : n = s
      · rw [e2]; exact e
      · exact ih h n (by omega)
theorem NT_iff (hs : D 14 (6 * q + s) = 0) (hp : bfr D q s = some p) (hn : s < ns) {c : Nat} : NT D q ns (rk D q s) c ↔ ∃ n, p < n ∧ n < s ∧ FT0 D q n c := by
  have hr := rk_s hp
  constructor
  · rintro ⟨n, h1, h2, h3, h4⟩
    refine ⟨n, ?_, ?_, h4⟩
    · apply Decidable.byContradiction
      intro hc
      have := rk_mono (D := D) (q := q) (show n ≤ p by omega)
      omega
    · apply Decidable.byContradiction
      intro hc
      by_cases e : n = s
      · rw [e] at h2; exact h2 hs
      · have := rk_mono (D := D) (q := q) (show s + 1 ≤ n by omega)
        rw [rk_t hs] at this
        omega
  · rintro ⟨n, h1, h2, h4⟩
    refine ⟨n, by omega, bfr_between hp n h1 h2, ?_, h4⟩
    have a1 := rk_mono (D := D) (q := q) (show p + 1 ≤ n by omega)
    have a2 := rk_mono (D := D) (q := q) (show n ≤ s by omega)
    rw [rk_t (bfr_lt hp).2] at a1
    omega
/-- what a question promises of itself -/
def QV (D : Mem) (nA q b ns pf l : Nat) : Prop := WQ D nA q b ns pf ∧ bfr D q ns = some l ∧ D 14 (6 * q) = 0 ∧ (∀ s, s < ns → (D 14 (6 * q + s) = 0 ∨ D 14 (6 * q + s) = 1) ∧ (¬ D 14 (6 * q + s) = 0 → D 17 (6 * q + s) = 0) ∧ (D 18 (6 * q + s) = -1 ∨ ∃ w, D 18 (6 * q + s) = nI w ∧ w ≤ 100000)) ∧ (∀ n, l < n → n < ns → ¬ D 18 (6 * q + n) = -1) ∧ (D 19 q = -1 ∨ ∃ w, D 19 q = nI pf ∧ D 21 q = nI w ∧ w ≤ 100000)
theorem QV_FT {nw c : Nat} (h : QV D nA q b ns pf l) (hs : s < ns) (hn : ¬ D 14 (6 * q + s) = 0) : FT D nA t q s c ↔ D 9 c ≤ t ∧ FT0 D q s c := by
  have h1 := (h.2.2.2.1 s hs).2.1 hn
  unfold FT
  constructor
  · rintro ⟨a, b, _⟩; exact ⟨a, b⟩
  · rintro ⟨a, b⟩; exact ⟨a, b, .inl h1⟩
/-- the class's test for an act ahead -/
def AH (D : Mem) (q s b x : Nat) (ln : Option Nat) : Prop := ¬ D 8 x < otd D (-1) ln ∧ (D 18 (6 * q + s) = -1 ∨ D 8 b - D 8 x ≤ D 18 (6 * q + s))
theorem tk_toInt {nw : Nat} (h : WA D nA nw) (hx : x < nA) : 0 ≤ (D 8 x).toInt ∧ (D 8 x).toInt ≤ 1000000 := by
  obtain ⟨h1, h2, h3⟩ := h
  obtain ⟨a1, a2, a3, a4, _⟩ := h3 x hx
  rw [a1, nI_toInt (by omega)]
  omega
theorem AH_ok {nw : Nat} (hW : WA D nA nw) (hQ : QV D nA q b ns pf l) (hs : s < ns) (hs0 : D 14 (6 * q + s) = 0) (hp : bfr D q s = some p) (hi : i < nA) (hst : ∀ j, j < nA → (j < st ↔ D 8 (bt D nA j) < D 8 (bt D nA i))) (ho : lsB (bt D nA) (fun a => EN D nA t q p a ∧ vl D q a = vl D q (bt D nA i)) st = some x) (ha : AH D q s (bt D nA i) x (lsB (bt D nA) (fun c => D 9 c ≤ t ∧ NT D q ns (rk D q s) c ∧ vl D q c = vl D q (bt D nA i)) st)) : BS D nA t q p s (bt D nA i) x := by
  have hsn : st ≤ i := by
    apply Decidable.byContradiction
    intro hc
    have := (hst i hi).mp (by omega)
    exact Int32.lt_irrefl this
  obtain ⟨j, hj, rfl, ⟨hx1, hx2⟩, hx3⟩ := lsB_some ho
  have hjA : j < nA := by omega
  have hlt := (hst j hjA).mp hj
  have hxb := tk_toInt hW (bt_lt (D := D) hjA)
  refine ⟨bt_lt hjA, hx1, ⟨hx2, hlt, ha.2, fun n h1 h2 c hc hcc => ?_⟩, fun c hc hc1 hc2 => ?_⟩
  · obtain ⟨c1, c2, c3, c4⟩ := hcc
    obtain ⟨jc, hjc, rfl⟩ := bt_at (D := D) hc
    have hjs := (hst jc hjc).mpr c4
    have hnn := bfr_between hp n h1 h2
    rw [QV_FT (nw := nw) hQ (by omega) hnn] at c1
    cases hl : lsB (bt D nA) (fun c => D 9 c ≤ t ∧ NT D q ns (rk D q s) c ∧ vl D q c = vl D q (bt D nA i)) st with
    | none => exact lsB_none hl jc hjs ⟨c1.1, (NT_iff hs0 hp hs).mpr ⟨n, h1, h2, c1.2⟩, c2⟩
    | some y =>
      rw [hl] at ha
      obtain ⟨jy, hjy, rfl, _, hy3⟩ := lsB_some hl
      have h4 : jc ≤ jy := by
        apply Decidable.byContradiction
        intro hcn
        exact hy3 jc (by omega) hjs ⟨c1.1, (NT_iff hs0 hp hs).mpr ⟨n, h1, h2, c1.2⟩, c2⟩
      have h5 := bt_le (D := D) h4 (by omega : jy < nA)
      exact ha.1 (Int32.lt_of_lt_of_le c3 h5)
  · obtain ⟨jc, hjc, rfl⟩ := bt_at (D := D) hc
    have hjs := (hst jc hjc).mpr hc2.2.1
    have h4 : jc ≤ j := by
      apply Decidable.byContradiction
      intro hcn
      exact hx3 jc (by omega) hjs ⟨hc1, hc2.1⟩
    by_cases e : jc = j
    · rw [e]; exact .inr ⟨rfl, Nat.le_refl _⟩
    · rcases bt_bef (D := D) (show jc < j by omega) hjA with h | h
      · exact .inl h
      · exact .inr ⟨h.1, Nat.le_of_lt h.2⟩
theorem AH_ex {nw : Nat} (hW : WA D nA nw) (hQ : QV D nA q b ns pf l) (hs : s < ns) (hs0 : D 14 (6 * q + s) = 0) (hp : bfr D q s = some p) (hi : i < nA) (hst : ∀ j, j < nA → (j < st ↔ D 8 (bt D nA j) < D 8 (bt D nA i))) (ha : ∃ a, a < nA ∧ EN D nA t q p a ∧ LD D nA t q p a s (bt D nA i)) : ∃ x, lsB (bt D nA) (fun a => EN D nA t q p a ∧ vl D q a = vl D q (bt D nA i)) st = some x ∧ AH D q s (bt D nA i) x (lsB (bt D nA) (fun c => D 9 c ≤ t ∧ NT D q ns (rk D q s) c ∧ vl D q c = vl D q (bt D nA i)) st) := by
  have hsn : st ≤ i := by
    apply Decidable.byContradiction
    intro hc
    have := (hst i hi).mp (by omega)
    exact Int32.lt_irrefl this
  obtain ⟨a, a1, a2, a3, a4, a5, a6⟩ := ha
  obtain ⟨ja, hja, rfl⟩ := bt_at (D := D) a1
  have hjs := (hst ja hja).mpr a4
  cases ho : lsB (bt D nA) (fun a => EN D nA t q p a ∧ vl D q a = vl D q (bt D nA i)) st with
  | none => exact absurd ⟨a2, a3⟩ (lsB_none ho ja hjs)
  | some x =>
    refine ⟨x, rfl, ?_⟩
    obtain ⟨j, hj, rfl, ⟨hx1, hx2⟩, hx3⟩ := lsB_some ho
    have h4 : ja ≤ j := by
      apply Decidable.byContradiction
      intro hcn
      exact hx3 ja (by omega) hjs ⟨a2, a3⟩
    have hle := bt_le (D := D) h4 (by omega : j < nA)
    have hlt := (hst j (by omega)).mp hj
    have b1 := tk_toInt hW (bt_lt (D := D) hja)
    have b2 := tk_toInt hW (bt_lt (D := D) (show j < nA by omega))
    have b3 := tk_toInt hW (bt_lt (D := D) hi)
    refine ⟨fun hc => ?_, ?_⟩
    · cases hl : lsB (bt D nA) (fun c => D 9 c ≤ t ∧ NT D q ns (rk D q s) c ∧ vl D q c = vl D q (bt D nA i)) st with
      | none =>
        rw [hl] at hc
        have hc : D 8 (bt D nA j) < (-1 : Int32) := hc
        rw [Int32.lt_iff_toInt_lt] at hc
        have : (-1 : Int32).toInt = -1 := by decide
        omega
      | some y =>
        rw [hl] at hc
        obtain ⟨jy, hjy, rfl, ⟨y1, y2, y3⟩, _⟩ := lsB_some hl
        obtain ⟨n, n1, n2, n3⟩ := (NT_iff hs0 hp hs).mp y2
        have hnn := bfr_between hp n n1 n2
        refine a6 n n1 n2 (bt D nA jy) (bt_lt (by omega)) ⟨(QV_FT (nw := nw) hQ (by omega) hnn).mpr ⟨y1, n3⟩, y3, Int32.lt_of_le_of_lt hle hc, (hst jy (by omega)).mp hjy⟩
    · rcases a5 with h | h
      · exact .inl h
      · refine .inr (Int32.le_trans ?_ h)
        rw [Int32.le_iff_toInt_le] at hle ⊢
        rw [Int32.lt_iff_toInt_lt] at hlt a4
        rw [i32sub (by omega) (by omega), i32sub (by omega) (by omega)]
        omega
end
