/-! ===== counts, bits, sums ===== -/
theorem cnt_t {p : Nat → Prop} {n : Nat} (h : p n) : cnt p (n + 1) = cnt p n + 1 := by
  show cnt p n + @ite _ (p n) (Classical.propDecidable _) 1 0 = _
  rw [if_pos h]
theorem cnt_f {p : Nat → Prop} {n : Nat} (h : ¬ p n) : cnt p (n + 1) = cnt p n := by
  show cnt p n + @ite _ (p n) (Classical.propDecidable _) 1 0 = _
  rw [if_neg h]; rfl
theorem cnt_le (p : Nat → Prop) : ∀ n, cnt p n ≤ n := by
  intro n
  induction n with
  | zero => exact Nat.le_refl 0
  | succ n ih =>
    by_cases h : p n
    · rw [cnt_t h]; omega
    · rw [cnt_f h]; omega
theorem cnt_cong {p r : Nat → Prop} : ∀ {n : Nat}, (∀ k, k < n → (p k ↔ r k)) → cnt p n = cnt r n := by
  intro n
  induction n with
  | zero => intro _; rfl
  | succ n ih =>
    intro h
    have e := ih fun k hk => h k (by omega)
    by_cases hp : p n
    · rw [cnt_t hp, cnt_t ((h n (by omega)).mp hp), e]
    · rw [cnt_f hp, cnt_f (fun z => hp ((h n (by omega)).mpr z)), e]
theorem cnt_no {p : Nat → Prop} : ∀ {n : Nat}, (∀ k, k < n → ¬ p k) → cnt p n = 0 := by
  intro n
  induction n with
  | zero => intro _; rfl
  | succ n ih =>
    intro h
    rw [cnt_f (h n (by omega)), ih fun k hk => h k (by omega)]
theorem cnt_ins {p : Nat → Prop} {v : Nat} (hv : ¬ p v) : ∀ {n : Nat}, v < n → cnt (fun x => p x ∨ x = v) n = cnt p n + 1 := by
  intro n
  induction n with
  | zero => intro h; omega
  | succ n ih =>
    intro h
    by_cases e : v = n
    · subst e
      rw [cnt_t (p := fun x => p x ∨ x = v) (.inr rfl), cnt_f hv, cnt_cong (r := p)]
      intro k hk
      exact ⟨fun z => z.elim id fun z => by omega, .inl⟩
    · have e2 := ih (by omega)
      by_cases hp : p n
      · rw [cnt_t (p := fun x => p x ∨ x = v) (.inl hp), cnt_t hp, e2]
      · rw [cnt_f (p := fun x => p x ∨ x = v) (fun z => z.elim hp fun z => e z.symm), cnt_f hp, e2]
def btt (x : Int32) (i : Nat) : Bool := x.toBitVec.getLsbD i
theorem nf_shh : ∀ l, l < 32 → ((1 : Int32) <<< (nI l &&& 31)).toBitVec = BitVec.twoPow 32 l := by decide +kernel
theorem nf_tpp : ∀ l, l < 32 → BitVec.twoPow 32 l ≠ 0#32 := by decide +kernel
theorem b_set (x : Int32) {v w : Nat} (hv : v < 32) (hw : w < 32) : btt (x ||| (1 : Int32) <<< (nI w &&& 31)) v = (btt x v || decide (w = v)) := by
  unfold btt
  rw [Int32.toBitVec_or, BitVec.getLsbD_or, nf_shh w hw, BitVec.getLsbD_twoPow]
  simp [hw]
theorem b_tst (x : Int32) {v : Nat} (hv : v < 32) : (x &&& ((1 : Int32) <<< (nI v &&& 31)) = 0) = (btt x v = false) := by
  unfold btt
  rw [← Int32.toBitVec_inj, Int32.toBitVec_and, nf_shh v hv, BitVec.and_twoPow]
  have := nf_tpp v hv
  by_cases h : x.toBitVec.getLsbD v
  · rw [if_pos h]
    refine propext ⟨fun z => absurd z ?_, fun z => by rw [h] at z; cases z⟩
    exact this
  · rw [if_neg h]
    simp only [Bool.not_eq_true] at h
    rw [h]
    exact propext ⟨fun _ => rfl, fun _ => rfl⟩
theorem b_zero (v : Nat) : btt 0 v = false := BitVec.getLsbD_zero
theorem i64add (a b : Int32) : (a.toInt64 + b.toInt64).toInt = a.toInt + b.toInt := by
  rw [Int64.toInt_add, Int32.toInt_toInt64, Int32.toInt_toInt64]
  have h1 := a.toInt_lt
  have h2 := a.le_toInt
  have h3 := b.toInt_lt
  have h4 := b.le_toInt
  exact Int.bmod_eq_of_le (by omega) (by omega)
theorem i32add {a b : Int32} (h1 : -2 ^ 31 ≤ a.toInt + b.toInt) (h2 : a.toInt + b.toInt < 2 ^ 31) : (a + b).toInt = a.toInt + b.toInt := by
  rw [Int32.toInt_add]
  exact Int.bmod_eq_of_le (by omega) (by omega)
theorem i32sub {a b : Int32} (h1 : -2 ^ 31 ≤ a.toInt - b.toInt) (h2 : a.toInt - b.toInt < 2 ^ 31) : (a - b).toInt = a.toInt - b.toInt := by
  rw [Int32.toInt_sub]
  exact Int.bmod_eq_of_le (by omega) (by omega)
theorem lgge (x y : Int64) : (0 ≤ lg_cmp x y) = (y.toInt ≤ x.toInt) := propext ((lg_cmp_ge x y).trans Int64.le_iff_toInt_le)
theorem lggt (x y : Int64) : (0 < lg_cmp x y) = (y.toInt < x.toInt) := propext ((lg_cmp_gt x y).trans Int64.lt_iff_toInt_lt)
theorem i64i (a : Int32) : a.toInt64.toInt = a.toInt := Int32.toInt_toInt64 a
