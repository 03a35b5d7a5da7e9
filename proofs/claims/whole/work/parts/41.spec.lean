/-! ===== what the reference computes, over its rows ===== -/
theorem mN3 : mN 3 = 4 := rfl
theorem mN6 : mN 6 = 250 := rfl
theorem mN7 : mN 7 = 750 := rfl
theorem mN8 : mN 8 = 250 := rfl
theorem mN9 : mN 9 = 250 := rfl
theorem mN10 : mN 10 = 250 := rfl
theorem mN12 : mN 12 = 9 := rfl
theorem mN13 : mN 13 = 9 := rfl
theorem mN14 : mN 14 = 54 := rfl
theorem mN15 : mN 15 = 54 := rfl
theorem mN16 : mN 16 = 162 := rfl
theorem mN17 : mN 17 = 54 := rfl
theorem mN18 : mN 18 = 54 := rfl
theorem mN19 : mN 19 = 9 := rfl
theorem mN20 : mN 20 = 9 := rfl
theorem mN21 : mN 21 = 9 := rfl
theorem mN23 : mN 23 = 40 := rfl
theorem mN24 : mN 24 = 40 := rfl
theorem mN25 : mN 25 = 40 := rfl
theorem mN26 : mN 26 = 400 := rfl
theorem mN33 : mN 33 = 1500 := rfl
theorem mN34 : mN 34 = 1500 := rfl
theorem mN35 : mN 35 = 6 := rfl
theorem mN37 : mN 37 = 250 := rfl
theorem mN39 : mN 39 = 2000 := rfl
theorem mN40 : mN 40 = 2000 := rfl
theorem mN41 : mN 41 = 2000 := rfl

def scs : List Nat := [6, 7, 8, 9, 12, 13, 14, 15, 16, 17, 18, 19, 20, 21]
/-- I has nA acts and its told rows are D's -/
def ST (I D : Mem) (nA : Nat) : Prop := I 0 4 = nI nA ∧ nA ≤ 250 ∧ ∀ c, c ∈ scs → I c = D c
/-- before: the last step ahead of s without not, or -1 -/
def bfr (D : Mem) (q : Nat) : Nat → Option Nat
  | 0 => none
  | s + 1 => if D 14 (6 * q + s) = 0 then some s else bfr D q s
def oI (o : Option Nat) : Int32 := match o with
  | none => -1
  | some s => nI s
/-- a fits step s of q as known at t, but for first -/
def FT0 (D : Mem) (q s a : Nat) : Prop := D 6 a = D 15 (6 * q + s) ∧ ∀ f, f < 3 → D 16 (3 * (6 * q + s) + f) = -1 ∨ D 16 (3 * (6 * q + s) + f) = D 7 (3 * a + f)
def alk (D : Mem) (a b : Nat) : Prop := D 6 b = D 6 a ∧ D 7 (3 * b) = D 7 (3 * a) ∧ D 7 (3 * b + 1) = D 7 (3 * a + 1)
def FT (D : Mem) (nA : Nat) (t : Int32) (q s a : Nat) : Prop := D 9 a ≤ t ∧ FT0 D q s a ∧ (D 17 (6 * q + s) = 0 ∨ ∀ b, b < nA → ¬ (D 9 b ≤ t ∧ alk D a b ∧ D 8 b < D 8 a))
def vl (D : Mem) (q a : Nat) : Int32 := D 7 (3 * a + (D 12 q).toNatClampNeg)
def LD (D : Mem) (nA : Nat) (t : Int32) (q p a s b : Nat) : Prop := vl D q a = vl D q b ∧ D 8 a < D 8 b ∧ (D 18 (6 * q + s) = -1 ∨ D 8 b - D 8 a ≤ D 18 (6 * q + s)) ∧ ∀ n, p < n → n < s → ∀ c, c < nA → ¬ (FT D nA t q n c ∧ vl D q c = vl D q b ∧ D 8 a < D 8 c ∧ D 8 c < D 8 b)
/-- the table of ends behind k steps -/
def ET (D : Mem) (nA : Nat) (t : Int32) (q : Nat) : Nat → Nat → Nat → Prop
  | 0 => fun _ _ => False
  | k + 1 => fun s b => if s = k then (D 14 (6 * q + k) = 0 ∧ FT D nA t q k b ∧ ∀ p, bfr D q k = some p → ∃ a, a < nA ∧ ET D nA t q k p a ∧ LD D nA t q p a k b) else ET D nA t q k s b
def EN (D : Mem) (nA : Nat) (t : Int32) (q s b : Nat) : Prop := ET D nA t q (s + 1) s b
def QB (D : Mem) (nA : Nat) (t : Int32) (q l a : Nat) : Prop := ∀ n, l < n → n < (D 13 q).toNatClampNeg → (D 8 a).toInt + (D 18 (6 * q + n)).toInt ≤ t.toInt ∧ ∀ c, c < nA → ¬ (FT D nA t q n c ∧ vl D q c = vl D q a ∧ D 8 a < D 8 c ∧ (D 8 c).toInt ≤ (D 8 a).toInt + (D 18 (6 * q + n)).toInt)
/-- the c's that count for a's spread, and of value v -/
def SPc (D : Mem) (nA : Nat) (t : Int32) (q l a c : Nat) : Prop := FT D nA t q l c ∧ vl D q c = vl D q a ∧ D 8 c ≤ D 8 a ∧ D 8 a - D 21 q < D 8 c
noncomputable def cnt (p : Nat → Prop) : Nat → Nat
  | 0 => 0
  | n + 1 => cnt p n + @ite _ (p n) (Classical.propDecidable _) 1 0
def SP (D : Mem) (nA : Nat) (t : Int32) (q l a : Nat) : Prop := D 19 q = -1 ∨ D 20 q ≤ nI (cnt (fun v => ∃ c, c < nA ∧ SPc D nA t q l a c ∧ D 7 (3 * c + (D 19 q).toNatClampNeg) = nI v) 31)
def FD (D : Mem) (nA : Nat) (t : Int32) (q a : Nat) : Prop := ∃ l, bfr D q (D 13 q).toNatClampNeg = some l ∧ EN D nA t q l a ∧ QB D nA t q l a ∧ SP D nA t q l a

theorem ixsub (a : Int32) : a + (-1) = a - 1 := by rw [Int32.sub_eq_add_neg]
theorem brc {c A B : Prop} (h1 : c → A) (h2 : ¬ c → B) : br c A B := ⟨h1, h2⟩
noncomputable def bI (p : Prop) : Int32 := @ite _ p (Classical.propDecidable p) 1 0
theorem bI_t {p : Prop} (h : p) : bI p = 1 := by unfold bI; exact if_pos h
theorem bI_f {p : Prop} (h : ¬ p) : bI p = 0 := by unfold bI; exact if_neg h
theorem bI_0 {p : Prop} : (bI p = 0) = ¬ p := by
  by_cases h : p
  · rw [bI_t h]; simp [h]
  · rw [bI_f h]; simp [h]
theorem bI_1 {p : Prop} : (bI p = 1) = p := by
  by_cases h : p
  · rw [bI_t h]; simp [h]
  · rw [bI_f h]; simp [h]
theorem bI_01 {p : Prop} : (bI p = 0 ∨ bI p = 1) = True := by
  by_cases h : p
  · rw [bI_t h]; simp
  · rw [bI_f h]; simp
theorem bI_br {p A B : Prop} : br (bI p = 0) A B = br p B A := by
  rw [bI_0]
  by_cases h : p <;> simp [br, h]

theorem l3le {f : Nat} (h : f < 2 ^ 31) : ((3 : Int32) ≤ nI f) = (3 ≤ f) := ile (a := 3) (by decide) h
theorem lle0 {f : Nat} (h : f < 2 ^ 31) : (nI f ≤ (0 : Int32)) = (f ≤ 0) := ile (b := 0) h (by decide)
theorem llt0 {f : Nat} (h : f < 2 ^ 31) : (nI f < (0 : Int32)) = False := eq_false (nI_pos h)
theorem l0le {f : Nat} (h : f < 2 ^ 31) : ((0 : Int32) ≤ nI f) = True := eq_true (nI_pos' h)
theorem c00 : ((0 : Int32) = 0) = True := by simp
theorem c10 : ((1 : Int32) = 0) = False := by simp
theorem brT {A B : Prop} : br True A B = A := brt trivial
theorem brF {A B : Prop} : br False A B = B := brf id
