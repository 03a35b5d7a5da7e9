/-! ===== the reference's pool by codes: 0 the object, an array by its field's number ===== -/
def mar : List Nat := [3, 6, 7, 8, 9, 10, 12, 13, 14, 15, 16, 17, 18, 19, 20, 21, 23, 24, 25, 26, 33, 34, 35, 37, 39, 40, 41]
def mK (c : Nat) : Nat := if c = 0 then 9 else if c ∈ [14, 17, 33, 34] then 11 else 10
def mN (c : Nat) : Nat := if c = 3 then 4 else if c = 7 then 750 else if c ∈ [12, 13, 19, 20, 21] then 9 else if c ∈ [14, 15, 17, 18] then 54 else if c = 16 then 162 else if c ∈ [23, 24, 25] then 40 else if c = 26 then 400 else if c ∈ [33, 34] then 1500 else if c = 35 then 6 else if c ∈ [39, 40, 41] then 2000 else if c = 0 then 0 else 250
def mR (c k : Nat) : Option Nat := if c = 0 then (if k ∈ mar then some k else none) else none
abbrev Mem : Type := Nat → Nat → Int32
def mp (I : Mem) : Pool := (0 :: mar, mK, mN, mR, I, fun _ _ => 0)
section
variable {I : Mem} {k c : Nat} {i v : Int32}
theorem br_eq {c A B : Prop} : br c A B = ((c → A) ∧ (¬ c → B)) := rfl
theorem br_if {c A B : Prop} [Decidable c] : br c A B = (if c then A else B) := by
  unfold br
  by_cases h : c <;> simp [h]
theorem brt {c A B : Prop} (h : c) : br c A B = A := by simp [br, h]
theorem brf {c A B : Prop} (h : ¬ c) : br c A B = B := by simp [br, h]
theorem m_I {K : Int32 → Prop} : xI (mp I) (some 0) 9 k K = K (I 0 k) := propext ⟨fun ⟨a, h1, _, _, h⟩ => by cases h1; exact h, fun h => ⟨0, rfl, List.mem_cons_self, rfl, h⟩⟩
theorem m_rc {K : Prop} : xrc (mp I) (some 0) 9 K = K := propext ⟨fun ⟨a, h1, _, _, h⟩ => h, fun h => ⟨0, rfl, List.mem_cons_self, rfl, h⟩⟩
theorem m_pI {K : Pool → Prop} : xpI (mp I) (some 0) 9 k v K = K (mp (p2 I 0 k v)) := propext ⟨fun ⟨a, h1, _, _, h⟩ => by cases h1; exact h, fun h => ⟨0, rfl, List.mem_cons_self, rfl, h⟩⟩
theorem m_R {K : Option Nat → Prop} (hk : k ∈ mar) : xR (mp I) (some 0) 9 k K = K (some k) := by
  have e : (mp I).R 0 k = some k := by show mR 0 k = _; unfold mR; rw [if_pos rfl, if_pos hk]
  exact propext ⟨fun ⟨a, h1, _, _, h⟩ => by cases h1; rw [e] at h; exact h, fun h => ⟨0, rfl, by show 0 ∈ 0 :: mar; exact List.mem_cons_self, rfl, by rw [e]; exact h⟩⟩
theorem m_aI {K : Int32 → Prop} (h1 : c ∈ mar) (h2 : mK c = 10) : xaI (mp I) (some c) 10 i K = (vp_in i (mN c) ∧ K (I c i.toNatClampNeg)) := propext ⟨fun ⟨a, h1, _, _, h⟩ => by cases h1; exact h, fun h => ⟨c, rfl, List.mem_cons_of_mem _ h1, h2, h⟩⟩
theorem m_aZ {K : Int32 → Prop} (h1 : c ∈ mar) (h2 : mK c = 11) : xaI (mp I) (some c) 11 i K = (vp_in i (mN c) ∧ K (I c i.toNatClampNeg)) := propext ⟨fun ⟨a, h1, _, _, h⟩ => by cases h1; exact h, fun h => ⟨c, rfl, List.mem_cons_of_mem _ h1, h2, h⟩⟩
theorem m_sI {K : Pool → Prop} (h1 : c ∈ mar) (h2 : mK c = 10) : xsI (mp I) (some c) 10 i v K = (vp_in i (mN c) ∧ K (mp (p2 I c i.toNatClampNeg v))) := propext ⟨fun ⟨a, h1, _, _, h⟩ => by cases h1; exact h, fun h => ⟨c, rfl, List.mem_cons_of_mem _ h1, h2, h⟩⟩
theorem m_sZ {K : Pool → Prop} (h1 : c ∈ mar) (h2 : mK c = 11) : xsZ (mp I) (some c) 11 i v K = (vp_in i (mN c) ∧ (v = 0 ∨ v = 1) ∧ K (mp (p2 I c i.toNatClampNeg v))) := propext ⟨fun ⟨a, h1, _, _, h⟩ => by cases h1; exact h, fun h => ⟨c, rfl, List.mem_cons_of_mem _ h1, h2, h⟩⟩
end
/-! ===== numbers ===== -/
theorem z01 : ((0 : Int32) = 0 ∨ (0 : Int32) = 1) = True := by simp
theorem z11 : ((1 : Int32) = 0 ∨ (1 : Int32) = 1) = True := by simp
theorem ix3 (a : Nat) : (3 : Int32) * nI a = nI (3 * a) := pk_mul 3 a
theorem ix6 (a : Nat) : (6 : Int32) * nI a = nI (6 * a) := pk_mul 6 a
theorem ix250 (a : Nat) : (250 : Int32) * nI a = nI (250 * a) := pk_mul 250 a
theorem ix1 (a : Nat) : nI a + 1 = nI (a + 1) := nI_1 a
theorem ix2 (a : Nat) : nI a + 2 = nI (a + 2) := nI_add a 2
theorem ix20 (a : Nat) : nI a + 20 = nI (a + 20) := nI_add a 20
theorem ix48 (a : Nat) : (48 : Int32) + nI a = nI (48 + a) := nI_add 48 a
theorem ixm (n : Nat) (h : 0 < n) : nI n + (-1) = nI (n - 1) := sb_m1 h
theorem ixs (n : Nat) (h : 0 < n) : nI n - 1 = nI (n - 1) := by
  obtain ⟨m, rfl⟩ : ∃ m, n = m + 1 := ⟨n - 1, by omega⟩
  exact nI_pred m
theorem vin {n N : Nat} (h : n < N) (hN : N < 2 ^ 31) : vp_in (nI n) N = True := eq_true (vp_in_nI h hN)
theorem ile {a b : Nat} (ha : a < 2 ^ 31) (hb : b < 2 ^ 31) : (nI a ≤ nI b) = (a ≤ b) := propext (nI_leI ha hb)
theorem ilt {a b : Nat} (ha : a < 2 ^ 31) (hb : b < 2 ^ 31) : (nI a < nI b) = (a < b) := propext (nI_ltI ha hb)
theorem ieq {a b : Nat} (ha : a < 2 ^ 31) (hb : b < 2 ^ 31) : (nI a = nI b) = (a = b) := propext (nI_eq ha hb)
