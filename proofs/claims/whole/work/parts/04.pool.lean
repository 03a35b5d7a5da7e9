/-! ===== the pool: every object and array of one side, by its address: addresses, kind, length, references, numbers ===== -/
abbrev Pool : Type := List Nat × (Nat → Nat) × (Nat → Nat) × (Nat → Nat → Option Nat) × (Nat → Nat → Int32) × (Nat → Nat → Int64)
abbrev Pool.L (S : Pool) : List Nat := S.1
abbrev Pool.K (S : Pool) : Nat → Nat := S.2.1
abbrev Pool.len (S : Pool) : Nat → Nat := S.2.2.1
abbrev Pool.R (S : Pool) : Nat → Nat → Option Nat := S.2.2.2.1
abbrev Pool.I (S : Pool) : Nat → Nat → Int32 := S.2.2.2.2.1
abbrev Pool.J (S : Pool) : Nat → Nat → Int64 := S.2.2.2.2.2
/-- f, but v at (a, k) -/
def p2 {α : Type} (f : Nat → Nat → α) (a k : Nat) (v : α) : Nat → Nat → α := fun b => if b = a then (fun j => if j = k then v else f a j) else f b
theorem p2_at {α : Type} {f : Nat → Nat → α} {a k : Nat} {v : α} : p2 f a k v a = fun j => if j = k then v else f a j := by simp [p2]
theorem p2_ne {α : Type} {f : Nat → Nat → α} {a k b : Nat} {v : α} (h : b ≠ a) : p2 f a k v b = f b := by simp [p2, h]
theorem p2_same {α : Type} {f : Nat → Nat → α} {a k : Nat} {v : α} : p2 f a k v a k = v := by simp [p2]
theorem p2_row {α : Type} {f : Nat → Nat → α} {a k j : Nat} {v : α} (h : j ≠ k) : p2 f a k v a j = f a j := by simp [p2, h]
def Pool.si (S : Pool) (a k : Nat) (v : Int32) : Pool := (S.L, S.K, S.len, S.R, p2 S.I a k v, S.J)
def Pool.sr (S : Pool) (a k : Nat) (v : Option Nat) : Pool := (S.L, S.K, S.len, p2 S.R a k v, S.I, S.J)
def Pool.sj (S : Pool) (a k : Nat) (v : Int64) : Pool := (S.L, S.K, S.len, S.R, S.I, p2 S.J a k v)
def Pool.add (S : Pool) (a k n : Nat) : Pool := (S.L ++ [a], va_up S.K a k, va_up S.len a n, va_up S.R a (fun _ => none), va_up S.I a (fun _ => 0), va_up S.J a (fun _ => 0))
/-- of each class which fields are references -/
def fk : Nat → List Bool
  | 0 => [false, false, false, false, false, false, false, false, false]
  | 1 => [true, true, true, true, true, true, false, false]
  | 2 => [true, true, false, false, false]
  | 3 => [true, false, false, false, false, false, false, false]
  | 4 => [true, false, false, false, false, false]
  | 5 => [false, false, false, false, false, false, false, false]
  | 6 => [true, true, true, true, true, true, true, true, true, true, true, false, false, false, false, false]
  | 7 => [true, false]
  | 8 => [true, true, true, true, true, true, true, true, true, false, false, false, false, false, false, false]
  | 9 => [false, false, false, true, false, false, true, true, true, true, true, false, true, true, true, true, true, true, true, true, true, true, false, true, true, true, true, false, false, false, false, false, false, true, true, true, false, true, false, true, true, true]
  | _ => []
def pfs (k : Nat) (r : Nat → Option Nat) (i : Nat → Int32) : List Value := (List.range (fk k).length).map fun j => if (fk k).getD j false then va_rf (r j) else .int (i j)
def pC (cy : Nat → ClassId) (k n : Nat) (r : Nat → Option Nat) (i : Nat → Int32) (j : Nat → Int64) : va_E := if k < 10 then .inr (k, pfs k r i) else .inl (cy k, n, if k < 12 then .inl i else if k = 16 then .inr (.inl j) else .inr (.inr (.inr (.inr r))))
def pE (cy : Nat → ClassId) (S : Pool) (a : Nat) : va_E := pC cy (S.K a) (S.len a) (S.R a) (S.I a) (S.J a)
def pW (cy : Nat → ClassId) (S : Pool) : va_W := va_pl S.L (pE cy S)
def tysP (cy : Nat → ClassId) : List (ClassId × FieldType) := [(cy 10, .int), (cy 11, .boolean), (cy 12, .object RX0), (cy 13, .object RX3), (cy 14, .object RX5), (cy 15, .array .int), (cy 16, .long)]
theorem pE_congr {cy : Nat → ClassId} {S S' : Pool} {b : Nat} (h1 : S'.K b = S.K b) (h2 : S'.len b = S.len b) (h3 : S'.R b = S.R b) (h4 : S'.I b = S.I b) (h5 : S'.J b = S.J b) : pE cy S b = pE cy S' b := by unfold pE; rw [h1, h2, h3, h4, h5]
theorem pE_obj {cy : Nat → ClassId} {S : Pool} {a k : Nat} (h : S.K a = k) (hk : k < 10) : pE cy S a = .inr (k, pfs k (S.R a) (S.I a)) := by unfold pE pC; rw [h, if_pos hk]
theorem pE_int {cy : Nat → ClassId} {S : Pool} {a k : Nat} (h : S.K a = k) (h1 : 10 ≤ k) (h2 : k < 12) : pE cy S a = .inl (cy k, S.len a, .inl (S.I a)) := by unfold pE pC; rw [h, if_neg (Nat.not_lt.mpr h1), if_pos h2]
theorem pE_ref {cy : Nat → ClassId} {S : Pool} {a k : Nat} (h : S.K a = k) (h1 : 12 ≤ k ∧ k ≠ 16) : pE cy S a = .inl (cy k, S.len a, .inr (.inr (.inr (.inr (S.R a))))) := by unfold pE pC; rw [h, if_neg (by omega), if_neg (by omega), if_neg h1.2]
theorem pE_long {cy : Nat → ClassId} {S : Pool} {a : Nat} (h : S.K a = 16) : pE cy S a = .inl (cy 16, S.len a, .inr (.inl (S.J a))) := by unfold pE pC; rw [h]; rfl
theorem pfs_len {k : Nat} {r : Nat → Option Nat} {i : Nat → Int32} : (pfs k r i).length = (fk k).length := by simp [pfs]
theorem pfs_at {k j : Nat} {r : Nat → Option Nat} {i : Nat → Int32} {b : Bool} (h : (fk k)[j]? = some b) : (pfs k r i)[j]? = some (if b then va_rf (r j) else .int (i j)) := by
  have hl : j < (fk k).length := (List.getElem?_eq_some_iff.mp h).1
  have hd : (fk k).getD j false = b := by rw [List.getD_eq_getElem?_getD, h]; rfl
  simp [pfs, List.getElem?_range hl, h]
theorem pfs_setI {k j : Nat} {r : Nat → Option Nat} {i : Nat → Int32} {v : Int32} (h : (fk k)[j]? = some false) : (pfs k r i).set j (.int v) = pfs k r (fun x => if x = j then v else i x) := by
  apply List.ext_getElem?
  intro n
  by_cases hn : n < (fk k).length
  · obtain ⟨b, hb⟩ : ∃ b, (fk k)[n]? = some b := ⟨_, List.getElem?_eq_getElem hn⟩
    rw [pfs_at hb, List.getElem?_set]
    by_cases e : j = n
    · subst e
      rw [h] at hb
      cases hb
      rw [if_pos rfl, if_pos (by rw [pfs_len]; exact hn)]
      simp
    · rw [if_neg e, pfs_at hb, if_neg (Ne.symm e)]
  · rw [List.getElem?_eq_none (by rw [List.length_set, pfs_len]; omega), List.getElem?_eq_none (by rw [pfs_len]; omega)]
theorem pfs_setR {k j : Nat} {r : Nat → Option Nat} {i : Nat → Int32} {v : Option Nat} (h : (fk k)[j]? = some true) : (pfs k r i).set j (va_rf v) = pfs k (fun x => if x = j then v else r x) i := by
  apply List.ext_getElem?
  intro n
  by_cases hn : n < (fk k).length
  · obtain ⟨b, hb⟩ : ∃ b, (fk k)[n]? = some b := ⟨_, List.getElem?_eq_getElem hn⟩
    rw [pfs_at hb, List.getElem?_set]
    by_cases e : j = n
    · subst e
      rw [h] at hb
      cases hb
      rw [if_pos rfl, if_pos (by rw [pfs_len]; exact hn)]
      simp
    · rw [if_neg e, pfs_at hb, if_neg (Ne.symm e)]
  · rw [List.getElem?_eq_none (by rw [List.length_set, pfs_len]; omega), List.getElem?_eq_none (by rw [pfs_len]; omega)]
theorem pW_get {cy : Nat → ClassId} {S : Pool} {a : Nat} (h : a ∈ S.L) : ∃ k : Nat, (pW cy S)[k]? = some (a, pE cy S a) := va_pl_get (X := []) (f := pE cy S) h
theorem pW_set {cy : Nat → ClassId} {S S' : Pool} {A : Nat → Prop} {a k : Nat} {e : va_E} (hD : va_D A (pW cy S)) (h : a ∈ S.L) (hk : (pW cy S)[k]? = some (a, pE cy S a)) (hL : S'.L = S.L) (he : e = pE cy S' a) (ho : ∀ b, b ≠ a → pE cy S b = pE cy S' b) : (pW cy S).set k (a, e) = pW cy S' := by
  have h1 := va_pl_set (X := []) (f := pE cy S) (e := e) hD h hk
  refine h1.trans ?_
  show va_pl S.L _ = va_pl S'.L _
  rw [hL]
  refine va_pl_congr fun b => ?_
  by_cases hb : b = a
  · subst hb
    rw [he]
    simp [va_up]
  · rw [show va_up (pE cy S) a e b = pE cy S b from by simp [va_up, hb]]
    exact ho b hb
theorem pW_add {cy : Nat → ClassId} {S S' : Pool} {a : Nat} {e : va_E} (h : a ∉ S.L) (hL : S'.L = S.L ++ [a]) (he : e = pE cy S' a) (ho : ∀ b, b ≠ a → pE cy S b = pE cy S' b) : pW cy S ++ [(a, e)] = pW cy S' := by
  have h1 := va_pl_push (f := pE cy S) (e := e) h
  refine h1.trans ?_
  show va_pl (S.L ++ [a]) _ = va_pl S'.L _
  rw [hL]
  refine va_pl_congr fun b => ?_
  by_cases hb : b = a
  · subst hb
    rw [he]
    simp [va_up]
  · rw [show va_up (pE cy S) a e b = pE cy S b from by simp [va_up, hb]]
    exact ho b hb
theorem va_up_ne2 {α : Type} {f : Nat → α} {a b : Nat} {v : α} (h : b ≠ a) : va_up f a v b = f b := by simp [va_up, h]
theorem va_up_at2 {α : Type} {f : Nat → α} {a : Nat} {v : α} : va_up f a v a = v := by simp [va_up]
theorem si_ne {cy : Nat → ClassId} {S : Pool} {a k b : Nat} {v : Int32} (h : b ≠ a) : pE cy S b = pE cy (S.si a k v) b := pE_congr rfl rfl rfl (p2_ne h) rfl
theorem sr_ne {cy : Nat → ClassId} {S : Pool} {a k b : Nat} {v : Option Nat} (h : b ≠ a) : pE cy S b = pE cy (S.sr a k v) b := pE_congr rfl rfl (p2_ne h) rfl rfl
theorem sj_ne {cy : Nat → ClassId} {S : Pool} {a k b : Nat} {v : Int64} (h : b ≠ a) : pE cy S b = pE cy (S.sj a k v) b := pE_congr rfl rfl rfl rfl (p2_ne h)
theorem add_ne {cy : Nat → ClassId} {S : Pool} {a k n b : Nat} (h : b ≠ a) : pE cy S b = pE cy (S.add a k n) b := pE_congr (va_up_ne2 h) (va_up_ne2 h) (va_up_ne2 h) (va_up_ne2 h) (va_up_ne2 h)
/-! ===== what a walk asks at each instruction (the predicates of the printed programs) ===== -/
def xI (S : Pool) (r : Option Nat) (ci k : Nat) (K : Int32 → Prop) : Prop := ∃ a, r = some a ∧ a ∈ S.L ∧ S.K a = ci ∧ K (S.I a k)
def xR (S : Pool) (r : Option Nat) (ci k : Nat) (K : Option Nat → Prop) : Prop := ∃ a, r = some a ∧ a ∈ S.L ∧ S.K a = ci ∧ K (S.R a k)
def xpI (S : Pool) (r : Option Nat) (ci k : Nat) (v : Int32) (K : Pool → Prop) : Prop := ∃ a, r = some a ∧ a ∈ S.L ∧ S.K a = ci ∧ K (S.si a k v)
def xpZ (S : Pool) (r : Option Nat) (ci k : Nat) (v : Int32) (K : Pool → Prop) : Prop := ∃ a, r = some a ∧ a ∈ S.L ∧ S.K a = ci ∧ (v = 0 ∨ v = 1) ∧ K (S.si a k v)
def xpR (S : Pool) (r : Option Nat) (ci k : Nat) (v : Option Nat) (K : Pool → Prop) : Prop := ∃ a, r = some a ∧ a ∈ S.L ∧ S.K a = ci ∧ K (S.sr a k v)
def xaI (S : Pool) (r : Option Nat) (kd : Nat) (i : Int32) (K : Int32 → Prop) : Prop := ∃ a, r = some a ∧ a ∈ S.L ∧ S.K a = kd ∧ vp_in i (S.len a) ∧ K (S.I a i.toNatClampNeg)
def xaR (S : Pool) (r : Option Nat) (kd : Nat) (i : Int32) (K : Option Nat → Prop) : Prop := ∃ a, r = some a ∧ a ∈ S.L ∧ S.K a = kd ∧ vp_in i (S.len a) ∧ K (S.R a i.toNatClampNeg)
def xsI (S : Pool) (r : Option Nat) (kd : Nat) (i v : Int32) (K : Pool → Prop) : Prop := ∃ a, r = some a ∧ a ∈ S.L ∧ S.K a = kd ∧ vp_in i (S.len a) ∧ K (S.si a i.toNatClampNeg v)
def xsZ (S : Pool) (r : Option Nat) (kd : Nat) (i v : Int32) (K : Pool → Prop) : Prop := ∃ a, r = some a ∧ a ∈ S.L ∧ S.K a = kd ∧ vp_in i (S.len a) ∧ (v = 0 ∨ v = 1) ∧ K (S.si a i.toNatClampNeg v)
def xsR (S : Pool) (r : Option Nat) (kd kv : Nat) (i : Int32) (v : Option Nat) (K : Pool → Prop) : Prop := ∃ a, r = some a ∧ a ∈ S.L ∧ S.K a = kd ∧ vp_in i (S.len a) ∧ (∀ b, v = some b → b ∈ S.L ∧ S.K b = kv) ∧ K (S.sr a i.toNatClampNeg v)
def xaJ (S : Pool) (r : Option Nat) (i : Int32) (K : Int64 → Prop) : Prop := ∃ a, r = some a ∧ a ∈ S.L ∧ S.K a = 16 ∧ vp_in i (S.len a) ∧ K (S.J a i.toNatClampNeg)
def xsJ (S : Pool) (r : Option Nat) (i : Int32) (v : Int64) (K : Pool → Prop) : Prop := ∃ a, r = some a ∧ a ∈ S.L ∧ S.K a = 16 ∧ vp_in i (S.len a) ∧ K (S.sj a i.toNatClampNeg v)
def xln (S : Pool) (r : Option Nat) (kd : Nat) (K : Int32 → Prop) : Prop := ∃ a, r = some a ∧ a ∈ S.L ∧ S.K a = kd ∧ K (nI (S.len a))
def xrc (S : Pool) (r : Option Nat) (ci : Nat) (K : Prop) : Prop := ∃ a, r = some a ∧ a ∈ S.L ∧ S.K a = ci ∧ K
def xnw (S : Pool) (k : Nat) (K : Option Nat → Pool → Prop) : Prop := ∀ q, q ∉ S.L → K (some q) (S.add q k 0)
def xna (S : Pool) (kd : Nat) (n : Int32) (N : Nat) (K : Option Nat → Pool → Prop) : Prop := ¬ n < 0 ∧ n.toNatClampNeg = N ∧ ∀ q, q ∉ S.L → K (some q) (S.add q kd N)
/-- behind new int[n][m]: the outer array q, its rows r 0, r 1 .. -/
def Pool.mul (S : Pool) (q n m : Nat) (r : Nat → Nat) : Pool :=
  (q :: (S.L ++ (List.range n).map r), fun b => if b ∈ (List.range n).map r then 10 else va_up S.K q 15 b, fun b => if b ∈ (List.range n).map r then m else va_up S.len q n b, va_up S.R q (fun i => if i < n then some (r i) else none), fun b => if b ∈ (List.range n).map r then (fun _ => 0) else S.I b, S.J)
def xmn (S : Pool) (n m : Int32) (N M : Nat) (K : Option Nat → Pool → Prop) : Prop := ¬ n < 0 ∧ ¬ m < 0 ∧ n.toNatClampNeg = N ∧ m.toNatClampNeg = M ∧ ∀ (q : Nat) (r : Nat → Nat), q ∉ S.L → (∀ i j : Nat, i < N → j < N → r i = r j → i = j) → (∀ i : Nat, i < N → r i ∉ S.L ∧ r i ≠ q) → K (some q) (S.mul q N M r)
def br (c A B : Prop) : Prop := (c → A) ∧ (¬ c → B)
