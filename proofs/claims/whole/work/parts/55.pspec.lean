/-! ===== reading a text: what both readers do ===== -/
def prun (P : Int32 → Bool) (T : Nat → Int32) : Nat → Nat → Nat
  | 0, p => p
  | k + 1, p => if P (T p) then prun P T k (p + 1) else p
def run (P : Int32 → Bool) (T : Nat → Int32) (n p : Nat) : Nat := prun P T (n - p) p
def isBl (x : Int32) : Bool := decide (x = 32)
def isLt (x : Int32) : Bool := decide (97 ≤ x ∧ x ≤ 122)
def isDg (x : Int32) : Bool := decide (48 ≤ x ∧ x ≤ 57)
def skp := run isBl
def wep := run isLt
def dep := run isDg
theorem run_end {P : Int32 → Bool} {T : Nat → Int32} {n p : Nat} (h : n ≤ p) : run P T n p = p := by
  unfold run
  rw [show n - p = 0 by omega]
  rfl
theorem run_yes {P : Int32 → Bool} {T : Nat → Int32} {n p : Nat} (h : p < n) (hp : P (T p) = true) : run P T n p = run P T n (p + 1) := by
  unfold run
  rw [show n - p = (n - (p + 1)) + 1 by omega]
  conv => lhs; unfold prun
  rw [if_pos hp]
theorem run_no {P : Int32 → Bool} {T : Nat → Int32} {n p : Nat} (hp : P (T p) = false) : run P T n p = p := by
  unfold run
  cases n - p with
  | zero => rfl
  | succ k => unfold prun; rw [hp]; rfl
theorem run_ge {P : Int32 → Bool} {T : Nat → Int32} {n : Nat} : ∀ k p, n - p = k → p ≤ run P T n p ∧ (p ≤ n → run P T n p ≤ n) ∧ (∀ i, p ≤ i → i < run P T n p → P (T i) = true) ∧ (run P T n p < n → P (T (run P T n p)) = false) := by
  intro k
  induction k with
  | zero =>
    intro p h
    rw [run_end (by omega)]
    exact ⟨Nat.le_refl _, fun h => h, fun i h1 h2 => by omega, fun h => by omega⟩
  | succ k ih =>
    intro p h
    cases hp : P (T p) with
    | false =>
      rw [run_no hp]
      exact ⟨Nat.le_refl _, fun h => h, fun i h1 h2 => by omega, fun _ => hp⟩
    | true =>
      rw [run_yes (by omega) hp]
      obtain ⟨a1, a2, a3, a4⟩ := ih (p + 1) (by omega)
      refine ⟨by omega, fun h => a2 (by omega), fun i h1 h2 => ?_, a4⟩
      by_cases e : i = p
      · rw [e]; exact hp
      · exact a3 i (by omega) h2
theorem run_idem {P : Int32 → Bool} {T : Nat → Int32} {n p : Nat} : run P T n (run P T n p) = run P T n p := by
  by_cases h : run P T n p < n
  · exact run_no ((run_ge _ p rfl).2.2.2 h)
  · exact run_end (by omega)
def wch (w i : Nat) : Int32 := (bytG.getD w []).getD i 0
def isWb (T : Nat → Int32) (n p w : Nat) : Bool := decide (wep T n p = p + lenG.getD w 0) && decide (∀ i, i < lenG.getD w 0 → T (p + i) = wch w i)
theorem isWb_iff {T : Nat → Int32} {n p w : Nat} : isWb T n p w = true ↔ wep T n p = p + lenG.getD w 0 ∧ ∀ i, i < lenG.getD w 0 → T (p + i) = wch w i := by
  unfold isWb
  rw [Bool.and_eq_true, decide_eq_true_eq, decide_eq_true_eq]
def fldS (T : Nat → Int32) (n p : Nat) : Option Nat := if isWb T n p 1 then some 0 else if isWb T n p 2 then some 1 else if isWb T n p 3 then some 2 else none
def nvS (T : Nat → Int32) (p : Nat) : Nat → Int32
  | 0 => 0
  | k + 1 => 10 * nvS T p k + T (p + k) - 48
def numS (T : Nat → Int32) (n p : Nat) (lo hi : Int32) : Option Int32 := if dep T n p = p ∨ 6 < dep T n p - p ∨ nvS T p (dep T n p - p) < lo ∨ hi < nvS T p (dep T n p - p) then none else some (nvS T p (dep T n p - p))
def pnd (Q : Mem) (w : Bool) : Nat → Bool
  | 0 => false
  | k + 1 => decide (¬ Q 14 (48 + k) = 0) && ((decide (¬ Q 18 (48 + k) = -1) == w) || pnd Q w k)
def bitF (x : Int32) (f : Nat) : Int32 := x ||| (1 : Int32) <<< (nI f &&& 31)
def condS (T : Nat → Int32) (n d : Nat) : Nat → Mem → Nat → Sum Nat (Mem × Nat)
  | 0, _, p => .inl p
  | k + 1, Q, p => match fldS T n p with
    | none => .inr (Q, p)
    | some f => if ¬ Q 16 (3 * d + f) = -1 then .inl p else
      match numS T n (skp T n (wep T n p)) 0 (if f = 2 then 15 else 30) with
      | none => .inl (skp T n (wep T n p))
      | some v => condS T n d k (p2 (p2 Q 16 (3 * d + f) v) 0 32 (bitF (Q 0 32) f)) (skp T n (dep T n (skp T n (wep T n p))))
def withS (T : Nat → Int32) (n s d : Nat) (Q : Mem) (p : Nat) : Sum Nat (Mem × Nat) :=
  if isWb T n p 5 then (if s = 0 then .inl p else match numS T n (skp T n (wep T n p)) 1 100000 with
    | none => .inl (skp T n (wep T n p))
    | some v => .inr (p2 Q 18 d v, skp T n (dep T n (skp T n (wep T n p))))) else .inr (Q, p)
def tailS (T : Nat → Int32) (n s d : Nat) (Q : Mem) (p : Nat) : Sum Nat (Mem × Nat) :=
  if isWb T n p 8 then (if ¬ Q 14 d = 0 then .inl p else withS T n s d (p2 Q 17 d 1) (skp T n (wep T n p))) else withS T n s d Q p
def kindS (T : Nat → Int32) (n s d : Nat) (Q : Mem) (p : Nat) : Sum Nat (Mem × Nat) :=
  if isWb T n p 6 = false ∨ (Q 14 d = 0 ∧ pnd Q true s = true) then .inl p else
  match numS T n (skp T n (wep T n p)) 0 7 with
  | none => .inl (skp T n (wep T n p))
  | some v => match condS T n d 4 (p2 Q 15 d v) (skp T n (dep T n (skp T n (wep T n p)))) with
    | .inl f => .inl f
    | .inr (Q', p') => tailS T n s d Q' p'
def iniS (d : Nat) (Q : Mem) : Mem := p2 (p2 (p2 (p2 (p2 (p2 Q 16 (3 * d) (-1)) 16 (3 * d + 1) (-1)) 16 (3 * d + 2) (-1)) 17 d 0) 18 d (-1)) 14 d 0
def stepS (T : Nat → Int32) (n s : Nat) (Q : Mem) (p : Nat) : Sum Nat (Mem × Nat) :=
  if isWb T n p 7 then (if s = 0 then .inl p else kindS T n s (48 + s) (p2 (iniS (48 + s) Q) 14 (48 + s) 1) (skp T n (wep T n p))) else kindS T n s (48 + s) (iniS (48 + s) Q) p
def spreadS (T : Nat → Int32) (n : Nat) (Q : Mem) (p : Nat) : Sum Nat Mem :=
  match fldS T n (skp T n (wep T n p)) with
  | none => .inl (skp T n (wep T n p))
  | some f =>
    match numS T n (skp T n (wep T n (skp T n (wep T n p)))) 2 30 with
    | none => .inl (skp T n (wep T n (skp T n (wep T n p))))
    | some m =>
      let p3 := skp T n (dep T n (skp T n (wep T n (skp T n (wep T n p)))))
      if isWb T n p3 5 = false then .inl p3 else
      match numS T n (skp T n (wep T n p3)) 1 100000 with
      | none => .inl (skp T n (wep T n p3))
      | some w =>
        let p5 := skp T n (dep T n (skp T n (wep T n p3)))
        if p5 < n then .inl p5 else .inr (p2 (p2 (p2 (p2 Q 0 32 (bitF (Q 0 32) f)) 19 8 (nI f)) 20 8 m) 21 8 w)
def loopS (T : Nat → Int32) (n : Nat) : Nat → Nat → Mem → Nat → Sum Nat Mem
  | 0, _, _, p => .inl p
  | k + 1, s, Q, p =>
    let p1 := skp T n (p + 1)
    if 0 < s ∧ isWb T n p1 4 = true then (if pnd Q false s then .inl p1 else spreadS T n Q p1)
    else if s = 6 then .inl (if isWb T n p1 7 = true ∨ isWb T n p1 6 = true then p else p1)
    else match stepS T n s Q p1 with
      | .inl f => .inl f
      | .inr (Q', p') =>
        if p' < n then (if T p' = 59 then loopS T n k (s + 1) (p2 Q' 13 8 (nI (s + 1))) p' else .inl p')
        else if pnd (p2 Q' 13 8 (nI (s + 1))) false (s + 1) then .inl n else .inr (p2 Q' 13 8 (nI (s + 1)))
def textS (T : Nat → Int32) (n : Nat) (Q : Mem) : Sum Nat Mem :=
  let p0 := skp T n 0
  if isWb T n p0 0 = false then .inl p0 else
  match fldS T n (skp T n (wep T n p0)) with
  | none => .inl (skp T n (wep T n p0))
  | some f =>
    let p2' := skp T n (wep T n (skp T n (wep T n p0)))
    if p2' < n ∧ T p2' = 59 then loopS T n 7 0 (p2 (p2 (p2 (p2 (p2 Q 0 32 0) 13 8 0) 19 8 (-1)) 0 32 (bitF 0 f)) 12 8 (nI f)) p2' else .inl p2'
/-! ===== the reference's reader ===== -/
def st (Q : Mem) (p : Nat) (m : Int32) : Mem := p2 (p2 Q 0 31 m) 0 29 (nI p)
theorem p2_cm {α : Type} {f : Nat → Nat → α} {a k b j : Nat} {v w : α} (h : ¬ (a = b ∧ k = j)) : p2 (p2 f a k v) b j w = p2 (p2 f b j w) a k v := by
  funext x y
  by_cases h1 : x = a
  · by_cases h2 : x = b
    · subst h1; subst h2
      simp only [p2_at]
      by_cases h3 : y = k
      · by_cases h4 : y = j
        · exact absurd ⟨rfl, h3.symm.trans h4⟩ h
        · subst h3; simp [h4]
      · simp [h3]
    · subst h1
      rw [p2_ne h2, p2_at, p2_at, p2_ne h2]
  · by_cases h2 : x = b
    · subst h2
      rw [p2_at, p2_ne h1, p2_ne h1, p2_at]
    · rw [p2_ne h2, p2_ne h1, p2_ne h1, p2_ne h2]
theorem st_29 {Q : Mem} {p : Nat} {m : Int32} : st Q p m 0 29 = nI p := p2_same
theorem st_31 {Q : Mem} {p : Nat} {m : Int32} : st Q p m 0 31 = m := by unfold st; rw [p2_row (by decide), p2_same]
theorem st_0 {Q : Mem} {p k : Nat} {m : Int32} (h1 : k ≠ 29) (h2 : k ≠ 31) : st Q p m 0 k = Q 0 k := by unfold st; rw [p2_row h1, p2_row h2]
theorem st_c {Q : Mem} {p c : Nat} {m : Int32} (h : c ≠ 0) : st Q p m c = Q c := by unfold st; rw [p2_ne h, p2_ne h]
theorem st_s29 {Q : Mem} {p p' : Nat} {m : Int32} : p2 (st Q p m) 0 29 (nI p') = st Q p' m := p2_p2
theorem st_s31 {Q : Mem} {p : Nat} {m m' : Int32} : p2 (st Q p m) 0 31 m' = st Q p m' := by
  unfold st
  rw [p2_cm (by decide), p2_p2]
theorem st_s0 {Q : Mem} {p k : Nat} {m v : Int32} (h1 : k ≠ 29) (h2 : k ≠ 31) : p2 (st Q p m) 0 k v = st (p2 Q 0 k v) p m := by
  unfold st
  rw [p2_cm (by omega), p2_cm (a := 0) (k := 31) (by omega)]
theorem st_sc {Q : Mem} {p c k : Nat} {m v : Int32} (h : c ≠ 0) : p2 (st Q p m) c k v = st (p2 Q c k v) p m := by
  unfold st
  rw [p2_cm (by omega), p2_cm (a := 0) (k := 31) (by omega)]
theorem st_idem {I : Mem} : st (p2 I 0 29 0) 0 (I 0 31) = p2 I 0 29 0 := by
  funext x y
  unfold st
  by_cases hx : x = 0
  · subst hx
    by_cases h1 : y = 29
    · subst h1; rw [p2_same, p2_same]; rfl
    · rw [p2_row h1]
      by_cases h2 : y = 31
      · subst h2; rw [p2_same, p2_row (by decide)]
      · rw [p2_row h2]
  · rw [p2_ne hx, p2_ne hx]
