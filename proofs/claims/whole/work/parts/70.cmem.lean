/-! ===== the class's pool by codes: objects and rows below 96, acts 1000 + i, questions 2000 + 8 k with their steps ===== -/
def ckt : List Nat := [8, 7, 10, 4, 2, 12, 12, 6, 12, 15, 10, 15, 15, 15, 15, 15, 10, 1, 10, 10, 10, 12, 12, 13, 10, 15]
def cK (c : Nat) : Nat := if c < 26 then ckt.getD c 0 else if c < 95 then 10 else if c = 95 then 16 else if c < 2000 then 0 else if (c - 2000) % 8 = 0 then 3 else if (c - 2000) % 8 = 1 then 14 else 5
def cnt0 : List Nat := [0, 0, 400, 0, 0, 250, 250, 0, 250, 6, 6, 6, 6, 6, 6, 31, 250, 0, 250, 250, 250, 31, 16, 8, 4, 8]
def cN (c : Nat) : Nat := if c < 26 then cnt0.getD c 0 else if c < 32 then 250 else if c < 95 then 31 else if c = 95 then 1 else if c < 2000 then 0 else if (c - 2000) % 8 = 1 then 6 else 0
def sR (c k : Nat) : Option Nat :=
  if c = 0 then ([some 1, some 3, some 4, some 7, some 17, some 23, some 24, some 25] : List (Option Nat)).getD k none
  else if c = 1 then (if k = 0 then some 2 else none)
  else if c = 3 then (if k = 0 then some 1 else none)
  else if c = 4 then ([some 5, some 6] : List (Option Nat)).getD k none
  else if c = 7 then ([some 4, some 8, some 9, some 10, some 11, some 12, some 13, some 14, some 15, some 16] : List (Option Nat)).getD k none
  else if c = 17 then ([some 4, some 18, some 19, some 20, some 21, some 22] : List (Option Nat)).getD k none
  else if c = 9 then (if k < 6 then some (26 + k) else none)
  else if c = 11 then (if k < 6 then some (32 + k) else none)
  else if c = 12 then (if k < 6 then some (38 + k) else none)
  else if c = 13 then (if k < 6 then some (44 + k) else none)
  else if c = 14 then (if k < 6 then some (50 + k) else none)
  else if c = 15 then (if k < 31 then some (56 + k) else none)
  else if c = 25 then (if k < 8 then some (87 + k) else none)
  else if c < 2000 then none
  else if (c - 2000) % 8 = 0 then (if k = 0 then some (c + 1) else none)
  else if (c - 2000) % 8 = 1 then (if k < 6 then some (c + 1 + k) else none)
  else none
def dyn (c k : Nat) : Bool := c == 5 || c == 6 || c == 8 || c == 21 || c == 22 || c == 23 || (c == 0 && k == 8) || (c == 7 && k == 10)
abbrev RMem : Type := Nat → Nat → Option Nat
def cR (R : RMem) (c k : Nat) : Option Nat := if dyn c k = true then R c k else sR c k
def cL (nA nK : Nat) : List Nat := List.range 96 ++ (List.range nA).map (1000 + ·) ++ (List.range (8 * nK)).map (2000 + ·)
theorem mem_cL {nA nK c : Nat} : c ∈ cL nA nK ↔ c < 96 ∨ (1000 ≤ c ∧ c < 1000 + nA) ∨ (2000 ≤ c ∧ c < 2000 + 8 * nK) := by
  unfold cL
  simp only [List.mem_append, List.mem_range, List.mem_map]
  constructor
  · rintro ((h | ⟨a, h, rfl⟩) | ⟨a, h, rfl⟩)
    · exact .inl h
    · exact .inr (.inl (by omega))
    · exact .inr (.inr (by omega))
  · rintro (h | h | h)
    · exact .inl (.inl h)
    · exact .inl (.inr ⟨c - 1000, by omega, by omega⟩)
    · exact .inr ⟨c - 2000, by omega, by omega⟩
def cp (nA nK : Nat) (R : RMem) (I : Mem) (J : Nat → Nat → Int64) : Pool := (cL nA nK, cK, cN, cR R, I, J)
theorem cR_set {R : RMem} {c k : Nat} {v : Option Nat} (h : dyn c k = true) : p2 (cR R) c k v = cR (p2 R c k v) := by
  funext d j
  by_cases e : d = c
  · subst e
    rw [p2_at]
    by_cases e2 : j = k
    · subst e2; simp only [if_true]; unfold cR; rw [if_pos h, p2_same]
    · simp only [if_neg e2]; unfold cR; rw [p2_row e2]
  · rw [p2_ne e]; unfold cR; rw [p2_ne e]
section
variable {nA nK : Nat} {R : RMem} {I : Mem} {J : Nat → Nat → Int64} {K : Prop} {KI : Int32 → Prop} {KR : Option Nat → Prop} {KP : Pool → Prop} {c k ci i s r j : Nat} {v x : Int32} {w : Option Nat}
theorem x1_I (h1 : c ∈ cL nA nK) (h2 : cK c = ci) : xI (cp nA nK R I J) (some c) ci k KI = KI (I c k) := propext ⟨fun ⟨a, h1, _, _, h⟩ => by cases h1; exact h, fun h => ⟨c, rfl, h1, h2, h⟩⟩
theorem x1_R (h1 : c ∈ cL nA nK) (h2 : cK c = ci) : xR (cp nA nK R I J) (some c) ci k KR = KR (cR R c k) := propext ⟨fun ⟨a, h1, _, _, h⟩ => by cases h1; exact h, fun h => ⟨c, rfl, h1, h2, h⟩⟩
theorem x1_rc (h1 : c ∈ cL nA nK) (h2 : cK c = ci) : xrc (cp nA nK R I J) (some c) ci K = K := propext ⟨fun ⟨a, h1, _, _, h⟩ => h, fun h => ⟨c, rfl, h1, h2, h⟩⟩
theorem x1_pI (h1 : c ∈ cL nA nK) (h2 : cK c = ci) : xpI (cp nA nK R I J) (some c) ci k v KP = KP (cp nA nK R (p2 I c k v) J) := propext ⟨fun ⟨a, h1, _, _, h⟩ => by cases h1; exact h, fun h => ⟨c, rfl, h1, h2, h⟩⟩
theorem x1_pZ (h1 : c ∈ cL nA nK) (h2 : cK c = ci) : xpZ (cp nA nK R I J) (some c) ci k v KP = ((v = 0 ∨ v = 1) ∧ KP (cp nA nK R (p2 I c k v) J)) := propext ⟨fun ⟨a, h1, _, _, h⟩ => by cases h1; exact h, fun h => ⟨c, rfl, h1, h2, h⟩⟩
theorem x1_pR (h1 : c ∈ cL nA nK) (h2 : cK c = ci) (h3 : dyn c k = true) : xpR (cp nA nK R I J) (some c) ci k w KP = KP (cp nA nK (p2 R c k w) I J) := by
  have e : (cp nA nK R I J).sr c k w = cp nA nK (p2 R c k w) I J := by
    unfold cp Pool.sr
    simp only [← cR_set h3]
  exact propext ⟨fun ⟨a, h1, _, _, h⟩ => by cases h1; rw [e] at h; exact h, fun h => ⟨c, rfl, h1, h2, by rw [e]; exact h⟩⟩
theorem x1_aI (h1 : c ∈ cL nA nK) (h2 : cK c = 10) : xaI (cp nA nK R I J) (some c) 10 v KI = (vp_in v (cN c) ∧ KI (I c v.toNatClampNeg)) := propext ⟨fun ⟨a, h1, _, _, h⟩ => by cases h1; exact h, fun h => ⟨c, rfl, h1, h2, h⟩⟩
theorem x1_sI (h1 : c ∈ cL nA nK) (h2 : cK c = 10) : xsI (cp nA nK R I J) (some c) 10 v x KP = (vp_in v (cN c) ∧ KP (cp nA nK R (p2 I c v.toNatClampNeg x) J)) := propext ⟨fun ⟨a, h1, _, _, h⟩ => by cases h1; exact h, fun h => ⟨c, rfl, h1, h2, h⟩⟩
theorem x1_aR (h1 : c ∈ cL nA nK) (h2 : cK c = ci) : xaR (cp nA nK R I J) (some c) ci v KR = (vp_in v (cN c) ∧ KR (cR R c v.toNatClampNeg)) := propext ⟨fun ⟨a, h1, _, _, h⟩ => by cases h1; exact h, fun h => ⟨c, rfl, h1, h2, h⟩⟩
theorem x1_sR {kv : Nat} (h1 : c ∈ cL nA nK) (h2 : cK c = ci) (h3 : dyn c v.toNatClampNeg = true) : xsR (cp nA nK R I J) (some c) ci kv v w KP = (vp_in v (cN c) ∧ (∀ b, w = some b → b ∈ cL nA nK ∧ cK b = kv) ∧ KP (cp nA nK (p2 R c v.toNatClampNeg w) I J)) := by
  have e : (cp nA nK R I J).sr c v.toNatClampNeg w = cp nA nK (p2 R c v.toNatClampNeg w) I J := by
    unfold cp Pool.sr
    simp only [← cR_set h3]
  exact propext ⟨fun ⟨a, h1, _, _, h2, h3, h⟩ => by cases h1; rw [e] at h; exact ⟨h2, h3, h⟩, fun ⟨a2, a3, h⟩ => ⟨c, rfl, h1, h2, a2, a3, by rw [e]; exact h⟩⟩
theorem x1_ln (h1 : c ∈ cL nA nK) (h2 : cK c = 10) : xln (cp nA nK R I J) (some c) 10 KI = KI (nI (cN c)) := propext ⟨fun ⟨a, h1, _, _, h⟩ => by cases h1; exact h, fun h => ⟨c, rfl, h1, h2, h⟩⟩
theorem x1_aJ {KJ : Int64 → Prop} : xaJ (cp nA nK R I J) (some 95) v KJ = (vp_in v 1 ∧ KJ (J 95 v.toNatClampNeg)) := propext ⟨fun ⟨a, h1, _, _, h⟩ => by cases h1; exact h, fun h => ⟨95, rfl, mem_cL.mpr (.inl (by decide)), rfl, h⟩⟩
theorem x1_sJ {u : Int64} : xsJ (cp nA nK R I J) (some 95) v u KP = (vp_in v 1 ∧ KP (cp nA nK R I (p2 J 95 v.toNatClampNeg u))) := propext ⟨fun ⟨a, h1, _, _, h⟩ => by cases h1; exact h, fun h => ⟨95, rfl, mem_cL.mpr (.inl (by decide)), rfl, h⟩⟩
theorem mS (h : c < 96) : c ∈ cL nA nK := mem_cL.mpr (.inl h)
theorem mA (h : i < nA) : 1000 + i ∈ cL nA nK := mem_cL.mpr (.inr (.inl (by omega)))
theorem mQ (h : k < nK) (hs : s < 8) : 2000 + 8 * k + s ∈ cL nA nK := mem_cL.mpr (.inr (.inr (by omega)))
theorem mQ0 (h : k < nK) : 2000 + 8 * k ∈ cL nA nK := mQ (s := 0) h (by decide)
theorem mQs (h : k < nK) (hs : s < 6) : 2000 + 8 * k + 2 + s ∈ cL nA nK := by rw [Nat.add_assoc (2000 + 8 * k)]; exact mQ h (by omega)
theorem kA (h : i < 1000) : cK (1000 + i) = 0 := by unfold cK; rw [if_neg (by omega), if_neg (by omega), if_neg (by omega), if_pos (by omega)]
theorem kQ : cK (2000 + 8 * k) = 3 := by unfold cK; rw [if_neg (by omega), if_neg (by omega), if_neg (by omega), if_neg (by omega), if_pos (by omega)]
theorem kQ1 : cK (2000 + 8 * k + 1) = 14 := by unfold cK; rw [if_neg (by omega), if_neg (by omega), if_neg (by omega), if_neg (by omega), if_neg (by omega), if_pos (by omega)]
theorem kQs (hs : s < 6) : cK (2000 + 8 * k + 2 + s) = 5 := by unfold cK; rw [if_neg (by omega), if_neg (by omega), if_neg (by omega), if_neg (by omega), if_neg (by omega), if_neg (by omega)]
theorem nQ1 : cN (2000 + 8 * k + 1) = 6 := by unfold cN; rw [if_neg (by omega), if_neg (by omega), if_neg (by omega), if_neg (by omega), if_neg (by omega), if_pos (by omega)]
/-! static objects -/
theorem c_I (h1 : c < 96) (h2 : cK c = ci) : xI (cp nA nK R I J) (some c) ci k KI = KI (I c k) := x1_I (mS h1) h2
theorem c_rc (h1 : c < 96) (h2 : cK c = ci) : xrc (cp nA nK R I J) (some c) ci K = K := x1_rc (mS h1) h2
theorem c_pI (h1 : c < 96) (h2 : cK c = ci) : xpI (cp nA nK R I J) (some c) ci k v KP = KP (cp nA nK R (p2 I c k v) J) := x1_pI (mS h1) h2
theorem c_pZ (h1 : c < 96) (h2 : cK c = ci) : xpZ (cp nA nK R I J) (some c) ci k v KP = ((v = 0 ∨ v = 1) ∧ KP (cp nA nK R (p2 I c k v) J)) := x1_pZ (mS h1) h2
theorem c_aI (h1 : c < 26) (h2 : cK c = 10) : xaI (cp nA nK R I J) (some c) 10 v KI = (vp_in v (cN c) ∧ KI (I c v.toNatClampNeg)) := x1_aI (mS (by omega)) h2
theorem c_sI (h1 : c < 26) (h2 : cK c = 10) : xsI (cp nA nK R I J) (some c) 10 v x KP = (vp_in v (cN c) ∧ KP (cp nA nK R (p2 I c v.toNatClampNeg x) J)) := x1_sI (mS (by omega)) h2
/-! acts -/
theorem ca_I (hA : nA ≤ 250) (h : i < nA) : xI (cp nA nK R I J) (some (1000 + i)) 0 k KI = KI (I (1000 + i) k) := x1_I (mA h) (kA (by omega))
theorem ca_rc (hA : nA ≤ 250) (h : i < nA) : xrc (cp nA nK R I J) (some (1000 + i)) 0 K = K := x1_rc (mA h) (kA (by omega))
theorem ca_pI (hA : nA ≤ 250) (h : i < nA) : xpI (cp nA nK R I J) (some (1000 + i)) 0 k v KP = KP (cp nA nK R (p2 I (1000 + i) k v) J) := x1_pI (mA h) (kA (by omega))
/-! questions and steps -/
theorem cq_I (h : k < nK) : xI (cp nA nK R I J) (some (2000 + 8 * k)) 3 j KI = KI (I (2000 + 8 * k) j) := x1_I (mQ0 h) kQ
theorem cq_rc (h : k < nK) : xrc (cp nA nK R I J) (some (2000 + 8 * k)) 3 K = K := x1_rc (mQ0 h) kQ
theorem cq_pI (h : k < nK) : xpI (cp nA nK R I J) (some (2000 + 8 * k)) 3 j v KP = KP (cp nA nK R (p2 I (2000 + 8 * k) j v) J) := x1_pI (mQ0 h) kQ
theorem cq_R (h : k < nK) : xR (cp nA nK R I J) (some (2000 + 8 * k)) 3 0 KR = KR (some (2000 + 8 * k + 1)) := by
  rw [x1_R (mQ0 h) kQ]
  have e : cR R (2000 + 8 * k) 0 = some (2000 + 8 * k + 1) := by
    unfold cR
    rw [if_neg (by simp [dyn]; omega)]
    unfold sR
    repeat rw [if_neg (by omega)]
    rw [if_pos (by omega), if_pos rfl]
  rw [e]
theorem cq_aR (h : k < nK) (hs : s < 6) : xaR (cp nA nK R I J) (some (2000 + 8 * k + 1)) 14 (nI s) KR = KR (some (2000 + 8 * k + 2 + s)) := by
  rw [x1_aR (mQ h (by decide)) kQ1, nQ1, nI_clamp (by omega), vin hs (by decide), true_and]
  have e : cR R (2000 + 8 * k + 1) s = some (2000 + 8 * k + 2 + s) := by
    unfold cR
    rw [if_neg (by simp [dyn]; omega)]
    unfold sR
    repeat rw [if_neg (by omega)]
    rw [if_pos (by omega), if_pos hs]
  rw [e]
theorem cs_I (h : k < nK) (hs : s < 6) : xI (cp nA nK R I J) (some (2000 + 8 * k + 2 + s)) 5 j KI = KI (I (2000 + 8 * k + 2 + s) j) := x1_I (mQs h hs) (kQs hs)
theorem cs_rc (h : k < nK) (hs : s < 6) : xrc (cp nA nK R I J) (some (2000 + 8 * k + 2 + s)) 5 K = K := x1_rc (mQs h hs) (kQs hs)
theorem cs_pI (h : k < nK) (hs : s < 6) : xpI (cp nA nK R I J) (some (2000 + 8 * k + 2 + s)) 5 j v KP = KP (cp nA nK R (p2 I (2000 + 8 * k + 2 + s) j v) J) := x1_pI (mQs h hs) (kQs hs)
theorem cs_pZ (h : k < nK) (hs : s < 6) : xpZ (cp nA nK R I J) (some (2000 + 8 * k + 2 + s)) 5 j v KP = ((v = 0 ∨ v = 1) ∧ KP (cp nA nK R (p2 I (2000 + 8 * k + 2 + s) j v) J)) := x1_pZ (mQs h hs) (kQs hs)
/-! references -/
theorem f0_0 : xR (cp nA nK R I J) (some 0) 8 0 KR = KR (some 1) := x1_R (mS (by decide)) rfl
theorem f0_1 : xR (cp nA nK R I J) (some 0) 8 1 KR = KR (some 3) := x1_R (mS (by decide)) rfl
theorem f0_2 : xR (cp nA nK R I J) (some 0) 8 2 KR = KR (some 4) := x1_R (mS (by decide)) rfl
theorem f0_3 : xR (cp nA nK R I J) (some 0) 8 3 KR = KR (some 7) := x1_R (mS (by decide)) rfl
theorem f0_4 : xR (cp nA nK R I J) (some 0) 8 4 KR = KR (some 17) := x1_R (mS (by decide)) rfl
theorem f0_5 : xR (cp nA nK R I J) (some 0) 8 5 KR = KR (some 23) := x1_R (mS (by decide)) rfl
theorem f0_6 : xR (cp nA nK R I J) (some 0) 8 6 KR = KR (some 24) := x1_R (mS (by decide)) rfl
theorem f0_7 : xR (cp nA nK R I J) (some 0) 8 7 KR = KR (some 25) := x1_R (mS (by decide)) rfl
theorem f1_0 : xR (cp nA nK R I J) (some 1) 7 0 KR = KR (some 2) := x1_R (mS (by decide)) rfl
theorem f3_0 : xR (cp nA nK R I J) (some 3) 4 0 KR = KR (some 1) := x1_R (mS (by decide)) rfl
theorem f4_0 : xR (cp nA nK R I J) (some 4) 2 0 KR = KR (some 5) := x1_R (mS (by decide)) rfl
theorem f4_1 : xR (cp nA nK R I J) (some 4) 2 1 KR = KR (some 6) := x1_R (mS (by decide)) rfl
theorem f7_0 : xR (cp nA nK R I J) (some 7) 6 0 KR = KR (some 4) := x1_R (mS (by decide)) rfl
theorem f7_1 : xR (cp nA nK R I J) (some 7) 6 1 KR = KR (some 8) := x1_R (mS (by decide)) rfl
theorem f7_2 : xR (cp nA nK R I J) (some 7) 6 2 KR = KR (some 9) := x1_R (mS (by decide)) rfl
theorem f7_3 : xR (cp nA nK R I J) (some 7) 6 3 KR = KR (some 10) := x1_R (mS (by decide)) rfl
theorem f7_4 : xR (cp nA nK R I J) (some 7) 6 4 KR = KR (some 11) := x1_R (mS (by decide)) rfl
theorem f7_5 : xR (cp nA nK R I J) (some 7) 6 5 KR = KR (some 12) := x1_R (mS (by decide)) rfl
theorem f7_6 : xR (cp nA nK R I J) (some 7) 6 6 KR = KR (some 13) := x1_R (mS (by decide)) rfl
theorem f7_7 : xR (cp nA nK R I J) (some 7) 6 7 KR = KR (some 14) := x1_R (mS (by decide)) rfl
theorem f7_8 : xR (cp nA nK R I J) (some 7) 6 8 KR = KR (some 15) := x1_R (mS (by decide)) rfl
theorem f7_9 : xR (cp nA nK R I J) (some 7) 6 9 KR = KR (some 16) := x1_R (mS (by decide)) rfl
theorem f17_0 : xR (cp nA nK R I J) (some 17) 1 0 KR = KR (some 4) := x1_R (mS (by decide)) rfl
theorem f17_1 : xR (cp nA nK R I J) (some 17) 1 1 KR = KR (some 18) := x1_R (mS (by decide)) rfl
theorem f17_2 : xR (cp nA nK R I J) (some 17) 1 2 KR = KR (some 19) := x1_R (mS (by decide)) rfl
theorem f17_3 : xR (cp nA nK R I J) (some 17) 1 3 KR = KR (some 20) := x1_R (mS (by decide)) rfl
theorem f17_4 : xR (cp nA nK R I J) (some 17) 1 4 KR = KR (some 21) := x1_R (mS (by decide)) rfl
theorem f17_5 : xR (cp nA nK R I J) (some 17) 1 5 KR = KR (some 22) := x1_R (mS (by decide)) rfl
theorem f0_8 : xR (cp nA nK R I J) (some 0) 8 8 KR = KR (R 0 8) := x1_R (mS (by decide)) rfl
theorem f0_8p : xpR (cp nA nK R I J) (some 0) 8 8 w KP = KP (cp nA nK (p2 R 0 8 w) I J) := x1_pR (mS (by decide)) rfl rfl
theorem f7_10 : xR (cp nA nK R I J) (some 7) 6 10 KR = KR (R 7 10) := x1_R (mS (by decide)) rfl
theorem f7_10p : xpR (cp nA nK R I J) (some 7) 6 10 w KP = KP (cp nA nK (p2 R 7 10 w) I J) := x1_pR (mS (by decide)) rfl rfl
theorem g9 (h : r < 6) : xaR (cp nA nK R I J) (some 9) 15 (nI r) KR = KR (some (26 + r)) := by
  rw [x1_aR (c := 9) (ci := 15) (mS (by decide)) rfl, nI_clamp (by omega), show cN 9 = 6 from rfl, vin h (by decide), true_and]
  have e : cR R 9 r = some (26 + r) := by
    unfold cR
    rw [if_neg (by simp [dyn])]
    unfold sR
    simp [h]
  rw [e]
theorem g9N (h : r < 6) : cN (26 + r) = 250 := by
  unfold cN
  repeat (first | rw [if_pos (by omega)] | rw [if_neg (by omega)])
theorem g9K (h : r < 6) : cK (26 + r) = 10 := by
  unfold cK
  rw [if_neg (by omega), if_pos (by omega)]
theorem g9r (h : r < 6) : xaI (cp nA nK R I J) (some (26 + r)) 10 v KI = (vp_in v 250 ∧ KI (I (26 + r) v.toNatClampNeg)) := by rw [x1_aI (mS (by omega)) (g9K h), g9N h]
theorem g9w (h : r < 6) : xsI (cp nA nK R I J) (some (26 + r)) 10 v x KP = (vp_in v 250 ∧ KP (cp nA nK R (p2 I (26 + r) v.toNatClampNeg x) J)) := by rw [x1_sI (mS (by omega)) (g9K h), g9N h]
theorem g11 (h : r < 6) : xaR (cp nA nK R I J) (some 11) 15 (nI r) KR = KR (some (32 + r)) := by
  rw [x1_aR (c := 11) (ci := 15) (mS (by decide)) rfl, nI_clamp (by omega), show cN 11 = 6 from rfl, vin h (by decide), true_and]
  have e : cR R 11 r = some (32 + r) := by
    unfold cR
    rw [if_neg (by simp [dyn])]
    unfold sR
    simp [h]
  rw [e]
theorem g11N (h : r < 6) : cN (32 + r) = 31 := by
  unfold cN
  repeat (first | rw [if_pos (by omega)] | rw [if_neg (by omega)])
theorem g11K (h : r < 6) : cK (32 + r) = 10 := by
  unfold cK
  rw [if_neg (by omega), if_pos (by omega)]
theorem g11r (h : r < 6) : xaI (cp nA nK R I J) (some (32 + r)) 10 v KI = (vp_in v 31 ∧ KI (I (32 + r) v.toNatClampNeg)) := by rw [x1_aI (mS (by omega)) (g11K h), g11N h]
theorem g11w (h : r < 6) : xsI (cp nA nK R I J) (some (32 + r)) 10 v x KP = (vp_in v 31 ∧ KP (cp nA nK R (p2 I (32 + r) v.toNatClampNeg x) J)) := by rw [x1_sI (mS (by omega)) (g11K h), g11N h]
theorem g12 (h : r < 6) : xaR (cp nA nK R I J) (some 12) 15 (nI r) KR = KR (some (38 + r)) := by
  rw [x1_aR (c := 12) (ci := 15) (mS (by decide)) rfl, nI_clamp (by omega), show cN 12 = 6 from rfl, vin h (by decide), true_and]
  have e : cR R 12 r = some (38 + r) := by
    unfold cR
    rw [if_neg (by simp [dyn])]
    unfold sR
    simp [h]
  rw [e]
theorem g12N (h : r < 6) : cN (38 + r) = 31 := by
  unfold cN
  repeat (first | rw [if_pos (by omega)] | rw [if_neg (by omega)])
theorem g12K (h : r < 6) : cK (38 + r) = 10 := by
  unfold cK
  rw [if_neg (by omega), if_pos (by omega)]
theorem g12r (h : r < 6) : xaI (cp nA nK R I J) (some (38 + r)) 10 v KI = (vp_in v 31 ∧ KI (I (38 + r) v.toNatClampNeg)) := by rw [x1_aI (mS (by omega)) (g12K h), g12N h]
theorem g12w (h : r < 6) : xsI (cp nA nK R I J) (some (38 + r)) 10 v x KP = (vp_in v 31 ∧ KP (cp nA nK R (p2 I (38 + r) v.toNatClampNeg x) J)) := by rw [x1_sI (mS (by omega)) (g12K h), g12N h]
theorem g13 (h : r < 6) : xaR (cp nA nK R I J) (some 13) 15 (nI r) KR = KR (some (44 + r)) := by
  rw [x1_aR (c := 13) (ci := 15) (mS (by decide)) rfl, nI_clamp (by omega), show cN 13 = 6 from rfl, vin h (by decide), true_and]
  have e : cR R 13 r = some (44 + r) := by
    unfold cR
    rw [if_neg (by simp [dyn])]
    unfold sR
    simp [h]
  rw [e]
theorem g13N (h : r < 6) : cN (44 + r) = 31 := by
  unfold cN
  repeat (first | rw [if_pos (by omega)] | rw [if_neg (by omega)])
theorem g13K (h : r < 6) : cK (44 + r) = 10 := by
  unfold cK
  rw [if_neg (by omega), if_pos (by omega)]
theorem g13r (h : r < 6) : xaI (cp nA nK R I J) (some (44 + r)) 10 v KI = (vp_in v 31 ∧ KI (I (44 + r) v.toNatClampNeg)) := by rw [x1_aI (mS (by omega)) (g13K h), g13N h]
theorem g13w (h : r < 6) : xsI (cp nA nK R I J) (some (44 + r)) 10 v x KP = (vp_in v 31 ∧ KP (cp nA nK R (p2 I (44 + r) v.toNatClampNeg x) J)) := by rw [x1_sI (mS (by omega)) (g13K h), g13N h]
theorem g14 (h : r < 6) : xaR (cp nA nK R I J) (some 14) 15 (nI r) KR = KR (some (50 + r)) := by
  rw [x1_aR (c := 14) (ci := 15) (mS (by decide)) rfl, nI_clamp (by omega), show cN 14 = 6 from rfl, vin h (by decide), true_and]
  have e : cR R 14 r = some (50 + r) := by
    unfold cR
    rw [if_neg (by simp [dyn])]
    unfold sR
    simp [h]
  rw [e]
theorem g14N (h : r < 6) : cN (50 + r) = 31 := by
  unfold cN
  repeat (first | rw [if_pos (by omega)] | rw [if_neg (by omega)])
theorem g14K (h : r < 6) : cK (50 + r) = 10 := by
  unfold cK
  rw [if_neg (by omega), if_pos (by omega)]
theorem g14r (h : r < 6) : xaI (cp nA nK R I J) (some (50 + r)) 10 v KI = (vp_in v 31 ∧ KI (I (50 + r) v.toNatClampNeg)) := by rw [x1_aI (mS (by omega)) (g14K h), g14N h]
theorem g14w (h : r < 6) : xsI (cp nA nK R I J) (some (50 + r)) 10 v x KP = (vp_in v 31 ∧ KP (cp nA nK R (p2 I (50 + r) v.toNatClampNeg x) J)) := by rw [x1_sI (mS (by omega)) (g14K h), g14N h]
theorem g15 (h : r < 31) : xaR (cp nA nK R I J) (some 15) 15 (nI r) KR = KR (some (56 + r)) := by
  rw [x1_aR (c := 15) (ci := 15) (mS (by decide)) rfl, nI_clamp (by omega), show cN 15 = 31 from rfl, vin h (by decide), true_and]
  have e : cR R 15 r = some (56 + r) := by
    unfold cR
    rw [if_neg (by simp [dyn])]
    unfold sR
    simp [h]
  rw [e]
theorem g15N (h : r < 31) : cN (56 + r) = 31 := by
  unfold cN
  repeat (first | rw [if_pos (by omega)] | rw [if_neg (by omega)])
theorem g15K (h : r < 31) : cK (56 + r) = 10 := by
  unfold cK
  rw [if_neg (by omega), if_pos (by omega)]
theorem g15r (h : r < 31) : xaI (cp nA nK R I J) (some (56 + r)) 10 v KI = (vp_in v 31 ∧ KI (I (56 + r) v.toNatClampNeg)) := by rw [x1_aI (mS (by omega)) (g15K h), g15N h]
theorem g15w (h : r < 31) : xsI (cp nA nK R I J) (some (56 + r)) 10 v x KP = (vp_in v 31 ∧ KP (cp nA nK R (p2 I (56 + r) v.toNatClampNeg x) J)) := by rw [x1_sI (mS (by omega)) (g15K h), g15N h]
theorem g25 (h : r < 8) : xaR (cp nA nK R I J) (some 25) 15 (nI r) KR = KR (some (87 + r)) := by
  rw [x1_aR (c := 25) (ci := 15) (mS (by decide)) rfl, nI_clamp (by omega), show cN 25 = 8 from rfl, vin h (by decide), true_and]
  have e : cR R 25 r = some (87 + r) := by
    unfold cR
    rw [if_neg (by simp [dyn])]
    unfold sR
    simp [h]
  rw [e]
theorem g25N (h : r < 8) : cN (87 + r) = 31 := by
  unfold cN
  repeat (first | rw [if_pos (by omega)] | rw [if_neg (by omega)])
theorem g25K (h : r < 8) : cK (87 + r) = 10 := by
  unfold cK
  rw [if_neg (by omega), if_pos (by omega)]
theorem g25r (h : r < 8) : xaI (cp nA nK R I J) (some (87 + r)) 10 v KI = (vp_in v 31 ∧ KI (I (87 + r) v.toNatClampNeg)) := by rw [x1_aI (mS (by omega)) (g25K h), g25N h]
theorem g25w (h : r < 8) : xsI (cp nA nK R I J) (some (87 + r)) 10 v x KP = (vp_in v 31 ∧ KP (cp nA nK R (p2 I (87 + r) v.toNatClampNeg x) J)) := by rw [x1_sI (mS (by omega)) (g25K h), g25N h]
theorem h5 : xaR (cp nA nK R I J) (some 5) 12 v KR = (vp_in v 250 ∧ KR (R 5 v.toNatClampNeg)) := x1_aR (mS (by decide)) rfl
theorem h5w (hA : nA ≤ 250) (h : i < nA) : xsR (cp nA nK R I J) (some 5) 12 0 v (some (1000 + i)) KP = (vp_in v 250 ∧ KP (cp nA nK (p2 R 5 v.toNatClampNeg (some (1000 + i))) I J)) := by
  rw [x1_sR (c := 5) (ci := 12) (mS (by decide)) rfl rfl]
  have e : (∀ b, some (1000 + i) = some b → b ∈ cL nA nK ∧ cK b = 0) = True := eq_true fun b hb => by cases hb; exact ⟨mA h, kA (by omega)⟩
  rw [e, true_and]
  rfl
theorem h5z : xsR (cp nA nK R I J) (some 5) 12 0 v none KP = (vp_in v 250 ∧ KP (cp nA nK (p2 R 5 v.toNatClampNeg none) I J)) := by
  rw [x1_sR (c := 5) (ci := 12) (mS (by decide)) rfl rfl]
  have e : (∀ b, (none : Option Nat) = some b → b ∈ cL nA nK ∧ cK b = 0) = True := eq_true fun b hb => by cases hb
  rw [e, true_and]
  rfl
theorem h6 : xaR (cp nA nK R I J) (some 6) 12 v KR = (vp_in v 250 ∧ KR (R 6 v.toNatClampNeg)) := x1_aR (mS (by decide)) rfl
theorem h6w (hA : nA ≤ 250) (h : i < nA) : xsR (cp nA nK R I J) (some 6) 12 0 v (some (1000 + i)) KP = (vp_in v 250 ∧ KP (cp nA nK (p2 R 6 v.toNatClampNeg (some (1000 + i))) I J)) := by
  rw [x1_sR (c := 6) (ci := 12) (mS (by decide)) rfl rfl]
  have e : (∀ b, some (1000 + i) = some b → b ∈ cL nA nK ∧ cK b = 0) = True := eq_true fun b hb => by cases hb; exact ⟨mA h, kA (by omega)⟩
  rw [e, true_and]
  rfl
theorem h6z : xsR (cp nA nK R I J) (some 6) 12 0 v none KP = (vp_in v 250 ∧ KP (cp nA nK (p2 R 6 v.toNatClampNeg none) I J)) := by
  rw [x1_sR (c := 6) (ci := 12) (mS (by decide)) rfl rfl]
  have e : (∀ b, (none : Option Nat) = some b → b ∈ cL nA nK ∧ cK b = 0) = True := eq_true fun b hb => by cases hb
  rw [e, true_and]
  rfl
theorem h8 : xaR (cp nA nK R I J) (some 8) 12 v KR = (vp_in v 250 ∧ KR (R 8 v.toNatClampNeg)) := x1_aR (mS (by decide)) rfl
theorem h8w (hA : nA ≤ 250) (h : i < nA) : xsR (cp nA nK R I J) (some 8) 12 0 v (some (1000 + i)) KP = (vp_in v 250 ∧ KP (cp nA nK (p2 R 8 v.toNatClampNeg (some (1000 + i))) I J)) := by
  rw [x1_sR (c := 8) (ci := 12) (mS (by decide)) rfl rfl]
  have e : (∀ b, some (1000 + i) = some b → b ∈ cL nA nK ∧ cK b = 0) = True := eq_true fun b hb => by cases hb; exact ⟨mA h, kA (by omega)⟩
  rw [e, true_and]
  rfl
theorem h8z : xsR (cp nA nK R I J) (some 8) 12 0 v none KP = (vp_in v 250 ∧ KP (cp nA nK (p2 R 8 v.toNatClampNeg none) I J)) := by
  rw [x1_sR (c := 8) (ci := 12) (mS (by decide)) rfl rfl]
  have e : (∀ b, (none : Option Nat) = some b → b ∈ cL nA nK ∧ cK b = 0) = True := eq_true fun b hb => by cases hb
  rw [e, true_and]
  rfl
theorem h21 : xaR (cp nA nK R I J) (some 21) 12 v KR = (vp_in v 31 ∧ KR (R 21 v.toNatClampNeg)) := x1_aR (mS (by decide)) rfl
theorem h21w (hA : nA ≤ 250) (h : i < nA) : xsR (cp nA nK R I J) (some 21) 12 0 v (some (1000 + i)) KP = (vp_in v 31 ∧ KP (cp nA nK (p2 R 21 v.toNatClampNeg (some (1000 + i))) I J)) := by
  rw [x1_sR (c := 21) (ci := 12) (mS (by decide)) rfl rfl]
  have e : (∀ b, some (1000 + i) = some b → b ∈ cL nA nK ∧ cK b = 0) = True := eq_true fun b hb => by cases hb; exact ⟨mA h, kA (by omega)⟩
  rw [e, true_and]
  rfl
theorem h21z : xsR (cp nA nK R I J) (some 21) 12 0 v none KP = (vp_in v 31 ∧ KP (cp nA nK (p2 R 21 v.toNatClampNeg none) I J)) := by
  rw [x1_sR (c := 21) (ci := 12) (mS (by decide)) rfl rfl]
  have e : (∀ b, (none : Option Nat) = some b → b ∈ cL nA nK ∧ cK b = 0) = True := eq_true fun b hb => by cases hb
  rw [e, true_and]
  rfl
theorem h22 : xaR (cp nA nK R I J) (some 22) 12 v KR = (vp_in v 16 ∧ KR (R 22 v.toNatClampNeg)) := x1_aR (mS (by decide)) rfl
theorem h22w (hA : nA ≤ 250) (h : i < nA) : xsR (cp nA nK R I J) (some 22) 12 0 v (some (1000 + i)) KP = (vp_in v 16 ∧ KP (cp nA nK (p2 R 22 v.toNatClampNeg (some (1000 + i))) I J)) := by
  rw [x1_sR (c := 22) (ci := 12) (mS (by decide)) rfl rfl]
  have e : (∀ b, some (1000 + i) = some b → b ∈ cL nA nK ∧ cK b = 0) = True := eq_true fun b hb => by cases hb; exact ⟨mA h, kA (by omega)⟩
  rw [e, true_and]
  rfl
theorem h22z : xsR (cp nA nK R I J) (some 22) 12 0 v none KP = (vp_in v 16 ∧ KP (cp nA nK (p2 R 22 v.toNatClampNeg none) I J)) := by
  rw [x1_sR (c := 22) (ci := 12) (mS (by decide)) rfl rfl]
  have e : (∀ b, (none : Option Nat) = some b → b ∈ cL nA nK ∧ cK b = 0) = True := eq_true fun b hb => by cases hb
  rw [e, true_and]
  rfl
theorem h23 : xaR (cp nA nK R I J) (some 23) 13 v KR = (vp_in v 8 ∧ KR (R 23 v.toNatClampNeg)) := x1_aR (mS (by decide)) rfl
theorem h23w (h : k < nK) : xsR (cp nA nK R I J) (some 23) 13 3 v (some (2000 + 8 * k)) KP = (vp_in v 8 ∧ KP (cp nA nK (p2 R 23 v.toNatClampNeg (some (2000 + 8 * k))) I J)) := by
  rw [x1_sR (c := 23) (ci := 13) (mS (by decide)) rfl rfl]
  have e : (∀ b, some (2000 + 8 * k) = some b → b ∈ cL nA nK ∧ cK b = 3) = True := eq_true fun b hb => by cases hb; exact ⟨mQ0 h, kQ⟩
  rw [e, true_and]
  rfl
theorem cN2 : cN 2 = 400 := rfl
theorem cN10 : cN 10 = 6 := rfl
theorem cN16 : cN 16 = 250 := rfl
theorem cN18 : cN 18 = 250 := rfl
theorem cN19 : cN 19 = 250 := rfl
theorem cN20 : cN 20 = 250 := rfl
theorem cN24 : cN 24 = 4 := rfl
/-- Arrays.fill -/
def rowF (I : Mem) (c n : Nat) (v : Int32) : Mem := fun d => if d = c then (fun j => if j < n then v else I c j) else I d
theorem rowF_at {n : Nat} (h : j < n) : rowF I c n v c j = v := by simp [rowF, h]
theorem rowF_ne {n d : Nat} (h : d ≠ c) : rowF I c n v d = I d := by simp [rowF, h]
def rowG (I : Mem) (c i n : Nat) (v : Int32) : Mem := fun d => if d = c then (fun j => if i ≤ j ∧ j < n then v else I c j) else I d
theorem rowG_s {n : Nat} (h : i < n) : rowG (p2 I c i v) c (i + 1) n v = rowG I c i n v := by
  funext d j
  unfold rowG
  by_cases e : d = c
  · subst e
    simp only [if_true, p2_at]
    by_cases e2 : j = i
    · subst e2; simp [h]
    · have e3 : (i + 1 ≤ j ∧ j < n) = (i ≤ j ∧ j < n) := propext ⟨fun z => by omega, fun z => by omega⟩
      simp only [e3, if_neg e2]
  · simp only [if_neg e, p2_ne e]
theorem rowG_e {n : Nat} : rowG I c n n v = I := by
  funext d j
  unfold rowG
  by_cases e : d = c
  · subst e
    simp only [if_true]
    rw [if_neg (by omega)]
  · simp only [if_neg e]
theorem rowG_0 {n : Nat} : rowG I c 0 n v = rowF I c n v := by
  funext d j
  unfold rowG rowF
  simp
theorem fill_b (h1 : c ∈ cL nA nK) (h2 : cK c = 10) (h3 : cN c < 2 ^ 31) : ∀ k i I, cN c = i + k → KP (cp nA nK R (rowG I c i (cN c) v) J) → wJ7_fill_53178_5 KP (k + 1) (some c) v (nI i) (nI (cN c)) (cp nA nK R I J) := by
  intro k
  induction k with
  | zero =>
    intro i I hi h
    unfold wJ7_fill_53178_5
    rw [ile (by omega) (by omega), brt (show cN c ≤ i by omega)]
    rw [show i = cN c by omega, rowG_e] at h
    exact h
  | succ k ih =>
    intro i I hi h
    unfold wJ7_fill_53178_5
    rw [ile (by omega) (by omega), brf (show ¬ cN c ≤ i by omega), x1_sI h1 h2, nI_clamp (by omega), vin (by omega) h3, true_and, ix1]
    refine ih (i + 1) _ (by omega) ?_
    rw [rowG_s (by omega)]
    exact h
theorem fill_f (h1 : c ∈ cL nA nK) (h2 : cK c = 10) (h3 : cN c < 2 ^ 31) : ∀ n i I, i ≤ cN c → wJ7_fill_53178_5 KP n (some c) v (nI i) (nI (cN c)) (cp nA nK R I J) → KP (cp nA nK R (rowG I c i (cN c) v) J) := by
  intro n
  induction n with
  | zero => intro i I hi h; unfold wJ7_fill_53178_5 at h; exact False.elim h
  | succ n ih =>
    intro i I hi h
    unfold wJ7_fill_53178_5 at h
    rw [ile (by omega) (by omega)] at h
    by_cases e : cN c ≤ i
    · rw [brt e] at h
      rw [show i = cN c by omega, rowG_e]
      exact h
    · rw [brf e, x1_sI h1 h2, nI_clamp (by omega), vin (by omega) h3, true_and, ix1] at h
      have := ih (i + 1) _ (by omega) h
      rw [rowG_s (by omega)] at this
      exact this
theorem x1_fill (h1 : c ∈ cL nA nK) (h2 : cK c = 10) (h3 : cN c < 2 ^ 31) : wJ7_fill_53178 KP (some c) v (cp nA nK R I J) = KP (cp nA nK R (rowF I c (cN c) v) J) := by
  unfold wJ7_fill_53178
  rw [x1_ln h1 h2]
  refine propext ⟨fun ⟨n, h⟩ => ?_, fun h => ⟨_, fill_b h1 h2 h3 (cN c) 0 I (by omega) ?_⟩⟩
  · have := fill_f h1 h2 h3 n 0 I (by omega) h
    rw [rowG_0] at this
    exact this
  · rw [rowG_0]; exact h
theorem fl10 : wJ7_fill_53178 KP (some 10) v (cp nA nK R I J) = KP (cp nA nK R (rowF I 10 6 v) J) := x1_fill (mS (by decide)) rfl (by decide)
theorem fl16 : wJ7_fill_53178 KP (some 16) v (cp nA nK R I J) = KP (cp nA nK R (rowF I 16 250 v) J) := x1_fill (mS (by decide)) rfl (by decide)
theorem fl18 : wJ7_fill_53178 KP (some 18) v (cp nA nK R I J) = KP (cp nA nK R (rowF I 18 250 v) J) := x1_fill (mS (by decide)) rfl (by decide)
theorem fl20 : wJ7_fill_53178 KP (some 20) v (cp nA nK R I J) = KP (cp nA nK R (rowF I 20 250 v) J) := x1_fill (mS (by decide)) rfl (by decide)
theorem fl24 : wJ7_fill_53178 KP (some 24) v (cp nA nK R I J) = KP (cp nA nK R (rowF I 24 4 v) J) := x1_fill (mS (by decide)) rfl (by decide)
theorem g11f (h : r < 6) : wJ7_fill_53178 KP (some (32 + r)) v (cp nA nK R I J) = KP (cp nA nK R (rowF I (32 + r) 31 v) J) := by rw [x1_fill (mS (by omega)) (g11K h) (by rw [g11N h]; decide), g11N h]
theorem g12f (h : r < 6) : wJ7_fill_53178 KP (some (38 + r)) v (cp nA nK R I J) = KP (cp nA nK R (rowF I (38 + r) 31 v) J) := by rw [x1_fill (mS (by omega)) (g12K h) (by rw [g12N h]; decide), g12N h]
theorem g13f (h : r < 6) : wJ7_fill_53178 KP (some (44 + r)) v (cp nA nK R I J) = KP (cp nA nK R (rowF I (44 + r) 31 v) J) := by rw [x1_fill (mS (by omega)) (g13K h) (by rw [g13N h]; decide), g13N h]
theorem g14f (h : r < 6) : wJ7_fill_53178 KP (some (50 + r)) v (cp nA nK R I J) = KP (cp nA nK R (rowF I (50 + r) 31 v) J) := by rw [x1_fill (mS (by omega)) (g14K h) (by rw [g14N h]; decide), g14N h]
theorem g15f (h : r < 31) : wJ7_fill_53178 KP (some (56 + r)) v (cp nA nK R I J) = KP (cp nA nK R (rowF I (56 + r) 31 v) J) := by rw [x1_fill (mS (by omega)) (g15K h) (by rw [g15N h]; decide), g15N h]
theorem g25f (h : r < 8) : wJ7_fill_53178 KP (some (87 + r)) v (cp nA nK R I J) = KP (cp nA nK R (rowF I (87 + r) 31 v) J) := by rw [x1_fill (mS (by omega)) (g25K h) (by rw [g25N h]; decide), g25N h]
end
