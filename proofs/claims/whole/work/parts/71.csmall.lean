/-! ===== the class: acts, steps, small methods ===== -/
noncomputable def lst1 (p : Nat → Prop) : Nat → Nat → Nat
  | 0, k => k
  | n + 1, k => @ite _ (p k) (Classical.propDecidable _) k (lst1 p n (k + 1))
theorem lst1_ok {p : Nat → Prop} : ∀ {n k : Nat}, k ≤ lst1 p n k ∧ lst1 p n k ≤ k + n ∧ (∀ b, k ≤ b → b < lst1 p n k → ¬ p b) ∧ (lst1 p n k < k + n → p (lst1 p n k)) := by
  intro n
  induction n with
  | zero => intro k; unfold lst1; exact ⟨Nat.le_refl _, Nat.le_refl _, fun b h1 h2 => by omega, fun h => by omega⟩
  | succ n ih =>
    intro k
    unfold lst1
    by_cases h : p k
    · rw [if_pos h]
      exact ⟨Nat.le_refl _, by omega, fun b h1 h2 => by omega, fun _ => h⟩
    · rw [if_neg h]
      obtain ⟨a1, a2, a3, a4⟩ := @ih (k + 1)
      refine ⟨by omega, by omega, fun b h1 h2 => ?_, fun h => a4 (by omega)⟩
      by_cases e : b = k
      · rw [e]; exact h
      · exact a3 b (by omega) h2
noncomputable def fam (D : Mem) (i : Nat) : Nat := lst1 (alk D i) i 0
theorem alk_rfl {D : Mem} {a : Nat} : alk D a a := ⟨rfl, rfl, rfl⟩
theorem alk_sym {D : Mem} {a b : Nat} (h : alk D a b) : alk D b a := ⟨h.1.symm, h.2.1.symm, h.2.2.symm⟩
theorem alk_trans {D : Mem} {a b c : Nat} (h : alk D a b) (h' : alk D b c) : alk D a c := ⟨h'.1.trans h.1, h'.2.1.trans h.2.1, h'.2.2.trans h.2.2⟩
theorem fam_ok {D : Mem} {i : Nat} : fam D i ≤ i ∧ alk D i (fam D i) ∧ ∀ b, b < fam D i → ¬ alk D i b := by
  obtain ⟨a1, a2, a3, a4⟩ := @lst1_ok (alk D i) i 0
  refine ⟨by unfold fam; omega, ?_, fun b hb => a3 b (Nat.zero_le _) hb⟩
  unfold fam
  by_cases h : lst1 (alk D i) i 0 < 0 + i
  · exact a4 h
  · rw [show lst1 (alk D i) i 0 = i by omega]; exact alk_rfl
theorem fam_eq {D : Mem} {a b : Nat} : fam D a = fam D b ↔ alk D a b := by
  obtain ⟨a1, a2, a3⟩ := @fam_ok D a
  obtain ⟨b1, b2, b3⟩ := @fam_ok D b
  constructor
  · intro h
    rw [h] at a2
    exact alk_trans a2 (alk_sym b2)
  · intro h
    have c1 := a3 (fam D b)
    have c2 := b3 (fam D a)
    by_cases e : fam D a < fam D b
    · exact absurd (alk_trans (alk_sym h) a2) (c2 e)
    · by_cases e2 : fam D b < fam D a
      · exact absurd (alk_trans h b2) (c1 e2)
      · omega
/-- the acts of the class are those of D -/
def AC (D : Mem) (nA : Nat) (R : RMem) (I : Mem) : Prop := ∀ i, i < nA → R 5 i = some (1000 + i) ∧ I (1000 + i) 0 = nI i ∧ I (1000 + i) 1 = D 6 i ∧ (∀ f, f < 3 → I (1000 + i) (2 + f) = D 7 (3 * i + f)) ∧ I (1000 + i) 5 = D 8 i ∧ I (1000 + i) 6 = D 9 i ∧ I (1000 + i) 7 = D 10 i ∧ I (1000 + i) 8 = nI (fam D i)
def BT (D : Mem) (nA : Nat) (R : RMem) : Prop := ∀ k, k < nA → R 6 k = some (1000 + (byT D nA).getD k 0)
def LG (D : Mem) (nA : Nat) (I : Mem) : Prop := I 4 2 = nI nA ∧ I 4 3 = D 0 5 ∧ I 4 4 = nI (cnt (fun a => D 8 a < D 9 a) nA)
def tk (D : Mem) (i : Nat) : Nat := (D 8 i).toNatClampNeg
def td (D : Mem) (i : Nat) : Nat := (D 9 i).toNatClampNeg
def vv (D : Mem) (i f : Nat) : Nat := (D 7 (3 * i + f)).toNatClampNeg
/-- D's acts are told in order, with ticks up to nw -/
def WA (D : Mem) (nA nw : Nat) : Prop := nA ≤ 250 ∧ nw ≤ 1000000 ∧ ∀ i, i < nA → D 8 i = nI (tk D i) ∧ D 9 i = nI (td D i) ∧ tk D i ≤ td D i ∧ td D i ≤ nw ∧ (∀ f, f < 3 → D 7 (3 * i + f) = nI (vv D i f) ∧ vv D i f < 31) ∧ vv D i 2 < 16 ∧ ∀ j, j < i → td D j ≤ td D i
theorem byT_lt {D : Mem} {n k : Nat} (h : k < n) : (byT D n).getD k 0 < n := by
  have hl : k < (byT D n).length := by rw [byT_len]; exact h
  rw [getD_lt hl]
  exact byT_mem.mp (List.getElem_mem hl)
section
variable {nA nK : Nat} {R : RMem} {I D : Mem} {J : Nat → Nat → Int64} {k i s f nw a b : Nat} {t v : Int32} {post : Int32 → Pool → Prop} {pst : Pool → Prop} {pr : Option Nat → Pool → Prop} {pox : String → Pool → Prop}
theorem v_valueIn (hA : nA ≤ 250) (h : i < nA) (hf : f < 3) : wX0_valueIn post (some (1000 + i)) (nI f) (cp nA nK R I J) = post (I (1000 + i) (2 + f)) (cp nA nK R I J) := by
  unfold wX0_valueIn
  rcases (show f = 0 ∨ f = 1 ∨ f = 2 by omega) with rfl | rfl | rfl
  · rw [brt (by decide), ca_I hA h]
  · rw [brf (by decide), brt (by decide), ca_I hA h]
  · rw [brf (by decide), brf (by decide), ca_I hA h]
def adm (I : Mem) (c i : Nat) : Prop := I (1000 + i) 1 = I c 0 ∧ (I c 1 = -1 ∨ I (1000 + i) 2 = I c 1) ∧ (I c 2 = -1 ∨ I (1000 + i) 3 = I c 2) ∧ (I c 3 = -1 ∨ I (1000 + i) 4 = I c 3)
theorem v_admits (hA : nA ≤ 250) (h : i < nA) (hk : k < nK) (hs : s < 6) : wX5_admits post (some (2000 + 8 * k + 2 + s)) (some (1000 + i)) (cp nA nK R I J) = post (bI (adm I (2000 + 8 * k + 2 + s) i)) (cp nA nK R I J) := by
  unfold wX5_admits wX5_admits_30 wX5_admits_49 wX5_admits_68
  simp (disch := first | decide | omega) only [c_I, c_rc, c_pI, c_pZ, c_aI, c_sI, ca_I, ca_rc, ca_pI, cq_I, cq_rc, cq_pI, cq_R, cq_aR, cs_I, cs_rc, cs_pI, cs_pZ, f0_0, f0_1, f0_2, f0_3, f0_4, f0_5, f0_6, f0_7, f1_0, f3_0, f4_0, f4_1, f7_0, f7_1, f7_2, f7_3, f7_4, f7_5, f7_6, f7_7, f7_8, f7_9, f17_0, f17_1, f17_2, f17_3, f17_4, f17_5, f0_8, f0_8p, f7_10, f7_10p, g9, g9r, g9w, g11, g11r, g11w, g12, g12r, g12w, g13, g13r, g13w, g14, g14r, g14w, g15, g15r, g15w, g25, g25r, g25w, h5, h5w, h5z, h6, h6w, h6z, h8, h8w, h8z, h21, h21w, h21z, h22, h22w, h22z, h23, h23w, fl10, fl16, fl18, fl20, fl24, g11f, g12f, g13f, g14f, g15f, g25f, cN2, cN10, cN16, cN18, cN19, cN20, cN24, z01, z11, ix1, ix2, nI_add, nI_clamp, vin, true_and, and_true, or_true, true_or, br_if]
  repeat' split
  all_goals first | (rw [bI_t (by unfold adm; grind)]) | (rw [bI_f (by unfold adm; grind)])
theorem v_alike (hA : nA ≤ 250) (h : i < nA) (h2 : a < nA) : wX0_isAlike post (some (1000 + i)) (some (1000 + a)) (cp nA nK R I J) = post (bI (I (1000 + i) 1 = I (1000 + a) 1 ∧ I (1000 + i) 2 = I (1000 + a) 2 ∧ I (1000 + i) 3 = I (1000 + a) 3)) (cp nA nK R I J) := by
  unfold wX0_isAlike
  simp (disch := first | decide | omega) only [c_I, c_rc, c_pI, c_pZ, c_aI, c_sI, ca_I, ca_rc, ca_pI, cq_I, cq_rc, cq_pI, cq_R, cq_aR, cs_I, cs_rc, cs_pI, cs_pZ, f0_0, f0_1, f0_2, f0_3, f0_4, f0_5, f0_6, f0_7, f1_0, f3_0, f4_0, f4_1, f7_0, f7_1, f7_2, f7_3, f7_4, f7_5, f7_6, f7_7, f7_8, f7_9, f17_0, f17_1, f17_2, f17_3, f17_4, f17_5, f0_8, f0_8p, f7_10, f7_10p, g9, g9r, g9w, g11, g11r, g11w, g12, g12r, g12w, g13, g13r, g13w, g14, g14r, g14w, g15, g15r, g15w, g25, g25r, g25w, h5, h5w, h5z, h6, h6w, h6z, h8, h8w, h8z, h21, h21w, h21z, h22, h22w, h22z, h23, h23w, fl10, fl16, fl18, fl20, fl24, g11f, g12f, g13f, g14f, g15f, g25f, cN2, cN10, cN16, cN18, cN19, cN20, cN24, z01, z11, ix1, ix2, nI_add, nI_clamp, vin, true_and, and_true, or_true, true_or, br_if]
  repeat' split
  all_goals first | (rw [bI_t (by grind)]) | (rw [bI_f (by grind)])
theorem v_tells (hk : k < nK) (hs : s < 6) (hf : f < 3) : wX5_tells post (some (2000 + 8 * k + 2 + s)) (nI f) (cp nA nK R I J) = post (bI (¬ I (2000 + 8 * k + 2 + s) (1 + f) = -1)) (cp nA nK R I J) := by
  unfold wX5_tells wX5_tells_27
  rcases (show f = 0 ∨ f = 1 ∨ f = 2 by omega) with rfl | rfl | rfl
  · rw [brt (by decide)]
    simp (disch := first | decide | omega) only [c_I, c_rc, c_pI, c_pZ, c_aI, c_sI, ca_I, ca_rc, ca_pI, cq_I, cq_rc, cq_pI, cq_R, cq_aR, cs_I, cs_rc, cs_pI, cs_pZ, f0_0, f0_1, f0_2, f0_3, f0_4, f0_5, f0_6, f0_7, f1_0, f3_0, f4_0, f4_1, f7_0, f7_1, f7_2, f7_3, f7_4, f7_5, f7_6, f7_7, f7_8, f7_9, f17_0, f17_1, f17_2, f17_3, f17_4, f17_5, f0_8, f0_8p, f7_10, f7_10p, g9, g9r, g9w, g11, g11r, g11w, g12, g12r, g12w, g13, g13r, g13w, g14, g14r, g14w, g15, g15r, g15w, g25, g25r, g25w, h5, h5w, h5z, h6, h6w, h6z, h8, h8w, h8z, h21, h21w, h21z, h22, h22w, h22z, h23, h23w, fl10, fl16, fl18, fl20, fl24, g11f, g12f, g13f, g14f, g15f, g25f, cN2, cN10, cN16, cN18, cN19, cN20, cN24, z01, z11, ix1, ix2, nI_add, nI_clamp, vin, true_and, and_true, or_true, true_or, br_if]
    split
    · rw [bI_f (by simp_all)]
    · rw [bI_t (by simp_all)]
  · rw [brf (by decide), brt (by decide)]
    simp (disch := first | decide | omega) only [c_I, c_rc, c_pI, c_pZ, c_aI, c_sI, ca_I, ca_rc, ca_pI, cq_I, cq_rc, cq_pI, cq_R, cq_aR, cs_I, cs_rc, cs_pI, cs_pZ, f0_0, f0_1, f0_2, f0_3, f0_4, f0_5, f0_6, f0_7, f1_0, f3_0, f4_0, f4_1, f7_0, f7_1, f7_2, f7_3, f7_4, f7_5, f7_6, f7_7, f7_8, f7_9, f17_0, f17_1, f17_2, f17_3, f17_4, f17_5, f0_8, f0_8p, f7_10, f7_10p, g9, g9r, g9w, g11, g11r, g11w, g12, g12r, g12w, g13, g13r, g13w, g14, g14r, g14w, g15, g15r, g15w, g25, g25r, g25w, h5, h5w, h5z, h6, h6w, h6z, h8, h8w, h8z, h21, h21w, h21z, h22, h22w, h22z, h23, h23w, fl10, fl16, fl18, fl20, fl24, g11f, g12f, g13f, g14f, g15f, g25f, cN2, cN10, cN16, cN18, cN19, cN20, cN24, z01, z11, ix1, ix2, nI_add, nI_clamp, vin, true_and, and_true, or_true, true_or, br_if]
    split
    · rw [bI_f (by simp_all)]
    · rw [bI_t (by simp_all)]
  · rw [brf (by decide), brf (by decide)]
    simp (disch := first | decide | omega) only [c_I, c_rc, c_pI, c_pZ, c_aI, c_sI, ca_I, ca_rc, ca_pI, cq_I, cq_rc, cq_pI, cq_R, cq_aR, cs_I, cs_rc, cs_pI, cs_pZ, f0_0, f0_1, f0_2, f0_3, f0_4, f0_5, f0_6, f0_7, f1_0, f3_0, f4_0, f4_1, f7_0, f7_1, f7_2, f7_3, f7_4, f7_5, f7_6, f7_7, f7_8, f7_9, f17_0, f17_1, f17_2, f17_3, f17_4, f17_5, f0_8, f0_8p, f7_10, f7_10p, g9, g9r, g9w, g11, g11r, g11w, g12, g12r, g12w, g13, g13r, g13w, g14, g14r, g14w, g15, g15r, g15w, g25, g25r, g25w, h5, h5w, h5z, h6, h6w, h6z, h8, h8w, h8z, h21, h21w, h21z, h22, h22w, h22z, h23, h23w, fl10, fl16, fl18, fl20, fl24, g11f, g12f, g13f, g14f, g15f, g25f, cN2, cN10, cN16, cN18, cN19, cN20, cN24, z01, z11, ix1, ix2, nI_add, nI_clamp, vin, true_and, and_true, or_true, true_or, br_if]
    split
    · rw [bI_f (by simp_all)]
    · rw [bI_t (by simp_all)]
theorem v_tell (hk : k < nK) (hs : s < 6) (hf : f < 3) : wX5_tell pst (some (2000 + 8 * k + 2 + s)) (nI f) v (cp nA nK R I J) = pst (cp nA nK R (p2 I (2000 + 8 * k + 2 + s) (1 + f) v) J) := by
  unfold wX5_tell
  rcases (show f = 0 ∨ f = 1 ∨ f = 2 by omega) with rfl | rfl | rfl
  · rw [brt (by decide), cs_pI hk hs]
  · rw [brf (by decide), brt (by decide), cs_pI hk hs]
  · rw [brf (by decide), brf (by decide), cs_pI hk hs]
theorem v_below {S : Pool} {x y : Int32} : wX8_isBelow post x y S = post (bI (0 ≤ x ∧ x < y)) S := by
  unfold wX8_isBelow
  simp (disch := first | decide | omega) only [z01, z11, true_and, true_or, or_true, br_if]
  repeat' split
  all_goals first | (rw [bI_t (by rw [Int32.le_iff_toInt_le, Int32.lt_iff_toInt_lt] at *; simp at *; omega)]) | (rw [bI_f (by rw [Int32.le_iff_toInt_le, Int32.lt_iff_toInt_lt] at *; simp at *; omega)])
theorem v_lactAt (hl : I 4 2 = nI nA) (hA : nA ≤ 250) : wX2_actAt pr (some 4) v (cp nA nK R I J) = if 0 ≤ v ∧ v < nI nA then pr (R 5 v.toNatClampNeg) (cp nA nK R I J) else pr none (cp nA nK R I J) := by
  unfold wX2_actAt wX2_actAt_21
  simp (disch := first | decide | omega) only [c_I, c_rc, c_pI, c_pZ, c_aI, c_sI, ca_I, ca_rc, ca_pI, cq_I, cq_rc, cq_pI, cq_R, cq_aR, cs_I, cs_rc, cs_pI, cs_pZ, f0_0, f0_1, f0_2, f0_3, f0_4, f0_5, f0_6, f0_7, f1_0, f3_0, f4_0, f4_1, f7_0, f7_1, f7_2, f7_3, f7_4, f7_5, f7_6, f7_7, f7_8, f7_9, f17_0, f17_1, f17_2, f17_3, f17_4, f17_5, f0_8, f0_8p, f7_10, f7_10p, g9, g9r, g9w, g11, g11r, g11w, g12, g12r, g12w, g13, g13r, g13w, g14, g14r, g14w, g15, g15r, g15w, g25, g25r, g25w, h5, h5w, h5z, h6, h6w, h6z, h8, h8w, h8z, h21, h21w, h21z, h22, h22w, h22z, h23, h23w, fl10, fl16, fl18, fl20, fl24, g11f, g12f, g13f, g14f, g15f, g25f, cN2, cN10, cN16, cN18, cN19, cN20, cN24, z01, z11, ix1, ix2, nI_add, nI_clamp, vin, true_and, and_true, or_true, true_or, hl, br_if]
  by_cases h1 : v < 0
  · rw [if_pos h1, if_neg (fun z => Int32.not_le.mpr h1 z.1)]
  · rw [if_neg h1]
    by_cases h2 : nI nA ≤ v
    · rw [if_pos h2, if_neg (fun z => Int32.not_le.mpr z.2 h2)]
    · rw [if_neg h2, if_pos ⟨Int32.not_lt.mp h1, Int32.not_le.mp h2⟩]
      obtain ⟨m, hm, rfl⟩ := nI_of h1
      rw [ile (by omega) hm] at h2
      simp (disch := first | decide | omega) only [vin, true_and]
end
