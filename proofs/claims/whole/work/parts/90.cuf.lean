/-! ===== the class's cases: roots ===== -/
def UF (P d rt : Nat → Nat) (H : Nat) : Prop := ∀ x, x < 250 → P x < 250 ∧ rt x < 250 ∧ rt (P x) = rt x ∧ P (rt x) = rt x ∧ (P x = x → rt x = x ∧ d x = 0) ∧ (P x ≠ x → d (P x) < d x) ∧ d x ≤ H
def PR19 (I : Mem) (P : Nat → Nat) : Prop := ∀ x, x < 250 → I 19 x = nI (P x)
section
variable {nA nK H x y a c : Nat} {P d rt : Nat → Nat} {R : RMem} {I I0 D : Mem} {J : Nat → Nat → Int64} {post : Int32 → Pool → Prop} {pst : Pool → Prop} {g : Int32}
theorem UF_half (h : UF P d rt H) (hx : x < 250) (hne : P x ≠ x) : UF (fun y => if y = x then P (P x) else P y) d rt H := by
  obtain ⟨x1, x2, x3, x4, x5, x6, x7⟩ := h x hx
  obtain ⟨z1, z2, z3, z4, z5, z6, z7⟩ := h (P x) x1
  have hd : d (P (P x)) < d x := by
    have := x6 hne
    by_cases e : P (P x) = P x
    · rw [e]; exact this
    · have := z6 e; omega
  intro y hy
  obtain ⟨y1, y2, y3, y4, y5, y6, y7⟩ := h y hy
  have hr : rt y ≠ x := fun z => by
    rw [z] at y4
    exact hne y4
  refine ⟨?_, y2, ?_, by show (if rt y = x then _ else P (rt y)) = rt y; rw [if_neg hr]; exact y4, ?_, ?_, y7⟩
  · show (if y = x then _ else _) < 250
    split
    · exact z1
    · exact y1
  · show rt (if y = x then _ else _) = rt y
    split
    · rename_i e; rw [e, z3, x3]
    · exact y3
  · show (if y = x then _ else _) = y → _
    split
    · rename_i e
      intro z
      rw [z, ← e] at hd
      omega
    · exact y5
  · show (if y = x then _ else _) ≠ y → d (if y = x then _ else _) < d y
    split
    · rename_i e; intro _; rw [e]; exact hd
    · exact y6
theorem v_root4 (hH : H ≤ 500) (hp : ∀ I' P', (∀ c, c ≠ 19 → I' c = I0 c) → PR19 I' P' → UF P' d rt H → (∀ y, y < 250 → (P' y = y ↔ P y = y)) → post (nI (rt x)) (cp nA nK R I' J)) : ∀ k i y I P', 250 = i + k → (∀ c, c ≠ 19 → I c = I0 c) → PR19 I P' → UF P' d rt H → (∀ y, y < 250 → (P' y = y ↔ P y = y)) → y < 250 → rt y = rt x → (P' y = y ∨ d y + 2 * i ≤ 500) → wX1_rootOf_4 post (k + 1) (some 17) (nI y) (nI i) (cp nA nK R I J) := by
  intro k
  induction k with
  | zero =>
    intro i y I P' hi hI hP hU hr hy hrt hb
    have hroot : P' y = y := by
      rcases hb with h | h
      · exact h
      · apply Decidable.byContradiction
        intro hne
        have := (hU y hy).2.2.2.2.2.1 hne
        omega
    have e : rt x = y := by rw [← hrt]; exact ((hU y hy).2.2.2.2.1 hroot).1
    unfold wX1_rootOf_4
    have h250 : (250 : Int32) ≤ nI i := by rw [show (250 : Int32) = nI 250 from rfl, ile (by decide) (by omega)]; omega
    rw [brt h250]
    have := hp I P' hI hP hU hr
    rw [e] at this
    exact this
  | succ k ih =>
    intro i y I P' hi hI hP hU hr hy hrt hb
    obtain ⟨y1, y2, y3, y4, y5, y6, y7⟩ := hU y hy
    obtain ⟨z1, z2, z3, z4, z5, z6, z7⟩ := hU (P' y) y1
    have h250 : ¬ (250 : Int32) ≤ nI i := by rw [show (250 : Int32) = nI 250 from rfl, ile (by decide) (by omega)]; omega
    unfold wX1_rootOf_4
    simp (disch := first | decide | omega) only [brf h250, brT, brF, c_I, c_rc, c_pI, c_pZ, c_aI, c_sI, ca_I, ca_rc, ca_pI, cq_I, cq_rc, cq_pI, cq_R, cq_aR, cs_I, cs_rc, cs_pI, cs_pZ, f0_0, f0_1, f0_2, f0_3, f0_4, f0_5, f0_6, f0_7, f1_0, f3_0, f4_0, f4_1, f7_0, f7_1, f7_2, f7_3, f7_4, f7_5, f7_6, f7_7, f7_8, f7_9, f17_0, f17_1, f17_2, f17_3, f17_4, f17_5, f0_8, f0_8p, f7_10, f7_10p, g9, g9r, g9w, g11, g11r, g11w, g12, g12r, g12w, g13, g13r, g13w, g14, g14r, g14w, g15, g15r, g15w, g25, g25r, g25w, h5, h5w, h5z, h6, h6w, h6z, h8, h8w, h8z, h21, h21w, h21z, h22, h22w, h22z, h23, h23w, fl10, fl16, fl18, fl20, fl24, g11f, g12f, g13f, g14f, g15f, g25f, cN2, cN10, cN16, cN18, cN19, cN20, cN24, z01, z11, ix1, ix2, nI_add, nI_clamp, vin, true_and, and_true, or_true, true_or, hP y hy, hP (P' y) y1, ieq]
    refine brc (fun h => ?_) fun h => ?_
    · have e : rt x = y := by rw [← hrt]; exact (y5 h).1
      have := hp I P' hI hP hU hr
      rw [e] at this
      exact this
    · have hU2 := UF_half hU hy h
      rw [p2_same]
      refine ih (i + 1) (P' (P' y)) _ _ (by omega) (fun c hc => by rw [p2_ne hc]; exact hI c hc) (fun z hz => ?_) hU2 (fun z hz => ?_) z1 (by rw [z3, y3, hrt]) ?_
      · by_cases e : z = y
        · rw [e, p2_same, if_pos rfl]
        · rw [p2_row e, if_neg e]; exact hP z hz
      · rw [← hr z hz]
        by_cases e : z = y
        · rw [if_pos e, e]
          refine ⟨fun q => absurd q ?_, fun q => absurd q h⟩
          intro q
          by_cases e2 : P' (P' y) = P' y
          · exact h (e2.symm.trans q)
          · have := z6 e2
            have := y6 h
            rw [q] at *
            omega
        · rw [if_neg e]
      · have hne : P' (P' y) ≠ y := fun q => by
          by_cases e2 : P' (P' y) = P' y
          · exact h (e2.symm.trans q)
          · have := z6 e2
            have := y6 h
            rw [q] at *
            omega
        rw [if_neg hne]
        by_cases e2 : P' (P' y) = P' y
        · left; rw [e2]; exact e2
        · right
          have a1 := z6 e2
          have a2 := y6 h
          rcases hb with hb | hb
          · exact absurd hb h
          · omega
theorem v_root (hH : H ≤ 500) (hP : PR19 I P) (hU : UF P d rt H) (hx : x < 250) (hp : ∀ I' P', (∀ c, c ≠ 19 → I' c = I c) → PR19 I' P' → UF P' d rt H → (∀ y, y < 250 → (P' y = y ↔ P y = y)) → post (nI (rt x)) (cp nA nK R I' J)) : wX1_rootOf post (some 17) (nI x) (cp nA nK R I J) := by
  unfold wX1_rootOf
  refine ⟨_, v_root4 hH (x := x) (P := P) (I0 := I) hp 250 0 x I P (by omega) (fun _ _ => rfl) hP hU (fun _ _ => Iff.rfl) hx rfl (.inr ?_)⟩
  have := (hU x hx).2.2.2.2.2.2
  omega
theorem UF_link {r1 r2 : Nat} (hU : UF P d rt H) (h1 : r1 < 250) (h2 : r2 < 250) (e1 : P r1 = r1) (e2 : P r2 = r2) : ∃ d', UF (fun y => if y = r1 then r2 else P y) d' (fun y => if rt y = r1 then r2 else rt y) (H + 1) := by
  by_cases hne : r1 = r2
  · subst hne
    refine ⟨d, fun y hy => ?_⟩
    obtain ⟨y1, y2, y3, y4, y5, y6, y7⟩ := hU y hy
    have ep : (fun y => if y = r1 then r1 else P y) = P := by funext z; by_cases e : z = r1 <;> simp [e, e1]
    have er : (fun y => if rt y = r1 then r1 else rt y) = rt := by funext z; by_cases e : rt z = r1 <;> simp [e]
    rw [ep, er]
    exact ⟨y1, y2, y3, y4, y5, y6, by omega⟩
  · have hr1 := ((hU r1 h1).2.2.2.2.1 e1)
    have hr2 := ((hU r2 h2).2.2.2.2.1 e2)
    refine ⟨fun y => if rt y = r1 then d y + 1 else d y, fun y hy => ?_⟩
    obtain ⟨y1, y2, y3, y4, y5, y6, y7⟩ := hU y hy
    have hb : rt r2 = r2 := hr2.1
    refine ⟨?_, ?_, ?_, ?_, ?_, ?_, ?_⟩
    · show (if y = r1 then r2 else P y) < 250; split <;> assumption
    · show (if rt y = r1 then r2 else rt y) < 250; split <;> assumption
    · show (if rt (if y = r1 then r2 else P y) = r1 then r2 else rt (if y = r1 then r2 else P y)) = (if rt y = r1 then r2 else rt y)
      by_cases e : y = r1
      · subst e
        rw [if_pos rfl, if_pos hr1.1, hb, if_neg (Ne.symm hne)]
      · rw [if_neg e, y3]
    · show (if (if rt y = r1 then r2 else rt y) = r1 then r2 else P (if rt y = r1 then r2 else rt y)) = (if rt y = r1 then r2 else rt y)
      by_cases e : rt y = r1
      · rw [if_pos e, if_neg (Ne.symm hne)]; exact e2
      · rw [if_neg e, if_neg e]; exact y4
    · show (if y = r1 then r2 else P y) = y → (if rt y = r1 then r2 else rt y) = y ∧ (if rt y = r1 then d y + 1 else d y) = 0
      by_cases e : y = r1
      · subst e
        rw [if_pos rfl]
        intro z; exact absurd z.symm hne
      · rw [if_neg e]
        intro z
        obtain ⟨a, b⟩ := y5 z
        rw [a, if_neg e, if_neg e]
        exact ⟨rfl, b⟩
    · show (if y = r1 then r2 else P y) ≠ y → (if rt (if y = r1 then r2 else P y) = r1 then d (if y = r1 then r2 else P y) + 1 else d (if y = r1 then r2 else P y)) < (if rt y = r1 then d y + 1 else d y)
      by_cases e : y = r1
      · subst e
        rw [if_pos rfl, hb, if_neg (Ne.symm hne), if_pos hr1.1, hr2.2]
        intro _; omega
      · rw [if_neg e, y3]
        intro z
        have := y6 z
        split <;> omega
    · show (if rt y = r1 then d y + 1 else d y) ≤ H + 1
      split <;> omega
/-- link: c is earlier, a later -/
theorem v_link (hA : nA ≤ 250) (hH : H + 1 ≤ 500) (hAC : AC D nA R I) (hP : PR19 I P) (hU : UF P d rt H) (ha : a < nA) (hc : c < nA) (hp : ∀ I' P' d' rt' H', (∀ j, j ≠ 19 → I' j = I j) → PR19 I' P' → UF P' d' rt' H' → H' ≤ H + 1 → (¬ g < D 8 a - D 8 c → rt' = fun y => if rt y = rt a then rt c else rt y) → (g < D 8 a - D 8 c → rt' = rt) → pst (cp nA nK R I' J)) : wX1_link pst (some 17) (some (1000 + c)) (some (1000 + a)) g (cp nA nK R I J) := by
  obtain ⟨_, a0, _, _, a5, _⟩ := hAC a ha
  obtain ⟨_, c0, _, _, c5, _⟩ := hAC c hc
  unfold wX1_link
  rw [brf (by simp)]
  simp (disch := first | decide | omega) only [brT, brF, c_I, c_rc, c_pI, c_pZ, c_aI, c_sI, ca_I, ca_rc, ca_pI, cq_I, cq_rc, cq_pI, cq_R, cq_aR, cs_I, cs_rc, cs_pI, cs_pZ, f0_0, f0_1, f0_2, f0_3, f0_4, f0_5, f0_6, f0_7, f1_0, f3_0, f4_0, f4_1, f7_0, f7_1, f7_2, f7_3, f7_4, f7_5, f7_6, f7_7, f7_8, f7_9, f17_0, f17_1, f17_2, f17_3, f17_4, f17_5, f0_8, f0_8p, f7_10, f7_10p, g9, g9r, g9w, g11, g11r, g11w, g12, g12r, g12w, g13, g13r, g13w, g14, g14r, g14w, g15, g15r, g15w, g25, g25r, g25w, h5, h5w, h5z, h6, h6w, h6z, h8, h8w, h8z, h21, h21w, h21z, h22, h22w, h22z, h23, h23w, fl10, fl16, fl18, fl20, fl24, g11f, g12f, g13f, g14f, g15f, g25f, cN2, cN10, cN16, cN18, cN19, cN20, cN24, z01, z11, ix1, ix2, nI_add, nI_clamp, vin, true_and, and_true, or_true, true_or, a5, c5, a0]
  refine brc (fun h => ?_) fun h => ?_
  · exact hp I P d rt H (fun _ _ => rfl) hP hU (by omega) (fun z => absurd h z) (fun _ => rfl)
  · refine v_root (by omega) hP hU (show a < 250 by omega) fun I1 P1 b1 b2 b3 b4 => ?_
    have c0' : I1 (1000 + c) 0 = nI c := by rw [b1 _ (by omega)]; exact c0
    simp (disch := first | decide | omega) only [brT, brF, c_I, c_rc, c_pI, c_pZ, c_aI, c_sI, ca_I, ca_rc, ca_pI, cq_I, cq_rc, cq_pI, cq_R, cq_aR, cs_I, cs_rc, cs_pI, cs_pZ, f0_0, f0_1, f0_2, f0_3, f0_4, f0_5, f0_6, f0_7, f1_0, f3_0, f4_0, f4_1, f7_0, f7_1, f7_2, f7_3, f7_4, f7_5, f7_6, f7_7, f7_8, f7_9, f17_0, f17_1, f17_2, f17_3, f17_4, f17_5, f0_8, f0_8p, f7_10, f7_10p, g9, g9r, g9w, g11, g11r, g11w, g12, g12r, g12w, g13, g13r, g13w, g14, g14r, g14w, g15, g15r, g15w, g25, g25r, g25w, h5, h5w, h5z, h6, h6w, h6z, h8, h8w, h8z, h21, h21w, h21z, h22, h22w, h22z, h23, h23w, fl10, fl16, fl18, fl20, fl24, g11f, g12f, g13f, g14f, g15f, g25f, cN2, cN10, cN16, cN18, cN19, cN20, cN24, z01, z11, ix1, ix2, nI_add, nI_clamp, vin, true_and, and_true, or_true, true_or, c0']
    refine v_root (by omega) b2 b3 (show c < 250 by omega) fun I2 P2 d1 d2 d3 d4 => ?_
    obtain ⟨_, ra, _, rpa, _⟩ := d3 a (by omega)
    obtain ⟨_, rc, _, rpc, _⟩ := d3 c (by omega)
    simp (disch := first | decide | omega) only [brT, brF, c_I, c_rc, c_pI, c_pZ, c_aI, c_sI, ca_I, ca_rc, ca_pI, cq_I, cq_rc, cq_pI, cq_R, cq_aR, cs_I, cs_rc, cs_pI, cs_pZ, f0_0, f0_1, f0_2, f0_3, f0_4, f0_5, f0_6, f0_7, f1_0, f3_0, f4_0, f4_1, f7_0, f7_1, f7_2, f7_3, f7_4, f7_5, f7_6, f7_7, f7_8, f7_9, f17_0, f17_1, f17_2, f17_3, f17_4, f17_5, f0_8, f0_8p, f7_10, f7_10p, g9, g9r, g9w, g11, g11r, g11w, g12, g12r, g12w, g13, g13r, g13w, g14, g14r, g14w, g15, g15r, g15w, g25, g25r, g25w, h5, h5w, h5z, h6, h6w, h6z, h8, h8w, h8z, h21, h21w, h21z, h22, h22w, h22z, h23, h23w, fl10, fl16, fl18, fl20, fl24, g11f, g12f, g13f, g14f, g15f, g25f, cN2, cN10, cN16, cN18, cN19, cN20, cN24, z01, z11, ix1, ix2, nI_add, nI_clamp, vin, true_and, and_true, or_true, true_or]
    obtain ⟨d', hd'⟩ := UF_link d3 ra rc rpa rpc
    refine hp _ _ d' _ (H + 1) (fun j hj => by rw [p2_ne hj, d1 j hj, b1 j hj]) (fun y hy => ?_) hd' (Nat.le_refl _) (fun _ => rfl) (fun z => absurd z h)
    by_cases e : y = rt a
    · rw [e, p2_same, if_pos rfl]
    · rw [p2_row e, if_neg e]; exact d2 y hy
end
