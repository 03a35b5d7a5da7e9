/-! ===== the class's reader: steps ===== -/
def FK (k : Nat) (I I' : Mem) : Prop := ∀ c, c ≠ 3 → ¬ (2000 + 8 * k ≤ c ∧ c < 2000 + 8 * k + 8) → I' c = I c
def SRp (Q : Mem) (s : Nat) (I : Mem) (k : Nat) : Prop := (∀ f, f < 3 → I (2000 + 8 * k + 2 + s) (1 + f) = Q 16 (3 * (48 + s) + f)) ∧ I (2000 + 8 * k + 2 + s) 4 = Q 14 (48 + s) ∧ I (2000 + 8 * k + 2 + s) 5 = Q 17 (48 + s) ∧ I (2000 + 8 * k + 2 + s) 6 = Q 18 (48 + s) ∧ I (2000 + 8 * k + 2 + s) 7 = nI (rk Q 8 s)
def SR1 (Q : Mem) (s : Nat) (I : Mem) (k : Nat) : Prop := I (2000 + 8 * k + 2 + s) 0 = Q 15 (48 + s) ∧ SRp Q s I k
/-- the draft is Q's question, with m steps -/
def QD (Q : Mem) (m : Nat) (I : Mem) (k : Nat) : Prop := I (2000 + 8 * k) 1 = nI m ∧ I (2000 + 8 * k) 2 = nI (rk Q 8 m) ∧ I (2000 + 8 * k) 3 = Q 12 8 ∧ I (2000 + 8 * k) 4 = Q 19 8 ∧ I (2000 + 8 * k) 7 = Q 0 32 ∧ ∀ s, s < m → SR1 Q s I k
section
variable {T : Nat → Int32} {nA nK n p e k w s : Nat} {R : RMem} {I I0 Q : Mem} {J : Nat → Nat → Int64} {post : Int32 → Pool → Prop} {pst : Pool → Prop} {v lo hi : Int32}
theorem FK_rfl : FK k I I := fun _ _ _ => rfl
theorem FK_trans {I' I'' : Mem} (h : FK k I I') (h' : FK k I' I'') : FK k I I'' := fun c a b => (h' c a b).trans (h c a b)
theorem FK_rf {I' : Mem} (h : RF I I') : FK k I I' := fun c a _ => h.1 c a
theorem FK_q {I' : Mem} {j : Nat} (h : FK k I I') : FK k I (p2 I' (2000 + 8 * k) j v) := fun c a b => (p2_ne (by omega)).trans (h c a b)
theorem FK_s {I' : Mem} {j : Nat} (h : FK k I I') (hs : s < 6) : FK k I (p2 I' (2000 + 8 * k + 2 + s) j v) := fun c a b => (p2_ne (by omega)).trans (h c a b)
theorem FK_3 {I' : Mem} {j : Nat} (h : FK k I I') : FK k I (p2 I' 3 j v) := fun c a b => (p2_ne a).trans (h c a b)
theorem TP_fk {I' : Mem} (h : TP T n I) (hf : FK k I I') : TP T n I' := TP_cg h (hf 1 (by decide) (by omega)) (hf 2 (by decide) (by omega))
theorem QD_cg {I' : Mem} {m : Nat} (h : QD Q m I k) (h1 : ∀ c, c ≠ 3 → I' c = I c) : QD Q m I' k := by
  unfold QD SR1 SRp at h ⊢
  rw [h1 (2000 + 8 * k) (by omega)]
  refine ⟨h.1, h.2.1, h.2.2.1, h.2.2.2.1, h.2.2.2.2.1, fun s hs => ?_⟩
  rw [h1 (2000 + 8 * k + 2 + s) (by omega)]
  exact h.2.2.2.2.2 s hs
theorem pnd_s {w : Bool} : pnd Q w (s + 1) = (decide (¬ Q 14 (48 + s) = 0) && ((decide (¬ Q 18 (48 + s) = -1) == w) || pnd Q w s)) := rfl
/-- the flags behind a step -/
theorem v_67 (hk : k < nK) (hs : s < 6) (hD : QD Q (s + 1) I k) (hb : I 3 4 = bI (pnd Q true s = true)) (hl : I 3 5 = bI (pnd Q false s = true)) (hp : ∀ I', (∀ c, c ≠ 3 → I' c = I c) → I' 3 1 = I 3 1 → I' 3 2 = I 3 2 → I' 3 3 = I 3 3 → I' 3 4 = bI (pnd Q true (s + 1) = true) → I' 3 5 = bI (pnd Q false (s + 1) = true) → post 1 (cp nA nK R I' J)) : wX4_readsTail_67 post (some 3) (some (2000 + 8 * k + 2 + s)) (cp nA nK R I J) := by
  obtain ⟨_, _, e4, e5, e6, _⟩ := hD.2.2.2.2.2 s (by omega)
  have fin : ∀ x y, x = bI (pnd Q true (s + 1) = true) → y = bI (pnd Q false (s + 1) = true) → post 1 (cp nA nK R (p2 (p2 I 3 4 x) 3 5 y) J) := fun x y hx hy => by
    refine hp _ (fun c hc => by rw [p2_ne hc, p2_ne hc]) ?_ ?_ ?_ ?_ ?_
    · rw [p2_row (by decide), p2_row (by decide)]
    · rw [p2_row (by decide), p2_row (by decide)]
    · rw [p2_row (by decide), p2_row (by decide)]
    · rw [p2_row (by decide), p2_same, hx]
    · rw [p2_same, hy]
  have e8 : ∀ x : Int32, p2 I 3 4 x 3 5 = I 3 5 := fun x => p2_row (by decide)
  unfold wX4_readsTail_67 wX4_readsTail_90 wX4_readsTail_94 wX4_readsTail_95 wX4_readsTail_121 wX4_readsTail_125 wX4_readsTail_126
  simp (disch := first | decide | omega) only [brT, brF, c_I, c_rc, c_pI, c_pZ, c_aI, c_sI, ca_I, ca_rc, ca_pI, cq_I, cq_rc, cq_pI, cq_R, cq_aR, cs_I, cs_rc, cs_pI, cs_pZ, f0_0, f0_1, f0_2, f0_3, f0_4, f0_5, f0_6, f0_7, f1_0, f3_0, f4_0, f4_1, f7_0, f7_1, f7_2, f7_3, f7_4, f7_5, f7_6, f7_7, f7_8, f7_9, f17_0, f17_1, f17_2, f17_3, f17_4, f17_5, f0_8, f0_8p, f7_10, f7_10p, g9, g9r, g9w, g11, g11r, g11w, g12, g12r, g12w, g13, g13r, g13w, g14, g14r, g14w, g15, g15r, g15w, g25, g25r, g25w, h5, h5w, h5z, h6, h6w, h6z, h8, h8w, h8z, h21, h21w, h21z, h22, h22w, h22z, h23, h23w, fl10, fl16, fl18, fl20, fl24, g11f, g12f, g13f, g14f, g15f, g25f, cN2, cN10, cN16, cN18, cN19, cN20, cN24, z01, z11, ix1, ix2, nI_add, nI_clamp, vin, true_and, and_true, or_true, true_or, p2_ne, e4, e6, hb, hl, e8, bI_br]
  rw [pnd_s, pnd_s] at fin
  by_cases h1 : Q 14 (48 + s) = 0
  · simp (disch := first | decide | omega) only [brt h1]
    exact fin 0 0 (by simp [h1, bI]) (by simp [h1, bI])
  · simp (disch := first | decide | omega) only [brf h1]
    by_cases h2 : Q 18 (48 + s) = -1
    · simp (disch := first | decide | omega) only [brt h2]
      by_cases h3 : pnd Q true s = true
      · simp (disch := first | decide | omega) only [brt h3]
        by_cases h4 : pnd Q false s = true
        · rw [brt h4]; exact fin 1 1 (by simp [h1, h2, h3, bI]) (by simp [h1, h2, bI])
        · rw [brf h4]; exact fin 1 1 (by simp [h1, h2, h3, bI]) (by simp [h1, h2, bI])
      · simp (disch := first | decide | omega) only [brf h3]
        by_cases h4 : pnd Q false s = true
        · rw [brt h4]; exact fin 0 1 (by simp [h1, h2, h3, bI]) (by simp [h1, h2, bI])
        · rw [brf h4]; exact fin 0 1 (by simp [h1, h2, h3, bI]) (by simp [h1, h2, bI])
    · simp (disch := first | decide | omega) only [brf h2]
      by_cases h3 : pnd Q true s = true
      · simp (disch := first | decide | omega) only [brt h3]
        by_cases h4 : pnd Q false s = true
        · rw [brt h4]; exact fin 1 1 (by simp [h1, h2, bI]) (by simp [h1, h2, h4, bI])
        · rw [brf h4]; exact fin 1 0 (by simp [h1, h2, bI]) (by simp [h1, h2, h4, bI])
      · simp (disch := first | decide | omega) only [brf h3]
        by_cases h4 : pnd Q false s = true
        · rw [brt h4]; exact fin 1 1 (by simp [h1, h2, bI]) (by simp [h1, h2, h4, bI])
        · rw [brf h4]; exact fin 1 0 (by simp [h1, h2, bI]) (by simp [h1, h2, h4, bI])
/-- what reading a step leads to -/
def OS (T : Nat → Int32) (n nA nK k s : Nat) (R : RMem) (J : Nat → Nat → Int64) (post : Int32 → Pool → Prop) (I0 : Mem) (res : Sum Nat (Mem × Nat)) : Prop := (∀ f I', res = .inl f → FK k I0 I' → I' 3 2 = nI f → post 0 (cp nA nK R I' J)) ∧ (∀ Q' p' I', res = .inr (Q', p') → FK k I0 I' → TK T n I' p' → QD Q' (s + 1) I' k → I' 3 4 = bI (pnd Q' true (s + 1) = true) → I' 3 5 = bI (pnd Q' false (s + 1) = true) → post 1 (cp nA nK R I' J)) ∧ (∀ p' I', res = .inl p' → FK k I0 I' → TK T n I' p' → srtS T n p' = 1 → post 1 (cp nA nK R I' J))
theorem QD_p18 (hs : s < 6) (hD : QD Q (s + 1) I k) : QD (p2 Q 18 (48 + s) v) (s + 1) (p2 I (2000 + 8 * k + 2 + s) 6 v) k := by
  unfold QD at hD ⊢
  rw [p2_ne (show 2000 + 8 * k ≠ 2000 + 8 * k + 2 + s by omega)]
  refine ⟨hD.1, hD.2.1, hD.2.2.1, hD.2.2.2.1, hD.2.2.2.2.1, fun s' hs' => ?_⟩
  have := hD.2.2.2.2.2 s' hs'
  unfold SR1 SRp at this ⊢
  by_cases e : s' = s
  · subst e
    rw [p2_same, p2_same, p2_row (show (0 : Nat) ≠ 6 by decide), p2_row (show (4 : Nat) ≠ 6 by decide), p2_row (show (5 : Nat) ≠ 6 by decide), p2_row (show (7 : Nat) ≠ 6 by decide)]
    exact ⟨this.1, fun f hf => by rw [p2_row (show 1 + f ≠ 6 by omega)]; exact this.2.1 f hf, this.2.2.1, this.2.2.2.1, rfl, this.2.2.2.2.2⟩
  · rw [p2_ne (show 2000 + 8 * k + 2 + s' ≠ 2000 + 8 * k + 2 + s by omega), p2_row (show 48 + s' ≠ 48 + s by omega)]
    exact this
theorem QD_p17 (hs : s < 6) (hD : QD Q (s + 1) I k) : QD (p2 Q 17 (48 + s) v) (s + 1) (p2 I (2000 + 8 * k + 2 + s) 5 v) k := by
  unfold QD at hD ⊢
  rw [p2_ne (show 2000 + 8 * k ≠ 2000 + 8 * k + 2 + s by omega)]
  refine ⟨hD.1, hD.2.1, hD.2.2.1, hD.2.2.2.1, hD.2.2.2.2.1, fun s' hs' => ?_⟩
  have := hD.2.2.2.2.2 s' hs'
  unfold SR1 SRp at this ⊢
  by_cases e : s' = s
  · subst e
    rw [p2_same, p2_same, p2_row (show (0 : Nat) ≠ 5 by decide), p2_row (show (4 : Nat) ≠ 5 by decide), p2_row (show (6 : Nat) ≠ 5 by decide), p2_row (show (7 : Nat) ≠ 5 by decide)]
    exact ⟨this.1, fun f hf => by rw [p2_row (show 1 + f ≠ 5 by omega)]; exact this.2.1 f hf, this.2.2.1, rfl, this.2.2.2.2.1, this.2.2.2.2.2⟩
  · rw [p2_ne (show 2000 + 8 * k + 2 + s' ≠ 2000 + 8 * k + 2 + s by omega), p2_row (show 48 + s' ≠ 48 + s by omega)]
    exact this
theorem QD_p16 {f : Nat} (hf : f < 3) (hs : s < 6) (hD : QD Q (s + 1) I k) : QD (p2 (p2 Q 16 (3 * (48 + s) + f) v) 0 32 (bitF (Q 0 32) f)) (s + 1) (p2 (p2 I (2000 + 8 * k + 2 + s) (1 + f) v) (2000 + 8 * k) 7 (bitF (Q 0 32) f)) k := by
  unfold QD at hD ⊢
  rw [p2_same, p2_same, p2_row (show (1 : Nat) ≠ 7 by decide), p2_row (show (2 : Nat) ≠ 7 by decide), p2_row (show (3 : Nat) ≠ 7 by decide), p2_row (show (4 : Nat) ≠ 7 by decide), p2_ne (show 2000 + 8 * k ≠ 2000 + 8 * k + 2 + s by omega)]
  refine ⟨hD.1, hD.2.1, hD.2.2.1, hD.2.2.2.1, rfl, fun s' hs' => ?_⟩
  have := hD.2.2.2.2.2 s' hs'
  unfold SR1 SRp at this ⊢
  rw [p2_ne (show 2000 + 8 * k + 2 + s' ≠ 2000 + 8 * k by omega)]
  by_cases e : s' = s
  · subst e
    rw [p2_row (show (0 : Nat) ≠ 1 + f by omega), p2_row (show (4 : Nat) ≠ 1 + f by omega), p2_row (show (5 : Nat) ≠ 1 + f by omega), p2_row (show (6 : Nat) ≠ 1 + f by omega), p2_row (show (7 : Nat) ≠ 1 + f by omega)]
    refine ⟨this.1, fun g hg => ?_, this.2.2.1, this.2.2.2.1, this.2.2.2.2.1, this.2.2.2.2.2⟩
    rw [p2_ne (show (16 : Nat) ≠ 0 by decide)]
    by_cases e2 : g = f
    · subst e2; rw [p2_same, p2_same]
    · rw [p2_row (by omega), p2_row (by omega)]; exact this.2.1 g hg
  · rw [p2_ne (show 2000 + 8 * k + 2 + s' ≠ 2000 + 8 * k + 2 + s by omega)]
    refine ⟨this.1, fun g hg => ?_, this.2.2.1, this.2.2.2.1, this.2.2.2.2.1, this.2.2.2.2.2⟩
    rw [p2_ne (show (16 : Nat) ≠ 0 by decide), p2_row (by omega)]
    exact this.2.1 g hg
theorem v_25 (hk : k < nK) (hs : s < 6) {op : Int32} (ho : op = bI (s = 0)) (hT : TP T n I) (hK : TK T n I p) (hF : FK k I0 I) (hD : QD Q (s + 1) I k) (hb : I 3 4 = bI (pnd Q true s = true)) (hl : I 3 5 = bI (pnd Q false s = true)) (hO : OS T n nA nK k s R J post I0 (withS T n s (48 + s) Q p)) : wX4_readsTail_25 post (some 3) (some (2000 + 8 * k + 2 + s)) op (cp nA nK R I J) := by
  have h67 : withS T n s (48 + s) Q p = .inr (Q, p) ∨ (withS T n s (48 + s) Q p = .inl p ∧ srtS T n p = 1) → wX4_readsTail_67 post (some 3) (some (2000 + 8 * k + 2 + s)) (cp nA nK R I J) := fun hc => by
    refine v_67 hk hs hD hb hl fun I' b1 b2 b3 b4 b5 b6 => ?_
    rcases hc with hc | ⟨hc, hc2⟩
    · exact hO.2.1 Q p I' hc (fun c h1 h2 => (b1 c h1).trans (hF c h1 h2)) (TK_cg hK b2 b3 b4) (QD_cg hD b1) b5 b6
    · exact hO.2.2 p I' hc (fun c h1 h2 => (b1 c h1).trans (hF c h1 h2)) (TK_cg hK b2 b3 b4) hc2
  unfold wX4_readsTail_25
  subst ho
  rw [bI_br]
  refine brc (fun h0 => h67 ?_) fun h0 => ?_
  · unfold withS
    by_cases e : isWb T n p 5 = true
    · rw [if_pos e, if_pos h0]; exact .inr ⟨rfl, (isWb_srt (by decide) e).1⟩
    · rw [if_neg e]; exact .inl rfl
  · simp (disch := first | decide | omega) only [brT, brF, c_I, c_rc, c_pI, c_pZ, c_aI, c_sI, ca_I, ca_rc, ca_pI, cq_I, cq_rc, cq_pI, cq_R, cq_aR, cs_I, cs_rc, cs_pI, cs_pZ, f0_0, f0_1, f0_2, f0_3, f0_4, f0_5, f0_6, f0_7, f1_0, f3_0, f4_0, f4_1, f7_0, f7_1, f7_2, f7_3, f7_4, f7_5, f7_6, f7_7, f7_8, f7_9, f17_0, f17_1, f17_2, f17_3, f17_4, f17_5, f0_8, f0_8p, f7_10, f7_10p, g9, g9r, g9w, g11, g11r, g11w, g12, g12r, g12w, g13, g13r, g13w, g14, g14r, g14w, g15, g15r, g15w, g25, g25r, g25w, h5, h5w, h5z, h6, h6w, h6z, h8, h8w, h8z, h21, h21w, h21z, h22, h22w, h22z, h23, h23w, fl10, fl16, fl18, fl20, fl24, g11f, g12f, g13f, g14f, g15f, g25f, cN2, cN10, cN16, cN18, cN19, cN20, cN24, z01, z11, ix1, ix2, nI_add, nI_clamp, vin, true_and, and_true, or_true, true_or, v_isAt (w := 5) (by decide) hT hK, bI_br]
    refine brc (fun e => ?_) fun e => h67 (.inl (by unfold withS; rw [if_neg e]))
    have hbeh := (isWb_srt (by decide) e).2
    have hwl : wep T n p ≤ n := by rw [← hbeh]; exact beh_le hK.2.2.2
    have hI3 : I 3 3 = nI (wep T n p) := by rw [← hbeh]; exact hK.2.2.1
    refine v_advance hT hI3 hwl fun I1 b1 b2 => ?_
    have hT1 := TP_fk (k := k) hT (FK_rf b1)
    have hD1 := QD_cg hD b1.1
    simp (disch := first | decide | omega) only [brT, brF, c_I, c_rc, c_pI, c_pZ, c_aI, c_sI, ca_I, ca_rc, ca_pI, cq_I, cq_rc, cq_pI, cq_R, cq_aR, cs_I, cs_rc, cs_pI, cs_pZ, f0_0, f0_1, f0_2, f0_3, f0_4, f0_5, f0_6, f0_7, f1_0, f3_0, f4_0, f4_1, f7_0, f7_1, f7_2, f7_3, f7_4, f7_5, f7_6, f7_7, f7_8, f7_9, f17_0, f17_1, f17_2, f17_3, f17_4, f17_5, f0_8, f0_8p, f7_10, f7_10p, g9, g9r, g9w, g11, g11r, g11w, g12, g12r, g12w, g13, g13r, g13w, g14, g14r, g14w, g15, g15r, g15w, g25, g25r, g25w, h5, h5w, h5z, h6, h6w, h6z, h8, h8w, h8z, h21, h21w, h21z, h22, h22w, h22z, h23, h23w, fl10, fl16, fl18, fl20, fl24, g11f, g12f, g13f, g14f, g15f, g25f, cN2, cN10, cN16, cN18, cN19, cN20, cN24, z01, z11, ix1, ix2, nI_add, nI_clamp, vin, true_and, and_true, or_true, true_or]
    refine v_number hT1 b2 ?_
    simp (disch := first | decide | omega) only [brT, brF, c_I, c_rc, c_pI, c_pZ, c_aI, c_sI, ca_I, ca_rc, ca_pI, cq_I, cq_rc, cq_pI, cq_R, cq_aR, cs_I, cs_rc, cs_pI, cs_pZ, f0_0, f0_1, f0_2, f0_3, f0_4, f0_5, f0_6, f0_7, f1_0, f3_0, f4_0, f4_1, f7_0, f7_1, f7_2, f7_3, f7_4, f7_5, f7_6, f7_7, f7_8, f7_9, f17_0, f17_1, f17_2, f17_3, f17_4, f17_5, f0_8, f0_8p, f7_10, f7_10p, g9, g9r, g9w, g11, g11r, g11w, g12, g12r, g12w, g13, g13r, g13w, g14, g14r, g14w, g15, g15r, g15w, g25, g25r, g25w, h5, h5w, h5z, h6, h6w, h6z, h8, h8w, h8z, h21, h21w, h21z, h22, h22w, h22z, h23, h23w, fl10, fl16, fl18, fl20, fl24, g11f, g12f, g13f, g14f, g15f, g25f, cN2, cN10, cN16, cN18, cN19, cN20, cN24, z01, z11, ix1, ix2, nI_add, nI_clamp, vin, true_and, and_true, or_true, true_or, p2_same]
    have hw : withS T n s (48 + s) Q p = (match numS T n (skp T n (wep T n p)) 1 100000 with | none => .inl (skp T n (wep T n p)) | some v => .inr (p2 Q 18 (48 + s) v, skp T n (dep T n (skp T n (wep T n p))))) := by
      unfold withS
      rw [if_pos e, if_neg h0]
      cases numS T n (skp T n (wep T n p)) 1 100000 <;> rfl
    have hF2 : ∀ v, FK k I0 (p2 I1 (2000 + 8 * k + 2 + s) 6 v) := fun v => FK_s (FK_trans hF (FK_rf b1)) hs
    cases hnum : numS T n (skp T n (wep T n p)) 1 100000 with
    | none =>
      rw [hnum] at hw
      rw [brt (show oN none = -1 from rfl)]
      exact hO.1 _ _ hw (hF2 _) (by rw [p2_ne (by omega)]; exact b2.2.1)
    | some x =>
      rw [hnum] at hw
      obtain ⟨x', hx, _, hx2⟩ := num_nI (a := 1) (b := 100000) (by decide) (by decide) hnum
      have hne : ¬ oN (some x) = -1 := by show ¬ x = -1; rw [hx]; exact nI_nm1 (by omega)
      rw [brf hne]
      have hdg : srtS T n (skp T n (wep T n p)) = 2 := by
        apply Decidable.byContradiction
        intro hc
        have : dep T n (skp T n (wep T n p)) = skp T n (wep T n p) := by
          by_cases hq : skp T n (wep T n p) < n
          · refine run_no ?_
            cases hbb : isDg (T (skp T n (wep T n p)))
            · rfl
            · exact absurd ((srt_2 hq).mpr hbb) hc
          · exact run_end (by omega)
        unfold numS at hnum
        rw [if_pos (.inl this)] at hnum
        cases hnum
      have hbeh2 : behS T n (skp T n (wep T n p)) = dep T n (skp T n (wep T n p)) := by unfold behS; rw [if_neg (by omega), if_pos hdg]
      have hdl : dep T n (skp T n (wep T n p)) ≤ n := by rw [← hbeh2]; exact beh_le b2.2.2.2
      have hT2 : TP T n (p2 I1 (2000 + 8 * k + 2 + s) 6 x) := TP_fk (k := k) hT1 (FK_s FK_rfl hs)
      refine v_advance hT2 (e := dep T n (skp T n (wep T n p))) (by rw [p2_ne (by omega), ← hbeh2]; exact b2.2.2.1) hdl fun I2 d1 d2 => ?_
      have hD2 := QD_cg (QD_p18 (v := x) hs hD1) d1.1
      have hpn : ∀ w, pnd (p2 Q 18 (48 + s) x) w s = pnd Q w s := fun w => pnd_cg fun j hj => ⟨by rw [p2_ne (by decide)], by rw [p2_row (by omega)]⟩
      refine v_67 hk hs hD2 (by rw [d1.2.1, p2_ne (by omega), b1.2.1, hb, hpn]) (by rw [d1.2.2, p2_ne (by omega), b1.2.2, hl, hpn]) fun I' c1 c2 c3 c4 c5 c6 => ?_
      exact hO.2.1 _ _ I' hw (fun c h1 h2 => (c1 c h1).trans ((d1.1 c h1).trans (hF2 x c h1 h2))) (TK_cg d2 c2 c3 c4) (QD_cg hD2 c1) c5 c6
theorem v_tail (hk : k < nK) (hs : s < 6) {op : Int32} (ho : op = bI (s = 0)) (hT : TP T n I) (hK : TK T n I p) (hF : FK k I0 I) (hD : QD Q (s + 1) I k) (hb : I 3 4 = bI (pnd Q true s = true)) (hl : I 3 5 = bI (pnd Q false s = true)) (hO : OS T n nA nK k s R J post I0 (tailS T n s (48 + s) Q p)) : wX4_readsTail post (some 3) (some (2000 + 8 * k + 2 + s)) op (cp nA nK R I J) := by
  obtain ⟨_, _, e4, e5, e6, _⟩ := hD.2.2.2.2.2 s (by omega)
  unfold wX4_readsTail
  simp (disch := first | decide | omega) only [brT, brF, c_I, c_rc, c_pI, c_pZ, c_aI, c_sI, ca_I, ca_rc, ca_pI, cq_I, cq_rc, cq_pI, cq_R, cq_aR, cs_I, cs_rc, cs_pI, cs_pZ, f0_0, f0_1, f0_2, f0_3, f0_4, f0_5, f0_6, f0_7, f1_0, f3_0, f4_0, f4_1, f7_0, f7_1, f7_2, f7_3, f7_4, f7_5, f7_6, f7_7, f7_8, f7_9, f17_0, f17_1, f17_2, f17_3, f17_4, f17_5, f0_8, f0_8p, f7_10, f7_10p, g9, g9r, g9w, g11, g11r, g11w, g12, g12r, g12w, g13, g13r, g13w, g14, g14r, g14w, g15, g15r, g15w, g25, g25r, g25w, h5, h5w, h5z, h6, h6w, h6z, h8, h8w, h8z, h21, h21w, h21z, h22, h22w, h22z, h23, h23w, fl10, fl16, fl18, fl20, fl24, g11f, g12f, g13f, g14f, g15f, g25f, cN2, cN10, cN16, cN18, cN19, cN20, cN24, z01, z11, ix1, ix2, nI_add, nI_clamp, vin, true_and, and_true, or_true, true_or, e4, v_isAt (w := 8) (by decide) hT hK, bI_br]
  refine brc (fun h0 => brc (fun e => ?_) fun e => ?_) fun h0 => ?_
  · have hbeh := (isWb_srt (by decide) e).2
    have hwl : wep T n p ≤ n := by rw [← hbeh]; exact beh_le hK.2.2.2
    have hI3 : I 3 3 = nI (wep T n p) := by rw [← hbeh]; exact hK.2.2.1
    have hT2 : TP T n (p2 I (2000 + 8 * k + 2 + s) 5 1) := TP_fk (k := k) hT (FK_s FK_rfl hs)
    refine v_advance hT2 (e := wep T n p) (by rw [p2_ne (by omega)]; exact hI3) hwl fun I1 b1 b2 => ?_
    have hpn : ∀ w, pnd (p2 Q 17 (48 + s) 1) w s = pnd Q w s := fun w => pnd_cg fun j hj => ⟨by rw [p2_ne (by decide)], by rw [p2_ne (by decide)]⟩
    refine v_25 hk hs ho (TP_fk (k := k) hT2 (FK_rf b1)) b2 (FK_trans (FK_s hF hs) (FK_rf b1)) (QD_cg (QD_p17 (v := 1) hs hD) b1.1) (by rw [b1.2.1, p2_ne (by omega), hb, hpn]) (by rw [b1.2.2, p2_ne (by omega), hl, hpn]) ?_
    unfold tailS at hO
    rw [if_pos e, if_neg (fun z => z h0)] at hO
    exact hO
  · refine v_25 hk hs ho hT hK hF hD hb hl ?_
    unfold tailS at hO
    rw [if_neg e] at hO
    exact hO
  · by_cases e : isWb T n p 8 = true
    · -- a first that may not stand here
      unfold tailS at hO
      rw [if_pos e, if_pos h0] at hO
      have hsrt := (isWb_srt (by decide) e).1
      have hn5 : ¬ isWb T n p 5 = true := fun z => by
        have h1 := (isWb_iff.mp e).1
        have h2 := (isWb_iff.mp z).1
        have h3 : lenG.getD 8 0 = 5 := rfl
        have h4 : lenG.getD 5 0 = 6 := rfl
        omega
      refine v_25 hk hs ho hT hK hF hD hb hl ⟨fun f I' h1 => ?_, fun Q' p' I' h1 h2 h3 h4 h5 h6 => ?_, fun p' I' h1 => ?_⟩
      · unfold withS at h1; rw [if_neg hn5] at h1; cases h1
      · unfold withS at h1; rw [if_neg hn5] at h1; cases h1
        exact hO.2.2 p I' rfl h2 h3 hsrt
      · unfold withS at h1; rw [if_neg hn5] at h1; cases h1
    · refine v_25 hk hs ho hT hK hF hD hb hl ?_
      unfold tailS at hO
      rw [if_neg e] at hO
      exact hO
end
