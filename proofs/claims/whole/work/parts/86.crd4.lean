section
variable {T : Nat → Int32} {nA nK n p e k w s : Nat} {R : RMem} {I I0 Q : Mem} {J : Nat → Nat → Int64} {post : Int32 → Pool → Prop} {pst : Pool → Prop} {pr : Option Nat → Pool → Prop} {v x lo hi : Int32}
theorem rk8_cg {Q' : Mem} : ∀ {m : Nat}, (∀ j, j < m → Q' 14 (48 + j) = Q 14 (48 + j)) → rk Q' 8 m = rk Q 8 m := by
  intro m h
  unfold rk
  refine cnt_cong fun j hj => ?_
  show Q' 14 (48 + j) = 0 ↔ Q 14 (48 + j) = 0
  rw [h j hj]
theorem QD_Q {Q' : Mem} {m : Nat} (h : QD Q m I k) (h12 : Q' 12 8 = Q 12 8) (h19 : Q' 19 8 = Q 19 8) (h32 : Q' 0 32 = Q 0 32) (hr : ∀ j, j < m → Q' 14 (48 + j) = Q 14 (48 + j) ∧ Q' 15 (48 + j) = Q 15 (48 + j) ∧ (∀ f, f < 3 → Q' 16 (3 * (48 + j) + f) = Q 16 (3 * (48 + j) + f)) ∧ Q' 17 (48 + j) = Q 17 (48 + j) ∧ Q' 18 (48 + j) = Q 18 (48 + j)) : QD Q' m I k := by
  unfold QD SR1 SRp at h ⊢
  rw [h12, h19, h32, rk8_cg fun j hj => (hr j hj).1]
  refine ⟨h.1, h.2.1, h.2.2.1, h.2.2.2.1, h.2.2.2.2.1, fun j hj => ?_⟩
  obtain ⟨a1, a2, a3, a4, a5⟩ := hr j hj
  obtain ⟨b1, b2, b3, b4, b5, b6⟩ := h.2.2.2.2.2 j hj
  rw [a1, a2, a4, a5, rk8_cg fun i hi => (hr i (by omega)).1]
  exact ⟨b1, fun f hf => by rw [a3 f hf]; exact b2 f hf, b3, b4, b5, b6⟩
def QDa (Q : Mem) (s : Nat) (I : Mem) (k : Nat) : Prop := I (2000 + 8 * k) 1 = nI (s + 1) ∧ I (2000 + 8 * k) 2 = nI (rk Q 8 (s + 1)) ∧ I (2000 + 8 * k) 3 = Q 12 8 ∧ I (2000 + 8 * k) 4 = Q 19 8 ∧ I (2000 + 8 * k) 7 = Q 0 32 ∧ (∀ j, j < s → SR1 Q j I k) ∧ SRp Q s I k
theorem QDa_cg {I' : Mem} (h : QDa Q s I k) (h1 : ∀ c, c ≠ 3 → I' c = I c) : QDa Q s I' k := by
  unfold QDa SR1 SRp at h ⊢
  rw [h1 (2000 + 8 * k) (by omega)]
  refine ⟨h.1, h.2.1, h.2.2.1, h.2.2.2.1, h.2.2.2.2.1, fun j hj => ?_, ?_⟩
  · rw [h1 (2000 + 8 * k + 2 + j) (by omega)]
    exact h.2.2.2.2.2.1 j hj
  · rw [h1 (2000 + 8 * k + 2 + s) (by omega)]
    exact h.2.2.2.2.2.2
theorem QDa_kind (hs : s < 6) (h : QDa Q s I k) : QD (p2 Q 15 (48 + s) v) (s + 1) (p2 I (2000 + 8 * k + 2 + s) 0 v) k := by
  unfold QDa at h
  unfold QD
  rw [p2_ne (show 2000 + 8 * k ≠ 2000 + 8 * k + 2 + s by omega)]
  refine ⟨h.1, ?_, h.2.2.1, h.2.2.2.1, h.2.2.2.2.1, fun j hj => ?_⟩
  · rw [rk8_cg (Q := Q) fun j hj => by rw [p2_ne (by decide)]]; exact h.2.1
  · have hrk : rk (p2 Q 15 (48 + s) v) 8 j = rk Q 8 j := rk8_cg fun i hi => by rw [p2_ne (by decide)]
    unfold SR1 SRp
    rw [hrk]
    by_cases e : j = s
    · subst e
      have := h.2.2.2.2.2.2
      unfold SRp at this
      rw [p2_same, p2_same, p2_row (show (4 : Nat) ≠ 0 by decide), p2_row (show (5 : Nat) ≠ 0 by decide), p2_row (show (6 : Nat) ≠ 0 by decide), p2_row (show (7 : Nat) ≠ 0 by decide)]
      exact ⟨rfl, fun f hf => by rw [p2_row (show 1 + f ≠ 0 by omega)]; exact this.1 f hf, this.2⟩
    · have := h.2.2.2.2.2.1 j (by omega)
      unfold SR1 SRp at this
      rw [p2_ne (show 2000 + 8 * k + 2 + j ≠ 2000 + 8 * k + 2 + s by omega), p2_row (show 48 + j ≠ 48 + s by omega)]
      exact this
theorem v_addStep (hk : k < nK) (hs : s < 6) (hx : x = 0 ∨ x = 1) (hD : QD Q s I k) (h14 : Q 14 (48 + s) = x) (h16 : ∀ f, f < 3 → Q 16 (3 * (48 + s) + f) = -1) (h17 : Q 17 (48 + s) = 0) (h18 : Q 18 (48 + s) = -1) (hp : ∀ I', FK k I I' → I' 3 = I 3 → QDa Q s I' k → pr (some (2000 + 8 * k + 2 + s)) (cp nA nK R I' J)) : wX3_addStep pr (some (2000 + 8 * k)) x (cp nA nK R I J) := by
  have hrk := rk_le (D := Q) (q := 8) s
  have e6 : nI s < 6 := by rw [show (6 : Int32) = nI 6 from rfl, ilt (by omega) (by decide)]; exact hs
  unfold wX3_addStep wX5_clear
  simp (disch := first | decide | omega) only [brT, brF, c_I, c_rc, c_pI, c_pZ, c_aI, c_sI, ca_I, ca_rc, ca_pI, cq_I, cq_rc, cq_pI, cq_R, cq_aR, cs_I, cs_rc, cs_pI, cs_pZ, f0_0, f0_1, f0_2, f0_3, f0_4, f0_5, f0_6, f0_7, f1_0, f3_0, f4_0, f4_1, f7_0, f7_1, f7_2, f7_3, f7_4, f7_5, f7_6, f7_7, f7_8, f7_9, f17_0, f17_1, f17_2, f17_3, f17_4, f17_5, f0_8, f0_8p, f7_10, f7_10p, g9, g9r, g9w, g11, g11r, g11w, g12, g12r, g12w, g13, g13r, g13w, g14, g14r, g14w, g15, g15r, g15w, g25, g25r, g25w, h5, h5w, h5z, h6, h6w, h6z, h8, h8w, h8z, h21, h21w, h21z, h22, h22w, h22z, h23, h23w, fl10, fl16, fl18, fl20, fl24, g11f, g12f, g13f, g14f, g15f, g25f, cN2, cN10, cN16, cN18, cN19, cN20, cN24, z01, z11, ix1, ix2, nI_add, nI_clamp, vin, true_and, and_true, or_true, true_or, hD.1, hD.2.1, brt e6, hx, p2_ne, p2_row, p2_same]
  have fin : ∀ (r : Nat) (I' : Mem), r = rk Q 8 (s + 1) → (∀ c, c ≠ 2000 + 8 * k → c ≠ 2000 + 8 * k + 2 + s → I' c = I c) → I' (2000 + 8 * k) 1 = nI (s + 1) → I' (2000 + 8 * k) 2 = nI r → (∀ j, j ≠ 1 → j ≠ 2 → I' (2000 + 8 * k) j = I (2000 + 8 * k) j) → SRp Q s I' k → pr (some (2000 + 8 * k + 2 + s)) (cp nA nK R I' J) := fun r I' hr h1 h2 h3 h4 h5 => by
    refine hp I' (fun c a b => h1 c (by omega) (by omega)) (h1 3 (by omega) (by omega)) ⟨h2, by rw [h3, hr], by rw [h4 3 (by decide) (by decide)]; exact hD.2.2.1, by rw [h4 4 (by decide) (by decide)]; exact hD.2.2.2.1, by rw [h4 7 (by decide) (by decide)]; exact hD.2.2.2.2.1, fun j hj => ?_, h5⟩
    have := hD.2.2.2.2.2 j hj
    unfold SR1 SRp at this ⊢
    rw [h1 (2000 + 8 * k + 2 + j) (by omega) (by omega)]
    exact this
  have hsr : ∀ I' : Mem, (∀ f, f < 3 → I' (2000 + 8 * k + 2 + s) (1 + f) = -1) → I' (2000 + 8 * k + 2 + s) 4 = x → I' (2000 + 8 * k + 2 + s) 5 = 0 → I' (2000 + 8 * k + 2 + s) 6 = -1 → I' (2000 + 8 * k + 2 + s) 7 = nI (rk Q 8 s) → SRp Q s I' k := fun I' a b c d e => ⟨fun f hf => by rw [a f hf, h16 f hf], by rw [b, h14], by rw [c, h17], by rw [d, h18], e⟩
  have hne : 2000 + 8 * k + 2 + s ≠ 2000 + 8 * k := by omega
  refine brc (fun h0 => ?_) fun h0 => ?_
  · refine fin (rk Q 8 s + 1) _ (by rw [rk_t (show Q 14 (6 * 8 + s) = 0 from h14.trans h0)]) (fun c a b => ?_) ?_ ?_ (fun j a b => ?_) (hsr _ (fun f hf => ?_) ?_ ?_ ?_ ?_)
    · rw [p2_ne a, p2_ne a]; simp (disch := first | decide | omega) only [p2_ne]
    · rw [p2_row (by decide), p2_same]
    · rw [p2_same]
    · rw [p2_row b, p2_row a]; simp (disch := first | decide | omega) only [p2_ne]
    · rw [p2_ne hne, p2_ne hne]
      rcases (show f = 0 ∨ f = 1 ∨ f = 2 by omega) with rfl | rfl | rfl <;> simp (disch := first | decide | omega) only [p2_row, p2_same]
    · rw [p2_ne hne, p2_ne hne]; simp (disch := first | decide | omega) only [p2_row, p2_same]
    · rw [p2_ne hne, p2_ne hne]; simp (disch := first | decide | omega) only [p2_row, p2_same]
    · rw [p2_ne hne, p2_ne hne]; simp (disch := first | decide | omega) only [p2_row, p2_same]
    · rw [p2_ne hne, p2_ne hne]; simp (disch := first | decide | omega) only [p2_row, p2_same]
  · refine fin (rk Q 8 s) _ (by rw [rk_f (show ¬ Q 14 (6 * 8 + s) = 0 from fun z => h0 (h14.symm.trans z))]) (fun c a b => ?_) ?_ ?_ (fun j a b => ?_) (hsr _ (fun f hf => ?_) ?_ ?_ ?_ ?_)
    · rw [p2_ne a]; simp (disch := first | decide | omega) only [p2_ne]
    · rw [p2_same]
    · rw [p2_row (by decide)]; simp (disch := first | decide | omega) only [p2_ne]; exact hD.2.1
    · rw [p2_row a]; simp (disch := first | decide | omega) only [p2_ne]
    · rw [p2_ne hne]
      rcases (show f = 0 ∨ f = 1 ∨ f = 2 by omega) with rfl | rfl | rfl <;> simp (disch := first | decide | omega) only [p2_row, p2_same]
    · rw [p2_ne hne]; simp (disch := first | decide | omega) only [p2_row, p2_same]
    · rw [p2_ne hne]; simp (disch := first | decide | omega) only [p2_row, p2_same]
    · rw [p2_ne hne]; simp (disch := first | decide | omega) only [p2_row, p2_same]
    · rw [p2_ne hne]; simp (disch := first | decide | omega) only [p2_row, p2_same]
def kS2 (T : Nat → Int32) (n s d : Nat) (Q : Mem) (p : Nat) : Sum Nat (Mem × Nat) :=
  match numS T n (skp T n (wep T n p)) 0 7 with
  | none => .inl (skp T n (wep T n p))
  | some v => match condS T n d 4 (p2 Q 15 d v) (skp T n (dep T n (skp T n (wep T n p)))) with
    | .inl f => .inl f
    | .inr (Q', p') => tailS T n s d Q' p'
theorem kS_2 {d : Nat} (h : ¬ (isWb T n p 6 = false ∨ (Q 14 d = 0 ∧ pnd Q true s = true))) : kindS T n s d Q p = kS2 T n s d Q p := by
  unfold kindS kS2
  rw [if_neg h]
  cases numS T n (skp T n (wep T n p)) 0 7 with
  | none => rfl
  | some v =>
    show (match condS T n d 4 (p2 Q 15 d v) (skp T n (dep T n (skp T n (wep T n p)))) with | .inl f => _ | .inr (Q', p') => _) = (match condS T n d 4 (p2 Q 15 d v) (skp T n (dep T n (skp T n (wep T n p)))) with | .inl f => _ | .inr (Q', p') => _)
    cases condS T n d 4 (p2 Q 15 d v) (skp T n (dep T n (skp T n (wep T n p)))) <;> rfl
theorem fld_n {f w : Nat} (h : fldS T n p = some f) (hw : w = 5 ∨ w = 8) : isWb T n p w = false := by
  obtain ⟨h1, h2⟩ := fld_w h
  have a := isWb_iff.mp h2
  cases hb : isWb T n p w
  · rfl
  · have b := isWb_iff.mp hb
    exfalso
    have l1 : lenG.getD 5 0 = 6 := rfl
    have l2 : lenG.getD 8 0 = 5 := rfl
    have l3 : lenG.getD 1 0 = 3 := rfl
    have l4 : lenG.getD 2 0 = 4 := rfl
    have l5 : lenG.getD 3 0 = 5 := rfl
    have hlen : lenG.getD (1 + f) 0 = lenG.getD w 0 := by omega
    have hz := a.2 0
    have hy := b.2 0
    rcases hw with rfl | rfl
    · rcases (show f = 0 ∨ f = 1 ∨ f = 2 by omega) with rfl | rfl | rfl
      · exact absurd hlen (by decide)
      · exact absurd hlen (by decide)
      · exact absurd hlen (by decide)
    · rcases (show f = 0 ∨ f = 1 ∨ f = 2 by omega) with rfl | rfl | rfl
      · exact absurd hlen (by decide)
      · exact absurd hlen (by decide)
      · have z1 := hz (by decide)
        have z2 := hy (by decide)
        rw [z1] at z2
        exact absurd z2 (by decide)
theorem v_43 (hk : k < nK) (hs : s < 6) {op : Int32} (ho : op = bI (s = 0)) (hx : x = 0 ∨ x = 1) (hT : TP T n I) (hK : TK T n I p) (e : isWb T n p 6 = true) (hF : FK k I0 I) (hD : QD Q s I k) (h14 : Q 14 (48 + s) = x) (h16 : ∀ f, f < 3 → Q 16 (3 * (48 + s) + f) = -1) (h17 : Q 17 (48 + s) = 0) (h18 : Q 18 (48 + s) = -1) (hb : I 3 4 = bI (pnd Q true s = true)) (hl : I 3 5 = bI (pnd Q false s = true)) (hO : OS T n nA nK k s R J post I0 (kS2 T n s (48 + s) Q p)) : wX4_readsStep_43 post (some 3) (some (2000 + 8 * k)) op x (cp nA nK R I J) := by
  unfold wX4_readsStep_43
  simp (disch := first | decide | omega) only [brT, brF, c_I, c_rc, c_pI, c_pZ, c_aI, c_sI, ca_I, ca_rc, ca_pI, cq_I, cq_rc, cq_pI, cq_R, cq_aR, cs_I, cs_rc, cs_pI, cs_pZ, f0_0, f0_1, f0_2, f0_3, f0_4, f0_5, f0_6, f0_7, f1_0, f3_0, f4_0, f4_1, f7_0, f7_1, f7_2, f7_3, f7_4, f7_5, f7_6, f7_7, f7_8, f7_9, f17_0, f17_1, f17_2, f17_3, f17_4, f17_5, f0_8, f0_8p, f7_10, f7_10p, g9, g9r, g9w, g11, g11r, g11w, g12, g12r, g12w, g13, g13r, g13w, g14, g14r, g14w, g15, g15r, g15w, g25, g25r, g25w, h5, h5w, h5z, h6, h6w, h6z, h8, h8w, h8z, h21, h21w, h21z, h22, h22w, h22z, h23, h23w, fl10, fl16, fl18, fl20, fl24, g11f, g12f, g13f, g14f, g15f, g25f, cN2, cN10, cN16, cN18, cN19, cN20, cN24, z01, z11, ix1, ix2, nI_add, nI_clamp, vin, true_and, and_true, or_true, true_or]
  refine v_addStep hk hs hx hD h14 h16 h17 h18 fun I1 b1 b2 b3 => ?_
  rw [brf (by simp)]
  have hT1 := TP_fk hT b1
  have hK1 := TK_p hK b2
  simp (disch := first | decide | omega) only [brT, brF, c_I, c_rc, c_pI, c_pZ, c_aI, c_sI, ca_I, ca_rc, ca_pI, cq_I, cq_rc, cq_pI, cq_R, cq_aR, cs_I, cs_rc, cs_pI, cs_pZ, f0_0, f0_1, f0_2, f0_3, f0_4, f0_5, f0_6, f0_7, f1_0, f3_0, f4_0, f4_1, f7_0, f7_1, f7_2, f7_3, f7_4, f7_5, f7_6, f7_7, f7_8, f7_9, f17_0, f17_1, f17_2, f17_3, f17_4, f17_5, f0_8, f0_8p, f7_10, f7_10p, g9, g9r, g9w, g11, g11r, g11w, g12, g12r, g12w, g13, g13r, g13w, g14, g14r, g14w, g15, g15r, g15w, g25, g25r, g25w, h5, h5w, h5z, h6, h6w, h6z, h8, h8w, h8z, h21, h21w, h21z, h22, h22w, h22z, h23, h23w, fl10, fl16, fl18, fl20, fl24, g11f, g12f, g13f, g14f, g15f, g25f, cN2, cN10, cN16, cN18, cN19, cN20, cN24, z01, z11, ix1, ix2, nI_add, nI_clamp, vin, true_and, and_true, or_true, true_or]
  refine v_advW (w := 6) (by decide) e hT1 hK1 fun I2 d1 d2 => ?_
  have hT2 := TP_fk (k := k) hT1 (FK_rf d1)
  have hF2 : FK k I0 I2 := FK_trans (FK_trans hF b1) (FK_rf d1)
  have h3 : I2 3 4 = I 3 4 ∧ I2 3 5 = I 3 5 := ⟨d1.2.1.trans (congrFun b2 4), d1.2.2.trans (congrFun b2 5)⟩
  simp (disch := first | decide | omega) only [brT, brF, c_I, c_rc, c_pI, c_pZ, c_aI, c_sI, ca_I, ca_rc, ca_pI, cq_I, cq_rc, cq_pI, cq_R, cq_aR, cs_I, cs_rc, cs_pI, cs_pZ, f0_0, f0_1, f0_2, f0_3, f0_4, f0_5, f0_6, f0_7, f1_0, f3_0, f4_0, f4_1, f7_0, f7_1, f7_2, f7_3, f7_4, f7_5, f7_6, f7_7, f7_8, f7_9, f17_0, f17_1, f17_2, f17_3, f17_4, f17_5, f0_8, f0_8p, f7_10, f7_10p, g9, g9r, g9w, g11, g11r, g11w, g12, g12r, g12w, g13, g13r, g13w, g14, g14r, g14w, g15, g15r, g15w, g25, g25r, g25w, h5, h5w, h5z, h6, h6w, h6z, h8, h8w, h8z, h21, h21w, h21z, h22, h22w, h22z, h23, h23w, fl10, fl16, fl18, fl20, fl24, g11f, g12f, g13f, g14f, g15f, g25f, cN2, cN10, cN16, cN18, cN19, cN20, cN24, z01, z11, ix1, ix2, nI_add, nI_clamp, vin, true_and, and_true, or_true, true_or]
  refine v_number hT2 d2 ?_
  simp (disch := first | decide | omega) only [brT, brF, c_I, c_rc, c_pI, c_pZ, c_aI, c_sI, ca_I, ca_rc, ca_pI, cq_I, cq_rc, cq_pI, cq_R, cq_aR, cs_I, cs_rc, cs_pI, cs_pZ, f0_0, f0_1, f0_2, f0_3, f0_4, f0_5, f0_6, f0_7, f1_0, f3_0, f4_0, f4_1, f7_0, f7_1, f7_2, f7_3, f7_4, f7_5, f7_6, f7_7, f7_8, f7_9, f17_0, f17_1, f17_2, f17_3, f17_4, f17_5, f0_8, f0_8p, f7_10, f7_10p, g9, g9r, g9w, g11, g11r, g11w, g12, g12r, g12w, g13, g13r, g13w, g14, g14r, g14w, g15, g15r, g15w, g25, g25r, g25w, h5, h5w, h5z, h6, h6w, h6z, h8, h8w, h8z, h21, h21w, h21z, h22, h22w, h22z, h23, h23w, fl10, fl16, fl18, fl20, fl24, g11f, g12f, g13f, g14f, g15f, g25f, cN2, cN10, cN16, cN18, cN19, cN20, cN24, z01, z11, ix1, ix2, nI_add, nI_clamp, vin, true_and, and_true, or_true, true_or, p2_same]
  unfold kS2 at hO
  cases hnum : numS T n (skp T n (wep T n p)) 0 7 with
  | none =>
    simp only [hnum] at hO
    rw [brt (show oN none = -1 from rfl)]
    exact hO.1 _ _ rfl (FK_s hF2 hs) (by rw [p2_ne (by omega)]; exact d2.2.1)
  | some y =>
    simp only [hnum] at hO
    obtain ⟨y', hy1, _, hy2⟩ := num_nI (a := 0) (b := 7) (by decide) (by decide) hnum
    rw [brf (show ¬ oN (some y) = -1 by show ¬ y = -1; rw [hy1]; exact nI_nm1 (by omega))]
    show wX4_advance _ _ (cp nA nK R (p2 I2 (2000 + 8 * k + 2 + s) 0 y) J)
    have hr3 : p2 I2 (2000 + 8 * k + 2 + s) 0 y 3 = I2 3 := p2_ne (by omega)
    have hT3 : TP T n (p2 I2 (2000 + 8 * k + 2 + s) 0 y) := TP_fk (k := k) hT2 (FK_s FK_rfl hs)
    have hD3 : QD (p2 Q 15 (48 + s) y) (s + 1) (p2 I2 (2000 + 8 * k + 2 + s) 0 y) k := QDa_kind hs (QDa_cg b3 d1.1)
    refine v_advN hnum hT3 (TK_p d2 hr3) fun I3 c1 c2 => ?_
    have hT4 := TP_fk (k := k) hT3 (FK_rf c1)
    have hF4 : FK k I0 I3 := FK_trans (FK_s hF2 hs) (FK_rf c1)
    have hTT : ∀ I', FK k I0 I' → TP T n I' := fun I' g => TP_cg hT ((g 1 (by decide) (by omega)).trans (hF 1 (by decide) (by omega)).symm) ((g 2 (by decide) (by omega)).trans (hF 2 (by decide) (by omega)).symm)
    unfold wX4_readsConds
    simp (disch := first | decide | omega) only [brT, brF, c_I, c_rc, c_pI, c_pZ, c_aI, c_sI, ca_I, ca_rc, ca_pI, cq_I, cq_rc, cq_pI, cq_R, cq_aR, cs_I, cs_rc, cs_pI, cs_pZ, f0_0, f0_1, f0_2, f0_3, f0_4, f0_5, f0_6, f0_7, f1_0, f3_0, f4_0, f4_1, f7_0, f7_1, f7_2, f7_3, f7_4, f7_5, f7_6, f7_7, f7_8, f7_9, f17_0, f17_1, f17_2, f17_3, f17_4, f17_5, f0_8, f0_8p, f7_10, f7_10p, g9, g9r, g9w, g11, g11r, g11w, g12, g12r, g12w, g13, g13r, g13w, g14, g14r, g14w, g15, g15r, g15w, g25, g25r, g25w, h5, h5w, h5z, h6, h6w, h6z, h8, h8w, h8z, h21, h21w, h21z, h22, h22w, h22z, h23, h23w, fl10, fl16, fl18, fl20, fl24, g11f, g12f, g13f, g14f, g15f, g25f, cN2, cN10, cN16, cN18, cN19, cN20, cN24, z01, z11, ix1, ix2, nI_add, nI_clamp, vin, true_and, and_true, or_true, true_or]
    have hpn : ∀ w Q', Q' 14 = (p2 Q 15 (48 + s) y) 14 ∧ Q' 18 = (p2 Q 15 (48 + s) y) 18 → pnd Q' w s = pnd Q w s := fun w Q' h => pnd_cg fun j hj => ⟨by rw [h.1, p2_ne (by decide)], by rw [h.2, p2_ne (by decide)]⟩
    have hbb : I3 3 4 = bI (pnd Q true s = true) := c1.2.1.trans ((congrFun hr3 4).trans (h3.1.trans hb))
    have hll : I3 3 5 = bI (pnd Q false s = true) := c1.2.2.trans ((congrFun hr3 5).trans (h3.2.trans hl))
    refine ⟨_, v_conds2 hk hs _ _ (Q0 := p2 Q 15 (48 + s) y) (I0 := I0) 3 0 _ _ I3 (by omega) ⟨rfl, rfl⟩ hT4 c2 hF4 (QD_cg hD3 c1.1) hbb hll ?_ ⟨fun f I' g1 g2 g3 => ?_, fun Q' p' I' g1 g2 g3 g4 g5 g6 g7 => ?_, fun Q' p' I' f g1 g2 g3 g4 g5 g6 g7 g8 => ?_⟩⟩
    · refine cnt_no fun f hf z => z ?_
      rw [p2_ne (by decide)]
      exact h16 f hf
    · rw [g1] at hO
      rw [brt rfl]
      exact hO.1 f I' rfl g2 g3
    · rw [g1] at hO
      rw [brf (by decide), c_rc (c := 3) (ci := 4) (by decide) rfl]
      refine v_tail hk hs ho (hTT I' g2) g3 g2 g4 (by rw [g5, hpn true Q' g7]) (by rw [g6, hpn false Q' g7]) ⟨fun f I'' h1 h2 h3 => ?_, fun Q'' p'' I'' h1 h2 h3 h4 h5 h6 => ?_, fun p'' I'' h1 h2 h3 h4 => ?_⟩
      · show br _ _ _; rw [brt rfl]; exact hO.1 f I'' h1 h2 h3
      · show br _ _ _; rw [brf (by decide)]; exact hO.2.1 Q'' p'' I'' h1 h2 h3 h4 h5 h6
      · show br _ _ _; rw [brf (by decide)]; exact hO.2.2 p'' I'' h1 h2 h3 h4
    · rw [g1] at hO
      rw [brf (by decide), c_rc (c := 3) (ci := 4) (by decide) rfl]
      have hn8 := fld_n g2 (w := 8) (.inr rfl)
      have hn5 := fld_n g2 (w := 5) (.inl rfl)
      have hts : tailS T n s (48 + s) Q' p' = .inr (Q', p') := by
        unfold tailS withS
        rw [if_neg (by rw [hn8]; simp), if_neg (by rw [hn5]; simp)]
      have hsrt := (isWb_srt (w := 1 + f) (by have := (fld_w g2).1; omega) (fld_w g2).2).1
      refine v_tail hk hs ho (hTT I' g3) g4 g3 g5 (by rw [g6, hpn true Q' g8]) (by rw [g7, hpn false Q' g8]) ⟨fun f I'' h1 h2 h3 => ?_, fun Q'' p'' I'' h1 h2 h3 h4 h5 h6 => ?_, fun p'' I'' h1 h2 h3 h4 => ?_⟩
      · rw [hts] at h1; cases h1
      · rw [hts] at h1
        cases h1
        show br _ _ _
        rw [brf (by decide)]
        exact hO.2.2 p' I'' rfl h2 h3 hsrt
      · rw [hts] at h1; cases h1
end
