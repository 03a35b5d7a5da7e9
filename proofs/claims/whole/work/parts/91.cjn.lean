section
variable {nA nK H x y a c i nw : Nat} {P d rt : Nat → Nat} {R : RMem} {I I0 D : Mem} {J : Nat → Nat → Int64} {post : Int32 → Pool → Prop} {pst : Pool → Prop} {g : Int32} {wt : Nat → Nat}
noncomputable def mrg (g : Int32) (D : Mem) (a : Nat) (o : Option Nat) (rt : Nat → Nat) : Nat → Nat := match o with
  | none => rt
  | some c => if g < D 8 a - D 8 c then rt else fun y => if rt y = rt a then rt c else rt y
theorem v_linkO (o : Option Nat) (hA : nA ≤ 250) (hH : H + 1 ≤ 500) (hAC : AC D nA R I) (hP : PR19 I P) (hU : UF P d rt H) (ha : a < nA) (ho : ∀ c, o = some c → c < nA) (hp : ∀ I' P' d' H', (∀ j, j ≠ 19 → I' j = I j) → PR19 I' P' → UF P' d' (mrg g D a o rt) H' → H' ≤ H + 1 → pst (cp nA nK R I' J)) : wX1_link pst (some 17) (o.map (1000 + ·)) (some (1000 + a)) g (cp nA nK R I J) := by
  cases o with
  | none =>
    unfold wX1_link
    rw [brt (show Option.map (1000 + ·) (none : Option Nat) = none from rfl)]
    exact hp I P d H (fun _ _ => rfl) hP hU (by omega)
  | some c =>
    refine v_link hA hH hAC hP hU ha (ho c rfl) fun I' P' d' rt' H' b1 b2 b3 b4 b5 b6 => hp I' P' d' H' b1 b2 ?_ b4
    unfold mrg
    by_cases h : g < D 8 a - D 8 c
    · simp only [if_pos h]
      rw [← b6 h]; exact b3
    · simp only [if_neg h]
      rw [← b5 h]; exact b3
def conW (D : Mem) (nA : Nat) (wt : Nat → Nat) (x y : Nat) : Prop := ∀ r : Nat → Nat → Prop, (∀ x, r x x) → (∀ x y, r x y → r y x) → (∀ x y z, r x y → r y z → r x z) → (∀ a b, a < nA → b < nA → 0 < wt a → 0 < wt b → MT D a b → r a b) → r x y
theorem cw_rfl : conW D nA wt x x := fun r h1 _ _ _ => h1 x
theorem cw_sym (h : conW D nA wt x y) : conW D nA wt y x := fun r h1 h2 h3 h4 => h2 _ _ (h r h1 h2 h3 h4)
theorem cw_trans {z : Nat} (h : conW D nA wt x y) (h' : conW D nA wt y z) : conW D nA wt x z := fun r h1 h2 h3 h4 => h3 _ _ _ (h r h1 h2 h3 h4) (h' r h1 h2 h3 h4)
def SND (D : Mem) (nA : Nat) (wt rt : Nat → Nat) : Prop := ∀ x y, x < 250 → y < 250 → rt x = rt y → conW D nA wt x y
theorem mrg_eq {o : Option Nat} (h : rt x = rt y) : mrg g D a o rt x = mrg g D a o rt y := by
  unfold mrg
  cases o with
  | none => exact h
  | some c =>
    show (if _ then rt else _) x = (if _ then rt else _) y
    split
    · exact h
    · show (if rt x = rt a then _ else _) = (if rt y = rt a then _ else _)
      rw [h]
theorem mrg_ca (h : ¬ g < D 8 a - D 8 c) : mrg g D a (some c) rt a = mrg g D a (some c) rt c := by
  unfold mrg
  show (if _ then rt else _) a = (if _ then rt else _) c
  rw [if_neg h]
  show (if rt a = rt a then rt c else rt a) = (if rt c = rt a then rt c else rt c)
  rw [if_pos rfl]
  split <;> rfl
theorem mrg_snd {o : Option Nat} (hg : D 0 2 = g) (hS : SND D nA wt rt) (ha : a < nA) (hA : nA ≤ 250) (hwa : 0 < wt a) (ho : ∀ c, o = some c → c < nA ∧ 0 < wt c ∧ D 8 c ≤ D 8 a ∧ (D 7 (3 * c) = D 7 (3 * a) ∨ D 7 (3 * c + 2) = D 7 (3 * a + 2))) : SND D nA wt (mrg g D a o rt) := by
  cases o with
  | none => exact hS
  | some c =>
    obtain ⟨c1, c2, c3, c4⟩ := ho c rfl
    unfold mrg
    by_cases h : g < D 8 a - D 8 c
    · simp only [if_pos h]; exact hS
    · simp only [if_neg h]
      have hmt : conW D nA wt c a := fun r h1 h2 h3 h4 => h4 c a c1 ha c2 hwa ⟨by rw [if_pos c3, hg]; exact h, c4⟩
      intro x y hx hy e
      by_cases e1 : rt x = rt a
      · by_cases e2 : rt y = rt a
        · exact hS x y hx hy (e1.trans e2.symm)
        · simp only [if_pos e1, if_neg e2] at e
          exact cw_trans (hS x a hx (by omega) e1) (cw_trans (cw_sym hmt) (hS c y (by omega) hy e))
      · by_cases e2 : rt y = rt a
        · simp only [if_neg e1, if_pos e2] at e
          exact cw_trans (hS x c hx (by omega) e) (cw_trans hmt (hS a y (by omega) hy e2.symm))
        · simp only [if_neg e1, if_neg e2] at e
          exact hS x y hx hy e
theorem mrg_W {o : Option Nat} (h : ∀ x, x < 250 → 0 < wt x → 0 < wt (rt x)) (ho : ∀ c, o = some c → c < 250 ∧ 0 < wt c) : ∀ x, x < 250 → 0 < wt x → 0 < wt (mrg g D a o rt x) := by
  cases o with
  | none => exact h
  | some c =>
    obtain ⟨c1, c2⟩ := ho c rfl
    unfold mrg
    by_cases hg : g < D 8 a - D 8 c
    · simp only [if_pos hg]; exact h
    · simp only [if_neg hg]
      intro x hx hw
      by_cases e : rt x = rt a
      · rw [if_pos e]; exact h c c1 c2
      · rw [if_neg e]; exact h x hx hw
noncomputable def lwh (D : Mem) (nA : Nat) (wt : Nat → Nat) (f v i : Nat) : Option Nat := lsB (bt D nA) (fun a => 0 < wt a ∧ vv D a f = v) i
def CMP (D : Mem) (nA : Nat) (g : Int32) (wt rt : Nat → Nat) (i : Nat) : Prop := ∀ j k, j < k → k < i → 0 < wt (bt D nA j) → 0 < wt (bt D nA k) → ¬ g < D 8 (bt D nA k) - D 8 (bt D nA j) → (vv D (bt D nA j) 0 = vv D (bt D nA k) 0 ∨ vv D (bt D nA j) 2 = vv D (bt D nA k) 2) → rt (bt D nA j) = rt (bt D nA k)
theorem gap_mono (hW : WA D nA nw) {b : Nat} (hb : b < nA) (hc : c < nA) (ha : a < nA) (h1 : D 8 b ≤ D 8 c) (h2 : D 8 c ≤ D 8 a) (h : ¬ g < D 8 a - D 8 b) : ¬ g < D 8 a - D 8 c ∧ ¬ g < D 8 c - D 8 b := by
  have t1 := tk_toInt hW hb
  have t2 := tk_toInt hW hc
  have t3 := tk_toInt hW ha
  rw [Int32.le_iff_toInt_le] at h1 h2
  rw [Int32.lt_iff_toInt_lt, i32sub (by omega) (by omega)] at h
  rw [Int32.lt_iff_toInt_lt, Int32.lt_iff_toInt_lt, i32sub (by omega) (by omega), i32sub (by omega) (by omega)]
  omega
/-- one field's link joins the act to all before it that it meets by that field -/
theorem mrg_cmp {f : Nat} (hf : f = 0 ∨ f = 2) (hW : WA D nA nw) (hi : i < nA) {rt0 : Nat → Nat} (hC : CMP D nA g wt rt0 i) (hm : ∀ x y, rt0 x = rt0 y → rt x = rt y) : ∀ j, j < i → 0 < wt (bt D nA j) → vv D (bt D nA j) f = vv D (bt D nA i) f → ¬ g < D 8 (bt D nA i) - D 8 (bt D nA j) → mrg g D (bt D nA i) (lwh D nA wt f (vv D (bt D nA i) f) i) rt (bt D nA j) = mrg g D (bt D nA i) (lwh D nA wt f (vv D (bt D nA i) f) i) rt (bt D nA i) := by
  intro j hj hw hv hgap
  cases ho : lwh D nA wt f (vv D (bt D nA i) f) i with
  | none => exact absurd ⟨hw, hv⟩ (lsB_none ho j hj)
  | some c =>
    obtain ⟨k, hk, rfl, ⟨c1, c2⟩, c3⟩ := lsB_some ho
    have hjk : j ≤ k := by
      apply Decidable.byContradiction
      intro hc
      exact c3 j (by omega) hj ⟨hw, hv⟩
    have hg2 := gap_mono hW (bt_lt (D := D) (show j < nA by omega)) (bt_lt (D := D) (show k < nA by omega)) (bt_lt (D := D) hi) (bt_le hjk (by omega)) (bt_le (show k ≤ i by omega) hi) hgap
    have e1 : rt (bt D nA j) = rt (bt D nA k) := by
      by_cases e : j = k
      · rw [e]
      · refine hm _ _ (hC j k (by omega) hk hw c1 hg2.2 ?_)
        rcases hf with rfl | rfl
        · exact .inl (hv.trans c2.symm)
        · exact .inr (hv.trans c2.symm)
    rw [mrg_eq e1]
    exact (mrg_ca hg2.1).symm
def J21 (D : Mem) (nA : Nat) (wt : Nat → Nat) (R : RMem) (i : Nat) : Prop := (∀ v, v < 31 → R 21 v = (lwh D nA wt 0 v i).map (1000 + ·)) ∧ ∀ v, v < 16 → R 22 v = (lwh D nA wt 2 v i).map (1000 + ·)
theorem lwh_lt {f v : Nat} (hi : i ≤ nA) (h : lwh D nA wt f v i = some c) : c < nA ∧ 0 < wt c ∧ vv D c f = v ∧ ∃ k, k < i ∧ c = bt D nA k := by
  obtain ⟨k, hk, rfl, ⟨c1, c2⟩, c3⟩ := lsB_some h
  exact ⟨bt_lt (by omega), c1, c2, k, hk, rfl⟩
/-- the frame of join -/
def FRJ (R : RMem) (I : Mem) (R' : RMem) (I' : Mem) : Prop := (∀ c, ¬ (17 ≤ c ∧ c ≤ 20) → I' c = I c) ∧ ∀ c, c ≠ 21 → c ≠ 22 → R' c = R c
theorem v_join2 (hW : WA D nA nw) (hg : D 0 2 = g) (hwt : ∀ x, x < 250 → wt x ≤ 8) {R0 : RMem} {I0 : Mem} (hp : ∀ R' I' P' d' rt' H', FRJ R0 I0 R' I' → I' 17 = I0 17 → I' 18 = I0 18 → I' 20 = I0 20 → PR19 I' P' → UF P' d' rt' H' → H' ≤ 2 * nA → SND D nA wt rt' → CMP D nA g wt rt' nA → (∀ x, x < 250 → 0 < wt x → 0 < wt (rt' x)) → ∃ n1, wX1_join_93 pst n1 (some 17) 0 (cp nA nK R' I' J)) : ∀ k' i R I P d rt H, nA = i + k' → AC D nA R I → BT D nA R → I 4 2 = nI nA → (∀ x, x < 250 → I 18 x = nI (wt x)) → FRJ R0 I0 R I → I 17 = I0 17 → I 18 = I0 18 → I 20 = I0 20 → PR19 I P → UF P d rt H → H ≤ 2 * i → SND D nA wt rt → CMP D nA g wt rt i → (∀ x, x < 250 → 0 < wt x → 0 < wt (rt x)) → J21 D nA wt R i → wX1_join_2 pst (k' + 1) (some 17) g (nI i) (cp nA nK R I J) := by
  have hA := hW.1
  intro k'
  induction k' with
  | zero =>
    intro i R I P d rt H hi hAC hBT hl h18 hF f17 f18 f20 hP hU hH hS hC hWr hJ
    have e : i = nA := by omega
    subst e
    unfold wX1_join_2
    simp (disch := first | decide | omega) only [brT, brF, c_I, c_rc, c_pI, c_pZ, c_aI, c_sI, ca_I, ca_rc, ca_pI, cq_I, cq_rc, cq_pI, cq_R, cq_aR, cs_I, cs_rc, cs_pI, cs_pZ, f0_0, f0_1, f0_2, f0_3, f0_4, f0_5, f0_6, f0_7, f1_0, f3_0, f4_0, f4_1, f7_0, f7_1, f7_2, f7_3, f7_4, f7_5, f7_6, f7_7, f7_8, f7_9, f17_0, f17_1, f17_2, f17_3, f17_4, f17_5, f0_8, f0_8p, f7_10, f7_10p, g9, g9r, g9w, g11, g11r, g11w, g12, g12r, g12w, g13, g13r, g13w, g14, g14r, g14w, g15, g15r, g15w, g25, g25r, g25w, h5, h5w, h5z, h6, h6w, h6z, h8, h8w, h8z, h21, h21w, h21z, h22, h22w, h22z, h23, h23w, fl10, fl16, fl18, fl20, fl24, g11f, g12f, g13f, g14f, g15f, g25f, cN2, cN10, cN16, cN18, cN19, cN20, cN24, z01, z11, ix1, ix2, nI_add, nI_clamp, vin, true_and, and_true, or_true, true_or, hl, ile, brt (Nat.le_refl i)]
    exact hp R I P d rt H hF f17 f18 f20 hP hU hH hS hC hWr
  | succ k' ih =>
    intro i R I P d rt H hi hAC hBT hl h18 hF f17 f18 f20 hP hU hH hS hC hWr hJ
    have hiA : i < nA := by omega
    have hb := bt_lt (D := D) hiA
    obtain ⟨_, a0, _, a2, a5, _⟩ := hAC (bt D nA i) hb
    have hv := (hW.2.2 (bt D nA i) hb).2.2.2.2
    have w0 : I (1000 + bt D nA i) 2 = nI (vv D (bt D nA i) 0) := (a2 0 (by decide)).trans (hv.1 0 (by decide)).1
    have w2 : I (1000 + bt D nA i) 4 = nI (vv D (bt D nA i) 2) := (a2 2 (by decide)).trans (hv.1 2 (by decide)).1
    have hv0 := (hv.1 0 (by decide)).2
    have hv2 := hv.2.1
    have hbt := hBT i hiA
    rw [show (byT D nA).getD i 0 = bt D nA i from rfl] at hbt
    have hw8 := hwt (bt D nA i) (by omega)
    unfold wX1_join_2 wX1_join_85
    simp (disch := first | decide | omega) only [brT, brF, c_I, c_rc, c_pI, c_pZ, c_aI, c_sI, ca_I, ca_rc, ca_pI, cq_I, cq_rc, cq_pI, cq_R, cq_aR, cs_I, cs_rc, cs_pI, cs_pZ, f0_0, f0_1, f0_2, f0_3, f0_4, f0_5, f0_6, f0_7, f1_0, f3_0, f4_0, f4_1, f7_0, f7_1, f7_2, f7_3, f7_4, f7_5, f7_6, f7_7, f7_8, f7_9, f17_0, f17_1, f17_2, f17_3, f17_4, f17_5, f0_8, f0_8p, f7_10, f7_10p, g9, g9r, g9w, g11, g11r, g11w, g12, g12r, g12w, g13, g13r, g13w, g14, g14r, g14w, g15, g15r, g15w, g25, g25r, g25w, h5, h5w, h5z, h6, h6w, h6z, h8, h8w, h8z, h21, h21w, h21z, h22, h22w, h22z, h23, h23w, fl10, fl16, fl18, fl20, fl24, g11f, g12f, g13f, g14f, g15f, g25f, cN2, cN10, cN16, cN18, cN19, cN20, cN24, z01, z11, ix1, ix2, nI_add, nI_clamp, vin, true_and, and_true, or_true, true_or, hl, ile, brf (show ¬ nA ≤ i by omega), hbt, a0, h18 (bt D nA i) (by omega), lle0]
    refine brc (fun h => ?_) fun h => ?_
    · refine ih (i + 1) R I P d rt H (by omega) hAC hBT hl h18 hF f17 f18 f20 hP hU (by omega) hS (fun j k h1 h2 h3 h4 => ?_) hWr ⟨fun v h1 => ?_, fun v h1 => ?_⟩
      · by_cases e : k = i
        · subst e; omega
        · exact hC j k h1 (by omega) h3 h4
      · unfold lwh; rw [lsB_f (fun z => by omega)]; exact hJ.1 v h1
      · unfold lwh; rw [lsB_f (fun z => by omega)]; exact hJ.2 v h1
    · have hwp : 0 < wt (bt D nA i) := by omega
      have o1 := fun c (hc : lwh D nA wt 0 (vv D (bt D nA i) 0) i = some c) => lwh_lt (show i ≤ nA by omega) hc
      have o2 := fun c (hc : lwh D nA wt 2 (vv D (bt D nA i) 2) i = some c) => lwh_lt (show i ≤ nA by omega) hc
      simp (disch := first | decide | omega) only [brT, brF, c_I, c_rc, c_pI, c_pZ, c_aI, c_sI, ca_I, ca_rc, ca_pI, cq_I, cq_rc, cq_pI, cq_R, cq_aR, cs_I, cs_rc, cs_pI, cs_pZ, f0_0, f0_1, f0_2, f0_3, f0_4, f0_5, f0_6, f0_7, f1_0, f3_0, f4_0, f4_1, f7_0, f7_1, f7_2, f7_3, f7_4, f7_5, f7_6, f7_7, f7_8, f7_9, f17_0, f17_1, f17_2, f17_3, f17_4, f17_5, f0_8, f0_8p, f7_10, f7_10p, g9, g9r, g9w, g11, g11r, g11w, g12, g12r, g12w, g13, g13r, g13w, g14, g14r, g14w, g15, g15r, g15w, g25, g25r, g25w, h5, h5w, h5z, h6, h6w, h6z, h8, h8w, h8z, h21, h21w, h21z, h22, h22w, h22z, h23, h23w, fl10, fl16, fl18, fl20, fl24, g11f, g12f, g13f, g14f, g15f, g25f, cN2, cN10, cN16, cN18, cN19, cN20, cN24, z01, z11, ix1, ix2, nI_add, nI_clamp, vin, true_and, and_true, or_true, true_or, w0]
      rw [hJ.1 _ hv0]
      refine v_linkO (lwh D nA wt 0 (vv D (bt D nA i) 0) i) hA (by omega) hAC hP hU hb (fun c hc => (o1 c hc).1) fun I1 P1 d1 H1 b1 b2 b3 b4 => ?_
      have w2' : I1 (1000 + bt D nA i) 4 = nI (vv D (bt D nA i) 2) := by rw [b1 _ (by omega)]; exact w2
      have hAC1 : AC D nA R I1 := AC_cg (fun c h1 h2 => b1 c (by omega)) hA rfl hAC
      simp (disch := first | decide | omega) only [brT, brF, c_I, c_rc, c_pI, c_pZ, c_aI, c_sI, ca_I, ca_rc, ca_pI, cq_I, cq_rc, cq_pI, cq_R, cq_aR, cs_I, cs_rc, cs_pI, cs_pZ, f0_0, f0_1, f0_2, f0_3, f0_4, f0_5, f0_6, f0_7, f1_0, f3_0, f4_0, f4_1, f7_0, f7_1, f7_2, f7_3, f7_4, f7_5, f7_6, f7_7, f7_8, f7_9, f17_0, f17_1, f17_2, f17_3, f17_4, f17_5, f0_8, f0_8p, f7_10, f7_10p, g9, g9r, g9w, g11, g11r, g11w, g12, g12r, g12w, g13, g13r, g13w, g14, g14r, g14w, g15, g15r, g15w, g25, g25r, g25w, h5, h5w, h5z, h6, h6w, h6z, h8, h8w, h8z, h21, h21w, h21z, h22, h22w, h22z, h23, h23w, fl10, fl16, fl18, fl20, fl24, g11f, g12f, g13f, g14f, g15f, g25f, cN2, cN10, cN16, cN18, cN19, cN20, cN24, z01, z11, ix1, ix2, nI_add, nI_clamp, vin, true_and, and_true, or_true, true_or, w2']
      rw [hJ.2 _ hv2]
      refine v_linkO (lwh D nA wt 2 (vv D (bt D nA i) 2) i) hA (by omega) hAC1 b2 b3 hb (fun c hc => (o2 c hc).1) fun I2 P2 d2 H2 c1 c2 c3 c4 => ?_
      have w0'' : I2 (1000 + bt D nA i) 2 = nI (vv D (bt D nA i) 0) := by rw [c1 _ (by omega), b1 _ (by omega)]; exact w0
      have w2'' : I2 (1000 + bt D nA i) 4 = nI (vv D (bt D nA i) 2) := by rw [c1 _ (by omega)]; exact w2'
      have hI2 : ∀ c, c ≠ 19 → I2 c = I c := fun c hc => (c1 c hc).trans (b1 c hc)
      simp (disch := first | decide | omega) only [brT, brF, c_I, c_rc, c_pI, c_pZ, c_aI, c_sI, ca_I, ca_rc, ca_pI, cq_I, cq_rc, cq_pI, cq_R, cq_aR, cs_I, cs_rc, cs_pI, cs_pZ, f0_0, f0_1, f0_2, f0_3, f0_4, f0_5, f0_6, f0_7, f1_0, f3_0, f4_0, f4_1, f7_0, f7_1, f7_2, f7_3, f7_4, f7_5, f7_6, f7_7, f7_8, f7_9, f17_0, f17_1, f17_2, f17_3, f17_4, f17_5, f0_8, f0_8p, f7_10, f7_10p, g9, g9r, g9w, g11, g11r, g11w, g12, g12r, g12w, g13, g13r, g13w, g14, g14r, g14w, g15, g15r, g15w, g25, g25r, g25w, h5, h5w, h5z, h6, h6w, h6z, h8, h8w, h8z, h21, h21w, h21z, h22, h22w, h22z, h23, h23w, fl10, fl16, fl18, fl20, fl24, g11f, g12f, g13f, g14f, g15f, g25f, cN2, cN10, cN16, cN18, cN19, cN20, cN24, z01, z11, ix1, ix2, nI_add, nI_clamp, vin, true_and, and_true, or_true, true_or, w0'', w2'']
      have hc1 : ∀ c, lwh D nA wt 0 (vv D (bt D nA i) 0) i = some c → c < nA ∧ 0 < wt c ∧ D 8 c ≤ D 8 (bt D nA i) ∧ (D 7 (3 * c) = D 7 (3 * bt D nA i) ∨ D 7 (3 * c + 2) = D 7 (3 * bt D nA i + 2)) := fun c hc => by
        obtain ⟨x1, x2, x3, k, x4, x5⟩ := o1 c hc
        refine ⟨x1, x2, by rw [x5]; exact bt_le (by omega) hiA, .inl ?_⟩
        have y1 := ((hW.2.2 c x1).2.2.2.2.1 0 (by decide)).1
        have y2 := (hv.1 0 (by decide)).1
        rw [x3] at y1
        exact y1.trans y2.symm
      have hc2 : ∀ c, lwh D nA wt 2 (vv D (bt D nA i) 2) i = some c → c < nA ∧ 0 < wt c ∧ D 8 c ≤ D 8 (bt D nA i) ∧ (D 7 (3 * c) = D 7 (3 * bt D nA i) ∨ D 7 (3 * c + 2) = D 7 (3 * bt D nA i + 2)) := fun c hc => by
        obtain ⟨x1, x2, x3, k, x4, x5⟩ := o2 c hc
        refine ⟨x1, x2, by rw [x5]; exact bt_le (by omega) hiA, .inr ?_⟩
        have y1 := ((hW.2.2 c x1).2.2.2.2.1 2 (by decide)).1
        have y2 := (hv.1 2 (by decide)).1
        rw [x3] at y1
        exact y1.trans y2.symm
      refine ih (i + 1) _ I2 P2 d2 _ H2 (by omega) ?_ (fun k hk => ?_) (by rw [hI2 4 (by decide)]; exact hl) (fun x hx => by rw [hI2 18 (by decide)]; exact h18 x hx) ⟨fun c hc => ?_, fun c e1 e2 => ?_⟩ ?_ ?_ ?_ c2 c3 (by omega) (mrg_snd hg (mrg_snd hg hS hb hA hwp hc1) hb hA hwp hc2) ?_ (mrg_W (mrg_W hWr fun c hc => ⟨by have := (o1 c hc).1; omega, (o1 c hc).2.1⟩) fun c hc => ⟨by have := (o2 c hc).1; omega, (o2 c hc).2.1⟩) ⟨fun v h1 => ?_, fun v h1 => ?_⟩
      · refine AC_cg (fun c h1 h2 => hI2 c (by omega)) hA ?_ hAC
        rw [p2_ne (by decide), p2_ne (by decide)]
      · rw [p2_ne (by decide), p2_ne (by decide)]; exact hBT k hk
      · rw [hI2 c (by omega)]; exact hF.1 c hc
      · rw [p2_ne e2, p2_ne e1]; exact hF.2 c e1 e2
      · rw [hI2 17 (by decide)]; exact f17
      · rw [hI2 18 (by decide)]; exact f18
      · rw [hI2 20 (by decide)]; exact f20
      · intro j k h1 h2 h3 h4 h5 h6
        by_cases e : k = i
        · subst e
          rcases h6 with h6 | h6
          · exact mrg_eq (mrg_cmp (.inl rfl) hW hiA hC (fun _ _ z => z) j h1 h3 h6 h5)
          · exact mrg_cmp (.inr rfl) hW hiA hC (fun _ _ z => mrg_eq z) j h1 h3 h6 h5
        · exact mrg_eq (mrg_eq (hC j k h1 (by omega) h3 h4 h5 h6))
      · rw [p2_ne (by decide)]
        unfold lwh
        by_cases e : v = vv D (bt D nA i) 0
        · subst e
          rw [p2_same, lsB_t (P := fun a => 0 < wt a ∧ vv D a 0 = vv D (bt D nA i) 0) ⟨hwp, rfl⟩]
          rfl
        · rw [p2_row e, lsB_f (fun z => e z.2.symm)]; exact hJ.1 v h1
      · unfold lwh
        by_cases e : v = vv D (bt D nA i) 2
        · subst e
          rw [p2_same, lsB_t (P := fun a => 0 < wt a ∧ vv D a 2 = vv D (bt D nA i) 2) ⟨hwp, rfl⟩]
          rfl
        · rw [p2_row e, lsB_f (fun z => e z.2.symm), p2_ne (by decide)]; exact hJ.2 v h1
/-- sums -/
def smf (f : Nat → Nat) : Nat → Nat
  | 0 => 0
  | n + 1 => smf f n + f n
theorem v_join93 (hA : nA ≤ 250) (hwt : ∀ x, x < 250 → wt x ≤ 8) {R0 : RMem} {I0 : Mem} (hp : ∀ I' P', FRJ R0 I0 R I' → I' 17 6 = I0 17 6 → I' 17 7 = nI (cnt (fun n => 0 < wt n ∧ rt n = n) nA) → (∀ r, r < 250 → I' 20 r = nI (smf (fun x => if rt x = r then wt x else 0) nA)) → PR19 I' P' → UF P' d rt H → pst (cp nA nK R I' J)) (hH : H ≤ 500) : ∀ k' n I P, nA = n + k' → I 4 2 = nI nA → (∀ x, x < 250 → I 18 x = nI (wt x)) → FRJ R0 I0 R I → I 17 6 = I0 17 6 → I 17 7 = nI (cnt (fun n => 0 < wt n ∧ rt n = n) n) → (∀ r, r < 250 → I 20 r = nI (smf (fun x => if rt x = r then wt x else 0) n)) → PR19 I P → UF P d rt H → wX1_join_93 pst (k' + 1) (some 17) (nI n) (cp nA nK R I J) := by
  intro k'
  induction k' with
  | zero =>
    intro n I P hn hl h18 hF h6 h7 h20 hP hU
    have e : n = nA := by omega
    subst e
    unfold wX1_join_93
    simp (disch := first | decide | omega) only [brT, brF, c_I, c_rc, c_pI, c_pZ, c_aI, c_sI, ca_I, ca_rc, ca_pI, cq_I, cq_rc, cq_pI, cq_R, cq_aR, cs_I, cs_rc, cs_pI, cs_pZ, f0_0, f0_1, f0_2, f0_3, f0_4, f0_5, f0_6, f0_7, f1_0, f3_0, f4_0, f4_1, f7_0, f7_1, f7_2, f7_3, f7_4, f7_5, f7_6, f7_7, f7_8, f7_9, f17_0, f17_1, f17_2, f17_3, f17_4, f17_5, f0_8, f0_8p, f7_10, f7_10p, g9, g9r, g9w, g11, g11r, g11w, g12, g12r, g12w, g13, g13r, g13w, g14, g14r, g14w, g15, g15r, g15w, g25, g25r, g25w, h5, h5w, h5z, h6, h6w, h6z, h8, h8w, h8z, h21, h21w, h21z, h22, h22w, h22z, h23, h23w, fl10, fl16, fl18, fl20, fl24, g11f, g12f, g13f, g14f, g15f, g25f, cN2, cN10, cN16, cN18, cN19, cN20, cN24, z01, z11, ix1, ix2, nI_add, nI_clamp, vin, true_and, and_true, or_true, true_or, hl, ile, brt (Nat.le_refl n)]
    exact hp I P hF h6 h7 h20 hP hU
  | succ k' ih =>
    intro n I P hn hl h18 hF h6 h7 h20 hP hU
    have hn2 : n < 250 := by omega
    have hw8 := hwt n hn2
    obtain ⟨n1, n2, n3, n4, n5, n6, n7⟩ := hU n hn2
    have hroot : P n = n ↔ rt n = n := ⟨fun z => (n5 z).1, fun z => by rw [z] at n4; exact n4⟩
    have h133 : ∀ I1, (∀ c, c ≠ 17 → I1 c = I c) → I1 17 6 = I0 17 6 → I1 17 7 = nI (cnt (fun n => 0 < wt n ∧ rt n = n) (n + 1)) → wX1_join_133 (wX1_join_93 pst (k' + 1)) pst (some 17) (nI n) (cp nA nK R I1 J) := by
      intro I1 b1 b2 b3
      unfold wX1_join_133
      simp (disch := first | decide | omega) only [brT, brF, c_I, c_rc, c_pI, c_pZ, c_aI, c_sI, ca_I, ca_rc, ca_pI, cq_I, cq_rc, cq_pI, cq_R, cq_aR, cs_I, cs_rc, cs_pI, cs_pZ, f0_0, f0_1, f0_2, f0_3, f0_4, f0_5, f0_6, f0_7, f1_0, f3_0, f4_0, f4_1, f7_0, f7_1, f7_2, f7_3, f7_4, f7_5, f7_6, f7_7, f7_8, f7_9, f17_0, f17_1, f17_2, f17_3, f17_4, f17_5, f0_8, f0_8p, f7_10, f7_10p, g9, g9r, g9w, g11, g11r, g11w, g12, g12r, g12w, g13, g13r, g13w, g14, g14r, g14w, g15, g15r, g15w, g25, g25r, g25w, h5, h5w, h5z, h6, h6w, h6z, h8, h8w, h8z, h21, h21w, h21z, h22, h22w, h22z, h23, h23w, fl10, fl16, fl18, fl20, fl24, g11f, g12f, g13f, g14f, g15f, g25f, cN2, cN10, cN16, cN18, cN19, cN20, cN24, z01, z11, ix1, ix2, nI_add, nI_clamp, vin, true_and, and_true, or_true, true_or]
      refine v_root hH (P := P) (d := d) (rt := rt) (H := H) (fun y hy => by rw [b1 19 (by decide)]; exact hP y hy) hU hn2 fun I2 P2 c1 c2 c3 c4 => ?_
      have e20 : I2 20 (rt n) = nI (smf (fun x => if rt x = rt n then wt x else 0) n) := by rw [c1 20 (by decide), b1 20 (by decide)]; exact h20 (rt n) n2
      have e18 : I2 18 n = nI (wt n) := by rw [c1 18 (by decide), b1 18 (by decide)]; exact h18 n hn2
      simp (disch := first | decide | omega) only [brT, brF, c_I, c_rc, c_pI, c_pZ, c_aI, c_sI, ca_I, ca_rc, ca_pI, cq_I, cq_rc, cq_pI, cq_R, cq_aR, cs_I, cs_rc, cs_pI, cs_pZ, f0_0, f0_1, f0_2, f0_3, f0_4, f0_5, f0_6, f0_7, f1_0, f3_0, f4_0, f4_1, f7_0, f7_1, f7_2, f7_3, f7_4, f7_5, f7_6, f7_7, f7_8, f7_9, f17_0, f17_1, f17_2, f17_3, f17_4, f17_5, f0_8, f0_8p, f7_10, f7_10p, g9, g9r, g9w, g11, g11r, g11w, g12, g12r, g12w, g13, g13r, g13w, g14, g14r, g14w, g15, g15r, g15w, g25, g25r, g25w, h5, h5w, h5z, h6, h6w, h6z, h8, h8w, h8z, h21, h21w, h21z, h22, h22w, h22z, h23, h23w, fl10, fl16, fl18, fl20, fl24, g11f, g12f, g13f, g14f, g15f, g25f, cN2, cN10, cN16, cN18, cN19, cN20, cN24, z01, z11, ix1, ix2, nI_add, nI_clamp, vin, true_and, and_true, or_true, true_or, e20, e18]
      refine ih (n + 1) _ P2 (by omega) ?_ (fun x hx => ?_) ⟨fun c hc => ?_, hF.2⟩ ?_ ?_ (fun r hr => ?_) (fun y hy => ?_) c3
      · rw [p2_ne (by decide), c1 4 (by decide), b1 4 (by decide)]; exact hl
      · rw [p2_ne (by decide), c1 18 (by decide), b1 18 (by decide)]; exact h18 x hx
      · rw [p2_ne (by omega), c1 c (by omega), b1 c (by omega)]; exact hF.1 c hc
      · rw [p2_ne (by decide), c1 17 (by decide)]; exact b2
      · rw [p2_ne (by decide), c1 17 (by decide)]; exact b3
      · by_cases e : r = rt n
        · subst e
          rw [p2_same, smf, if_pos rfl]
        · rw [p2_row e, smf, if_neg (fun z => e z.symm), Nat.add_zero, c1 20 (by decide), b1 20 (by decide)]
          exact h20 r hr
      · rw [p2_ne (by decide)]; exact c2 y hy
    unfold wX1_join_93
    simp (disch := first | decide | omega) only [brT, brF, c_I, c_rc, c_pI, c_pZ, c_aI, c_sI, ca_I, ca_rc, ca_pI, cq_I, cq_rc, cq_pI, cq_R, cq_aR, cs_I, cs_rc, cs_pI, cs_pZ, f0_0, f0_1, f0_2, f0_3, f0_4, f0_5, f0_6, f0_7, f1_0, f3_0, f4_0, f4_1, f7_0, f7_1, f7_2, f7_3, f7_4, f7_5, f7_6, f7_7, f7_8, f7_9, f17_0, f17_1, f17_2, f17_3, f17_4, f17_5, f0_8, f0_8p, f7_10, f7_10p, g9, g9r, g9w, g11, g11r, g11w, g12, g12r, g12w, g13, g13r, g13w, g14, g14r, g14w, g15, g15r, g15w, g25, g25r, g25w, h5, h5w, h5z, h6, h6w, h6z, h8, h8w, h8z, h21, h21w, h21z, h22, h22w, h22z, h23, h23w, fl10, fl16, fl18, fl20, fl24, g11f, g12f, g13f, g14f, g15f, g25f, cN2, cN10, cN16, cN18, cN19, cN20, cN24, z01, z11, ix1, ix2, nI_add, nI_clamp, vin, true_and, and_true, or_true, true_or, hl, ile, brf (show ¬ nA ≤ n by omega), h18 n hn2, hP n hn2, lle0, ieq, h7]
    refine brc (fun g => h133 I (fun _ _ => rfl) h6 (by rw [cnt_f (fun z => by omega)]; exact h7)) fun g => brc (fun g2 => ?_) fun g2 => h133 I (fun _ _ => rfl) h6 (by rw [cnt_f (fun z => g2 (hroot.mpr z.2))]; exact h7)
    refine h133 _ (fun c hc => p2_ne hc) (by rw [p2_row (by decide)]; exact h6) ?_
    rw [p2_same, cnt_t (p := fun n => 0 < wt n ∧ rt n = n) ⟨by omega, hroot.mp g2⟩]
end
