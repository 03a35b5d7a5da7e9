/-! ===== the class's sweep: reach ===== -/
def QC (D : Mem) (q ns : Nat) (I : Mem) (k : Nat) : Prop := I (2000 + 8 * k) 1 = nI ns ∧ I (2000 + 8 * k) 2 = nI (rk D q ns) ∧ I (2000 + 8 * k) 3 = D 12 q ∧ I (2000 + 8 * k) 4 = D 19 q ∧ (¬ D 19 q = -1 → I (2000 + 8 * k) 5 = D 20 q ∧ I (2000 + 8 * k) 6 = D 21 q) ∧ ∀ s, s < ns → I (2000 + 8 * k + 2 + s) 0 = D 15 (6 * q + s) ∧ (∀ f, f < 3 → I (2000 + 8 * k + 2 + s) (1 + f) = D 16 (3 * (6 * q + s) + f)) ∧ I (2000 + 8 * k + 2 + s) 4 = D 14 (6 * q + s) ∧ I (2000 + 8 * k + 2 + s) 5 = D 17 (6 * q + s) ∧ I (2000 + 8 * k + 2 + s) 6 = D 18 (6 * q + s) ∧ I (2000 + 8 * k + 2 + s) 7 = nI (rk D q s)
def CX (D : Mem) (nA nK nw q k fb ns pf l kn : Nat) (t : Int32) (R : RMem) (I : Mem) : Prop :=
  WA D nA nw ∧ QV D nA q fb ns pf l ∧ k < nK ∧ AC D nA R I ∧ BT D nA R ∧ I 4 2 = nI nA ∧ QC D q ns I k ∧ R 7 10 = some (2000 + 8 * k) ∧ I 7 13 = nI kn ∧ kn ≤ nA ∧ (∀ i, i < nA → (i < kn ↔ D 9 i ≤ t)) ∧ I 7 12 = t
def sw (c : Nat) : Prop := c = 10 ∨ c = 16 ∨ (26 ≤ c ∧ c < 87)
theorem QC_cg {D : Mem} {q ns k : Nat} {I I' : Mem} (h : ∀ c, 2000 ≤ c → I' c = I c) (hq : QC D q ns I k) : QC D q ns I' k := by
  unfold QC at hq ⊢
  rw [h _ (by omega)]
  refine ⟨hq.1, hq.2.1, hq.2.2.1, hq.2.2.2.1, hq.2.2.2.2.1, fun s hs => ?_⟩
  rw [h _ (by omega)]
  exact hq.2.2.2.2.2 s hs
theorem AC_cg {D : Mem} {nA : Nat} {R R' : RMem} {I I' : Mem} (h : ∀ c, 1000 ≤ c → c < 2000 → I' c = I c) (hA : nA ≤ 250) (hR : R' 5 = R 5) (hq : AC D nA R I) : AC D nA R' I' := by
  intro i hi
  rw [hR, h _ (by omega) (by omega)]
  exact hq i hi
section
variable {D : Mem} {nA nK nw q k fb ns pf l kn st i s p x : Nat} {t v : Int32} {R : RMem} {I : Mem} {J : Nat → Nat → Int64} {post : Int32 → Pool → Prop} {pst : Pool → Prop}
theorem CX_I {I' : Mem} (h : CX D nA nK nw q k fb ns pf l kn t R I) (h1 : ∀ c, c ≠ 7 → ¬ sw c → I' c = I c) (h2 : I' 7 13 = I 7 13) (h3 : I' 7 12 = I 7 12) : CX D nA nK nw q k fb ns pf l kn t R I' := by
  obtain ⟨a1, a2, a3, a4, a5, a6, a7, a8, a9, a10, a11, a12⟩ := h
  refine ⟨a1, a2, a3, AC_cg (fun c hc _ => h1 c (by omega) (by unfold sw; omega)) a1.1 rfl a4, a5, ?_, QC_cg (fun c hc => h1 c (by omega) (by unfold sw; omega)) a7, a8, h2.trans a9, a10, a11, h3.trans a12⟩
  rw [h1 4 (by decide) (by unfold sw; omega)]
  exact a6
theorem CX_p {c j : Nat} (h : CX D nA nK nw q k fb ns pf l kn t R I) (hc : sw c) : CX D nA nK nw q k fb ns pf l kn t R (p2 I c j v) := by
  have h7 : (7 : Nat) ≠ c := fun z => by unfold sw at hc; omega
  refine CX_I h (fun d h1 h2 => p2_ne (fun z => h2 (z ▸ hc))) ?_ ?_
  · rw [p2_ne h7]
  · rw [p2_ne h7]
theorem v_known (hW : WA D nA nw) (hAC : AC D nA R I) (hl : I 4 2 = nI nA) (hp : ∀ kn, kn ≤ nA → (∀ i, i < nA → (i < kn ↔ D 9 i ≤ t)) → post (nI kn) (cp nA nK R I J)) : wX2_knownAt post (some 4) t (cp nA nK R I J) := by
  have hA := hW.1
  have hnw := hW.2.1
  have key : ∀ n, n ≤ nA → (∀ i, i < nA → n ≤ i → ¬ D 9 i ≤ t) → wX2_knownAt_5 post (n + 1) (some 4) t (nI n) (cp nA nK R I J) := by
    intro n
    induction n with
    | zero =>
      intro _ h
      unfold wX2_knownAt_5
      simp (disch := first | decide | omega) only [lle0, brt (show 0 ≤ 0 by omega)]
      exact hp 0 (by omega) fun i hi => ⟨fun z => by omega, fun z => absurd z (h i hi (by omega))⟩
    | succ n ih =>
      intro hn h
      obtain ⟨e1, _, _, _, _, e6, _⟩ := hAC n (by omega)
      unfold wX2_knownAt_5
      simp (disch := first | decide | omega) only [c_I, c_rc, c_pI, c_pZ, c_aI, c_sI, ca_I, ca_rc, ca_pI, cq_I, cq_rc, cq_pI, cq_R, cq_aR, cs_I, cs_rc, cs_pI, cs_pZ, f0_0, f0_1, f0_2, f0_3, f0_4, f0_5, f0_6, f0_7, f1_0, f3_0, f4_0, f4_1, f7_0, f7_1, f7_2, f7_3, f7_4, f7_5, f7_6, f7_7, f7_8, f7_9, f17_0, f17_1, f17_2, f17_3, f17_4, f17_5, f0_8, f0_8p, f7_10, f7_10p, g9, g9r, g9w, g11, g11r, g11w, g12, g12r, g12w, g13, g13r, g13w, g14, g14r, g14w, g15, g15r, g15w, g25, g25r, g25w, h5, h5w, h5z, h6, h6w, h6z, h8, h8w, h8z, h21, h21w, h21z, h22, h22w, h22z, h23, h23w, fl10, fl16, fl18, fl20, fl24, g11f, g12f, g13f, g14f, g15f, g25f, cN2, cN10, cN16, cN18, cN19, cN20, cN24, z01, z11, ix1, ix2, nI_add, nI_clamp, vin, true_and, and_true, or_true, true_or, lle0, brf (show ¬ n + 1 ≤ 0 by omega), ixs, ixm, Nat.add_sub_cancel, e1, e6]
      refine brc (fun h1 => ?_) fun h1 => ih (by omega) fun i hi hni => ?_
      · refine hp (n + 1) hn fun i hi => ⟨fun z => ?_, fun z => ?_⟩
        · by_cases e : i = n
          · rw [e]; exact h1
          · have b1 := (hW.2.2 n (by omega)).2.2.2.2.2.2 i (by omega)
            have b2 := (hW.2.2 n (by omega)).2.1
            have b3 := (hW.2.2 i hi).2.1
            have b4 := (hW.2.2 n (by omega)).2.2.2.1
            refine Int32.le_trans ?_ h1
            rw [b3, b2, ile (by omega) (by omega)]
            exact b1
        · apply Decidable.byContradiction
          intro hc
          exact h i hi (by omega) z
      · by_cases e : i = n
        · rw [e]; exact h1
        · exact h i hi (by omega)
  unfold wX2_knownAt
  simp (disch := first | decide | omega) only [c_I, c_rc, c_pI, c_pZ, c_aI, c_sI, ca_I, ca_rc, ca_pI, cq_I, cq_rc, cq_pI, cq_R, cq_aR, cs_I, cs_rc, cs_pI, cs_pZ, f0_0, f0_1, f0_2, f0_3, f0_4, f0_5, f0_6, f0_7, f1_0, f3_0, f4_0, f4_1, f7_0, f7_1, f7_2, f7_3, f7_4, f7_5, f7_6, f7_7, f7_8, f7_9, f17_0, f17_1, f17_2, f17_3, f17_4, f17_5, f0_8, f0_8p, f7_10, f7_10p, g9, g9r, g9w, g11, g11r, g11w, g12, g12r, g12w, g13, g13r, g13w, g14, g14r, g14w, g15, g15r, g15w, g25, g25r, g25w, h5, h5w, h5z, h6, h6w, h6z, h8, h8w, h8z, h21, h21w, h21z, h22, h22w, h22z, h23, h23w, fl10, fl16, fl18, fl20, fl24, g11f, g12f, g13f, g14f, g15f, g25f, cN2, cN10, cN16, cN18, cN19, cN20, cN24, z01, z11, ix1, ix2, nI_add, nI_clamp, vin, true_and, and_true, or_true, true_or, hl]
  exact ⟨_, key nA (Nat.le_refl _) fun i hi h => by omega⟩
theorem rk_inj {s s' : Nat} (h : D 14 (6 * q + s) = 0) (h' : D 14 (6 * q + s') = 0) (e : rk D q s = rk D q s') : s = s' := by
  apply Decidable.byContradiction
  intro hc
  by_cases e2 : s < s'
  · have := rk_mono (D := D) (q := q) (show s + 1 ≤ s' by omega)
    rw [rk_t h] at this
    omega
  · have := rk_mono (D := D) (q := q) (show s' + 1 ≤ s by omega)
    rw [rk_t h'] at this
    omega
theorem vl_nI {a : Nat} (hW : WA D nA nw) (hQ : QV D nA q fb ns pf l) (ha : a < nA) : vl D q a = nI (vv D a fb) ∧ vv D a fb < 31 := by
  have h1 := hQ.1.2.2.1
  have h2 := hQ.1.2.1
  unfold vl
  rw [h1, nI_clamp (by omega)]
  exact ((hW.2.2 a ha).2.2.2.2.1 fb h2)
theorem adm_FT0 {a : Nat} (hAC : AC D nA R I) (hQC : QC D q ns I k) (ha : a < nA) (hs : s < ns) : adm I (2000 + 8 * k + 2 + s) a = FT0 D q s a := by
  obtain ⟨_, _, e2, e3, _⟩ := hAC a ha
  obtain ⟨c0, c1, _⟩ := hQC.2.2.2.2.2 s hs
  have f0 := e3 0 (by omega)
  have f1 := e3 1 (by omega)
  have f2 := e3 2 (by omega)
  have g0 := c1 0 (by omega)
  have g1 := c1 1 (by omega)
  have g2 := c1 2 (by omega)
  unfold adm FT0
  rw [e2, c0, show I (1000 + a) 2 = _ from f0, show I (1000 + a) 3 = _ from f1, show I (1000 + a) 4 = _ from f2, show I (2000 + 8 * k + 2 + s) 1 = _ from g0, show I (2000 + 8 * k + 2 + s) 2 = _ from g1, show I (2000 + 8 * k + 2 + s) 3 = _ from g2]
  refine propext ⟨fun ⟨h1, h2, h3, h4⟩ => ⟨h1, fun f hf => ?_⟩, fun ⟨h1, h2⟩ => ⟨h1, (h2 0 (by omega)).imp id Eq.symm, (h2 1 (by omega)).imp id Eq.symm, (h2 2 (by omega)).imp id Eq.symm⟩⟩
  rcases (show f = 0 ∨ f = 1 ∨ f = 2 by omega) with rfl | rfl | rfl
  · exact h2.imp id Eq.symm
  · exact h3.imp id Eq.symm
  · exact h4.imp id Eq.symm
/-- rows of the pass -/
def LA1 (D : Mem) (nA : Nat) (t : Int32) (q s : Nat) (I : Mem) (m : Nat) : Prop := ∀ v, v < 31 → I (32 + rk D q s) v = oI (lsB (bt D nA) (fun a => EN D nA t q s a ∧ vl D q a = nI v) m) ∧ I (38 + rk D q s) v = otd D (-1) (lsB (bt D nA) (fun a => EN D nA t q s a ∧ vl D q a = nI v) m)
def LA (D : Mem) (nA : Nat) (t : Int32) (q ns : Nat) (I : Mem) (ix : Nat → Nat) : Prop := ∀ s, s < ns → D 14 (6 * q + s) = 0 → LA1 D nA t q s I (ix s)
def LN (D : Mem) (nA : Nat) (t : Int32) (q ns : Nat) (I : Mem) (m : Nat) : Prop := ∀ r v, r < 6 → v < 31 → I (44 + r) v = otd D (-1) (lsB (bt D nA) (fun c => D 9 c ≤ t ∧ NT D q ns r c ∧ vl D q c = nI v) m)
def BV (D : Mem) (nA : Nat) (t : Int32) (q s a : Nat) (v : Int32) : Prop := (¬ EN D nA t q s a ∧ v = -2) ∨ (EN D nA t q s a ∧ ((bfr D q s = none ∧ v = -1) ∨ ∃ p x, bfr D q s = some p ∧ BS D nA t q p s a x ∧ v = nI x))
theorem m1_toInt : (-1 : Int32).toInt = -1 := by decide
theorem oI_m1 {o : Option Nat} (h : ∀ x, o = some x → x < 250) : (oI o = -1) = (o = none) := by
  cases o with
  | none => simp [oI]
  | some x =>
    have := nI_nm1 (show x < 2 ^ 31 by have := h x rfl; omega)
    simp [oI, this]
theorem otd_m1 (hW : WA D nA nw) {o : Option Nat} (h : ∀ x, o = some x → x < nA) : (otd D (-1) o = -1) = (o = none) := by
  cases o with
  | none => simp [otd]
  | some x =>
    have h1 := tk_toInt hW (h x rfl)
    have : ¬ D 8 x = -1 := fun z => by rw [z, m1_toInt] at h1; omega
    simp [otd, this]
theorem lsB_lt {P : Nat → Prop} {m : Nat} (hm : m ≤ nA) (h : lsB (bt D nA) P m = some x) : x < nA := by
  obtain ⟨j, hj, rfl, _⟩ := lsB_some h
  exact bt_lt (by omega)
theorem v_ahead (hX : CX D nA nK nw q k fb ns pf l kn t R I) (hst : st ≤ nA) (hLA : LA D nA t q ns I (fun _ => st)) (hLN : LN D nA t q ns I st) (hs : s < ns) (hs0 : D 14 (6 * q + s) = 0) (hp : bfr D q s = some p) {a w : Nat} (hw : w < 31)
    (h1 : ∀ x, lsB (bt D nA) (fun a => EN D nA t q p a ∧ vl D q a = nI w) st = some x → AH D q s a x (lsB (bt D nA) (fun c => D 9 c ≤ t ∧ NT D q ns (rk D q s) c ∧ vl D q c = nI w) st) → post (nI x) (cp nA nK R I J))
    (h2 : (∀ x, lsB (bt D nA) (fun a => EN D nA t q p a ∧ vl D q a = nI w) st = some x → ¬ AH D q s a x (lsB (bt D nA) (fun c => D 9 c ≤ t ∧ NT D q ns (rk D q s) c ∧ vl D q c = nI w) st)) → post (-2) (cp nA nK R I J)) :
    wX6_actAhead post (some 7) (some (2000 + 8 * k + 2 + s)) (D 8 a) (nI w) (cp nA nK R I J) := by
  obtain ⟨hW, hQ, hk, hAC, hBT, hl, hQC, h710, h713, hkn, hknw, h712⟩ := hX
  have hns : ns ≤ 6 := hQ.1.2.2.2.1
  obtain ⟨_, _, _, _, c6, c7⟩ := hQC.2.2.2.2.2 s hs
  have hr := rk_s hp
  have hrl := rk_le (D := D) (q := q) s
  have hpl := bfr_lt hp
  obtain ⟨l1, l2⟩ := hLA p (by omega) hpl.2 w hw
  have l3 := hLN (rk D q s) w (by omega) hw
  unfold wX6_actAhead wX6_actAhead_37 wX6_actAhead_63 wX6_actAhead_64
  have e1 : nI (rk D q s) - 1 = nI (rk D q p) := by rw [hr, ixs _ (by omega), Nat.add_sub_cancel]
  simp (disch := first | decide | omega) only [c_I, c_rc, c_pI, c_pZ, c_aI, c_sI, ca_I, ca_rc, ca_pI, cq_I, cq_rc, cq_pI, cq_R, cq_aR, cs_I, cs_rc, cs_pI, cs_pZ, f0_0, f0_1, f0_2, f0_3, f0_4, f0_5, f0_6, f0_7, f1_0, f3_0, f4_0, f4_1, f7_0, f7_1, f7_2, f7_3, f7_4, f7_5, f7_6, f7_7, f7_8, f7_9, f17_0, f17_1, f17_2, f17_3, f17_4, f17_5, f0_8, f0_8p, f7_10, f7_10p, g9, g9r, g9w, g11, g11r, g11w, g12, g12r, g12w, g13, g13r, g13w, g14, g14r, g14w, g15, g15r, g15w, g25, g25r, g25w, h5, h5w, h5z, h6, h6w, h6z, h8, h8w, h8z, h21, h21w, h21z, h22, h22w, h22z, h23, h23w, fl10, fl16, fl18, fl20, fl24, g11f, g12f, g13f, g14f, g15f, g25f, cN2, cN10, cN16, cN18, cN19, cN20, cN24, z01, z11, ix1, ix2, nI_add, nI_clamp, vin, true_and, and_true, or_true, true_or, c6, c7, e1, l1, l2, l3, c00, c10, brT, brF]
  cases ho : lsB (bt D nA) (fun a => EN D nA t q p a ∧ vl D q a = nI w) st with
  | none =>
    rw [brt (show otd D (-1) none = -1 from rfl)]
    exact h2 fun x hx => by rw [ho] at hx; cases hx
  | some x =>
    have hx := lsB_lt hst ho
    have e2 : ¬ otd D (-1) (some x) = -1 := by rw [otd_m1 hW (fun y hy => by cases hy; exact hx)]; simp
    rw [brf e2]
    have key : AH D q s a x (lsB (bt D nA) (fun c => D 9 c ≤ t ∧ NT D q ns (rk D q s) c ∧ vl D q c = nI w) st) → post (nI x) (cp nA nK R I J) := h1 x ho
    have kno : ¬ AH D q s a x (lsB (bt D nA) (fun c => D 9 c ≤ t ∧ NT D q ns (rk D q s) c ∧ vl D q c = nI w) st) → post (-2) (cp nA nK R I J) := fun z => h2 fun y hy => by rw [ho] at hy; cases hy; exact z
    unfold AH at key kno
    show br (_ ≤ D 8 x) (br _ (post (nI x) _) (br (D 8 a - D 8 x ≤ _) (post (nI x) _) (post _ _))) (post _ _)
    refine brc (fun g1 => brc (fun g2 => ?_) fun g2 => brc (fun g3 => ?_) fun g3 => ?_) fun g1 => ?_
    · exact key ⟨Int32.not_lt.mpr g1, .inl g2⟩
    · exact key ⟨Int32.not_lt.mpr g1, .inr g3⟩
    · exact kno fun z => z.2.elim g2 g3
    · exact kno fun z => g1 (Int32.not_lt.mp z.1)
end
