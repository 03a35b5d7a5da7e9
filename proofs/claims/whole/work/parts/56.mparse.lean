theorem wb_tb (n : Nat) : (lN n).toBitVec = BitVec.ofNat 64 n := rfl
theorem wb_inj {a b : Int64} (h : a.toBitVec = b.toBitVec) : a = b := Int64.toBitVec_inj.mp h
theorem wb_c : ∀ k, k < 64 → ((nI k).toInt64 &&& 63) = lN k := by decide +kernel
theorem wb_sm : ∀ k, k < 64 → (BitVec.ofNat 64 k).smod 64 = BitVec.ofNat 64 k := by decide +kernel
theorem wb_shl (n : Nat) {k : Nat} (hk : k < 64) : lN n <<< ((nI k).toInt64 &&& 63) = lN (n * 2 ^ k) := by
  rw [wb_c k hk]
  apply wb_inj
  rw [Int64.toBitVec_shiftLeft, wb_tb, wb_tb, wb_tb, wb_sm k hk]
  apply BitVec.eq_of_toNat_eq
  rw [BitVec.shiftLeft_eq', BitVec.toNat_shiftLeft, BitVec.toNat_ofNat, BitVec.toNat_ofNat, BitVec.toNat_ofNat, Nat.mod_eq_of_lt (show k < 2 ^ 64 by omega), Nat.shiftLeft_eq, Nat.mul_mod, Nat.mod_mod, ← Nat.mul_mod]
theorem fb_orL (a b : Nat) : lN a ||| lN b = lN (a ||| b) := by
  apply Int64.toBitVec_inj.1
  show BitVec.ofNat 64 a ||| BitVec.ofNat 64 b = BitVec.ofNat 64 (a ||| b)
  apply BitVec.eq_of_getLsbD_eq
  intro i hi
  simp [hi]
theorem fb_or_sumL {a k : Nat} (b : Nat) (h : a < 2 ^ k) : lN (2 ^ k * b) ||| lN a = lN (2 ^ k * b + a) := by rw [fb_orL, Nat.two_pow_add_eq_or_of_lt h]
def vN (f : Nat → Nat) : Nat → Nat
  | 0 => 0
  | k + 1 => 256 * vN f k + f k
theorem vN_lt {f : Nat → Nat} : ∀ k, (∀ i, i < k → f i < 256) → vN f k < 256 ^ k := by
  intro k
  induction k with
  | zero => intro _; exact Nat.one_pos
  | succ k ih =>
    intro h
    have h1 := ih fun i hi => h i (by omega)
    have h2 := h k (by omega)
    unfold vN
    rw [Nat.pow_succ]
    omega
theorem vN_inj {f g : Nat → Nat} : ∀ k m, (∀ i, i < k → 0 < f i ∧ f i < 256) → (∀ i, i < m → 0 < g i ∧ g i < 256) → vN f k = vN g m → k = m ∧ ∀ i, i < k → f i = g i := by
  intro k
  induction k with
  | zero =>
    intro m hf hg h
    cases m with
    | zero => exact ⟨rfl, fun i hi => by omega⟩
    | succ m =>
      have := (hg m (by omega)).1
      unfold vN at h
      omega
  | succ k ih =>
    intro m hf hg h
    cases m with
    | zero =>
      have := (hf k (by omega)).1
      unfold vN at h
      omega
    | succ m =>
      have a1 := hf k (by omega)
      have a2 := hg m (by omega)
      unfold vN at h
      obtain ⟨e1, e2⟩ := ih m (fun i hi => hf i (by omega)) (fun i hi => hg i (by omega)) (by omega)
      subst e1
      refine ⟨rfl, fun i hi => ?_⟩
      by_cases e : i = k
      · rw [e]; omega
      · exact e2 i (by omega)
theorem vN_cong {f g : Nat → Nat} : ∀ k, (∀ i, i < k → f i = g i) → vN f k = vN g k := by
  intro k
  induction k with
  | zero => intro _; rfl
  | succ k ih => intro h; unfold vN; rw [ih fun i hi => h i (by omega), h k (by omega)]
def cwd (w : Nat) : Int64 := lN (vN (fun i => (wch w i).toNatClampNeg) (lenG.getD w 0))
theorem cw_by : (25209 : Int64) = cwd 0 := by decide +kernel
theorem cw_who : (7825519 : Int64) = cwd 1 := by decide +kernel
theorem cw_what : (2003329396 : Int64) = cwd 2 := by decide +kernel
theorem cw_where : (512852587109 : Int64) = cwd 3 := by decide +kernel
theorem cw_spread : (126926792778084 : Int64) = cwd 4 := by decide +kernel
theorem cw_within : (131294808271214 : Int64) = cwd 5 := by decide +kernel
theorem cw_kind : (1802071652 : Int64) = cwd 6 := by decide +kernel
theorem cw_not : (7237492 : Int64) = cwd 7 := by decide +kernel
theorem cw_first : (439855772532 : Int64) = cwd 8 := by decide +kernel
theorem wch_ok : ∀ w, w < 9 → lenG.getD w 0 ≤ 6 ∧ 0 < lenG.getD w 0 ∧ ∀ i, i < lenG.getD w 0 → 0 < (wch w i).toNatClampNeg ∧ (wch w i).toNatClampNeg < 256 ∧ wch w i = nI (wch w i).toNatClampNeg := by decide +kernel
theorem isLt_n {x : Int32} (h : isLt x = true) : ∃ j, x = nI j ∧ 97 ≤ j ∧ j ≤ 122 := by
  unfold isLt at h
  rw [decide_eq_true_eq] at h
  obtain ⟨h1, h2⟩ := h
  obtain ⟨j, hj, rfl⟩ := nI_of2 (n := 122) (by decide) (fun z => by
    have := Int32.lt_of_lt_of_le z (by decide : (0 : Int32) ≤ 97)
    exact Int32.not_le.mpr this h1) h2
  refine ⟨j, rfl, ?_, hj⟩
  exact (nI_leI (a := 97) (by omega) (by omega)).mp h1
section
variable {Q : Mem} {n p : Nat} {m v : Int32} {post : Int32 → Pool → Prop}
/-- the text that is read: n bytes -/
def TX (Q : Mem) (n : Nat) : Prop := Q 0 28 = nI n ∧ n ≤ 400
theorem chk {T : Nat → Int32} : ∃ x : Int32, x = (if skp T n p < n then T (skp T n p) else -1) := ⟨_, rfl⟩
theorem q_sign (hx : TX Q n) : ∀ k p, n = p + k → post (if skp (Q 26) n p < n then Q 26 (skp (Q 26) n p) else -1) (mp (st Q (skp (Q 26) n p) m)) → wX9_sign_0 post (k + 1) (some 0) (mp (st Q p m)) := by
  obtain ⟨h28, hn⟩ := hx
  have hfin : ∀ p, p ≤ n → (p = n ∨ isBl (Q 26 p) = false) → post (if skp (Q 26) n p < n then Q 26 (skp (Q 26) n p) else -1) (mp (st Q (skp (Q 26) n p) m)) → wX9_sign_38 post (some 0) (mp (st Q p m)) := by
    intro p hp hb h
    have e : skp (Q 26) n p = p := by
      rcases hb with hb | hb
      · exact run_end (by omega)
      · exact run_no hb
    rw [e] at h
    unfold wX9_sign_38
    simp (disch := first | decide | omega) only [m_I, m_R, m_rc, m_pI, m_aI, m_aZ, m_sI, m_sZ, z01, z11, ix3, ix6, ix250, ix1, ix2, nI_add, nI_clamp, vin, true_and, and_true, or_true, true_or, mN3, mN6, mN7, mN8, mN9, mN10, mN12, mN13, mN14, mN15, mN16, mN17, mN18, mN19, mN20, mN21, mN23, mN24, mN25, mN26, mN33, mN34, mN35, mN37, mN39, mN40, mN41, st_29, st_0, st_c, h28, ile]
    refine brc (fun h1 => ?_) fun h1 => ?_
    · rw [if_neg (by omega)] at h; exact h
    · rw [if_pos (by omega)] at h
      simp (disch := first | decide | omega) only [m_I, m_R, m_rc, m_pI, m_aI, m_aZ, m_sI, m_sZ, z01, z11, ix3, ix6, ix250, ix1, ix2, nI_add, nI_clamp, vin, true_and, and_true, or_true, true_or, mN3, mN6, mN7, mN8, mN9, mN10, mN12, mN13, mN14, mN15, mN16, mN17, mN18, mN19, mN20, mN21, mN23, mN24, mN25, mN26, mN33, mN34, mN35, mN37, mN39, mN40, mN41]; exact h
  intro k
  induction k with
  | zero =>
    intro p hp h
    unfold wX9_sign_0
    simp (disch := first | decide | omega) only [m_I, m_R, m_rc, m_pI, m_aI, m_aZ, m_sI, m_sZ, z01, z11, ix3, ix6, ix250, ix1, ix2, nI_add, nI_clamp, vin, true_and, and_true, or_true, true_or, mN3, mN6, mN7, mN8, mN9, mN10, mN12, mN13, mN14, mN15, mN16, mN17, mN18, mN19, mN20, mN21, mN23, mN24, mN25, mN26, mN33, mN34, mN35, mN37, mN39, mN40, mN41, st_29, st_0, st_c, h28, ile, brt (show n ≤ p by omega)]
    exact hfin p (by omega) (.inl (by omega)) h
  | succ k ih =>
    intro p hp h
    unfold wX9_sign_0
    simp (disch := first | decide | omega) only [m_I, m_R, m_rc, m_pI, m_aI, m_aZ, m_sI, m_sZ, z01, z11, ix3, ix6, ix250, ix1, ix2, nI_add, nI_clamp, vin, true_and, and_true, or_true, true_or, mN3, mN6, mN7, mN8, mN9, mN10, mN12, mN13, mN14, mN15, mN16, mN17, mN18, mN19, mN20, mN21, mN23, mN24, mN25, mN26, mN33, mN34, mN35, mN37, mN39, mN40, mN41, st_29, st_0, st_c, h28, ile, brf (show ¬ n ≤ p by omega)]
    refine brc (fun h1 => ?_) fun h1 => hfin p (by omega) (.inr (by unfold isBl; simp [h1])) h
    rw [st_s29]
    refine ih (p + 1) (by omega) ?_
    have e : skp (Q 26) n p = skp (Q 26) n (p + 1) := run_yes (by omega) (by unfold isBl; simp [h1])
    rw [← e]
    exact h
theorem q_sign' (hx : TX Q n) (hp : p ≤ n) (h : post (if skp (Q 26) n p < n then Q 26 (skp (Q 26) n p) else -1) (mp (st Q (skp (Q 26) n p) m))) : wX9_sign post (some 0) (mp (st Q p m)) := ⟨_, q_sign hx (n - p) p (by omega) h⟩
theorem q_wend (hx : TX Q n) {a : Nat} : ∀ k p, n = p + k → post (nI (wep (Q 26) n p)) (mp (st Q a m)) → wX9_wordEnd_5 post (k + 1) (some 0) (nI p) (mp (st Q a m)) := by
  obtain ⟨h28, hn⟩ := hx
  intro k
  induction k with
  | zero =>
    intro p hp h
    unfold wX9_wordEnd_5
    simp (disch := first | decide | omega) only [m_I, m_R, m_rc, m_pI, m_aI, m_aZ, m_sI, m_sZ, z01, z11, ix3, ix6, ix250, ix1, ix2, nI_add, nI_clamp, vin, true_and, and_true, or_true, true_or, mN3, mN6, mN7, mN8, mN9, mN10, mN12, mN13, mN14, mN15, mN16, mN17, mN18, mN19, mN20, mN21, mN23, mN24, mN25, mN26, mN33, mN34, mN35, mN37, mN39, mN40, mN41, st_29, st_0, st_c, h28, ile, brt (show n ≤ p by omega)]
    rw [show wep (Q 26) n p = p from run_end (by omega)] at h
    exact h
  | succ k ih =>
    intro p hp h
    unfold wX9_wordEnd_5
    simp (disch := first | decide | omega) only [m_I, m_R, m_rc, m_pI, m_aI, m_aZ, m_sI, m_sZ, z01, z11, ix3, ix6, ix250, ix1, ix2, nI_add, nI_clamp, vin, true_and, and_true, or_true, true_or, mN3, mN6, mN7, mN8, mN9, mN10, mN12, mN13, mN14, mN15, mN16, mN17, mN18, mN19, mN20, mN21, mN23, mN24, mN25, mN26, mN33, mN34, mN35, mN37, mN39, mN40, mN41, st_29, st_0, st_c, h28, ile, brf (show ¬ n ≤ p by omega)]
    refine brc (fun h1 => ?_) fun h1 => brc (fun h2 => ?_) fun h2 => ?_
    · rw [show wep (Q 26) n p = p from run_no (by unfold isLt; simp [Int32.not_le.mpr h1])] at h
      exact h
    · rw [show wep (Q 26) n p = p from run_no (by unfold isLt; simp [Int32.not_le.mpr h2])] at h
      exact h
    · rw [show wep (Q 26) n p = wep (Q 26) n (p + 1) from run_yes (by omega) (by unfold isLt; simp [Int32.not_lt.mp h1, Int32.not_lt.mp h2])] at h
      exact ih (p + 1) (by omega) h
theorem q_wend' (hx : TX Q n) (hp : p ≤ n) (h : post (nI (wep (Q 26) n p)) (mp (st Q p m))) : wX9_wordEnd post (some 0) (mp (st Q p m)) := by
  unfold wX9_wordEnd
  rw [m_I, st_29]
  exact ⟨_, q_wend hx (n - p) p (by omega) h⟩
theorem skp_le {T : Nat → Int32} (hp : p ≤ n) : skp T n p ≤ n := (run_ge _ p rfl).2.1 hp
theorem wep_le {T : Nat → Int32} (hp : p ≤ n) : wep T n p ≤ n := (run_ge _ p rfl).2.1 hp
theorem dep_le {T : Nat → Int32} (hp : p ≤ n) : dep T n p ≤ n := (run_ge _ p rfl).2.1 hp
theorem wep_ge {T : Nat → Int32} : p ≤ wep T n p := (run_ge _ p rfl).1
theorem dep_ge {T : Nat → Int32} : p ≤ dep T n p := (run_ge _ p rfl).1
theorem skp_ge {T : Nat → Int32} : p ≤ skp T n p := (run_ge _ p rfl).1
theorem skp_sk {T : Nat → Int32} : skp T n (skp T n p) = skp T n p := run_idem
theorem q_isW {w : Nat} (hw : w < 9) (hx : TX Q n) (hp : p ≤ n) (h : post (bI (isWb (Q 26) n (skp (Q 26) n p) w = true)) (mp (st Q (skp (Q 26) n p) m))) : wX9_isWord post (some 0) (cwd w) (mp (st Q p m)) := by
  have h28 := hx.1
  have hn := hx.2
  obtain ⟨wl, wl0, wc⟩ := wch_ok w hw
  unfold wX9_isWord
  rw [m_rc]
  refine q_sign' hx hp ?_
  rw [m_rc]
  have hs := skp_le (T := Q 26) hp
  generalize skp (Q 26) n p = a at *
  refine q_wend' hx hs ?_
  have hwe := wep_le (T := Q 26) hs
  have hwg := wep_ge (T := Q 26) (n := n) (p := a)
  have hall : ∀ i, i < wep (Q 26) n a - a → ∃ j, Q 26 (a + i) = nI j ∧ 97 ≤ j ∧ j ≤ 122 := fun i hi => isLt_n ((run_ge _ a rfl).2.2.1 (a + i) (by omega) (show a + i < wep (Q 26) n a by omega))
  have hv : ∀ i, i < wep (Q 26) n a - a → 0 < (Q 26 (a + i)).toNatClampNeg ∧ (Q 26 (a + i)).toNatClampNeg < 256 ∧ Q 26 (a + i) = nI (Q 26 (a + i)).toNatClampNeg := fun i hi => by
    obtain ⟨j, hj, h1, h2⟩ := hall i hi
    rw [hj, nI_clamp (by omega)]
    exact ⟨by omega, by omega, rfl⟩
  have hiff : isWb (Q 26) n a w = true ↔ vN (fun i => (Q 26 (a + i)).toNatClampNeg) (wep (Q 26) n a - a) = vN (fun i => (wch w i).toNatClampNeg) (lenG.getD w 0) := by
    rw [isWb_iff]
    constructor
    · intro ⟨h1, h2⟩
      rw [show wep (Q 26) n a - a = lenG.getD w 0 by omega]
      exact vN_cong _ fun i hi => by rw [h2 i hi]
    · intro h1
      obtain ⟨e1, e2⟩ := vN_inj _ _ (fun i hi => ⟨(hv i hi).1, (hv i hi).2.1⟩) (fun i hi => ⟨(wc i hi).1, (wc i hi).2.1⟩) h1
      refine ⟨by omega, fun i hi => ?_⟩
      rw [(hv i (by omega)).2.2, e2 i (by omega), ← (wc i hi).2.2]
  rw [m_I, st_29]
  refine brc (fun h1 => ?_) fun h1 => ?_
  · rw [nI_eq (by omega) (by omega)] at h1
    rw [bI_f (fun z => by have := (isWb_iff.mp z).1; omega)] at h
    simp only [true_or, true_and]
    exact h
  · rw [nI_eq (by omega) (by omega)] at h1
    rw [m_I, st_29, pk_sub hwg]
    refine brc (fun h2 => ?_) fun h2 => ?_
    · rw [show (7 : Int32) = nI 7 from rfl, nI_leI (by omega) (by omega)] at h2
      rw [m_I, st_29]
      have hl : ∀ k i, wep (Q 26) n a = a + i + k → wX9_isWord_43 post (k + 1) (some 0) (cwd w) (nI (wep (Q 26) n a)) (lN (vN (fun i => (Q 26 (a + i)).toNatClampNeg) i)) (nI (a + i)) (mp (st Q a m)) := by
        intro k
        induction k with
        | zero =>
          intro i hi
          unfold wX9_isWord_43
          simp (disch := first | decide | omega) only [ile, brt (show wep (Q 26) n a ≤ a + i by omega), true_or, or_true, true_and]
          have hb1 := vN_lt (f := fun i => (Q 26 (a + i)).toNatClampNeg) i fun j hj => (hv j (by omega)).2.1
          have hb2 := vN_lt (f := fun i => (wch w i).toNatClampNeg) (lenG.getD w 0) fun j hj => (wc j hj).2.1
          have p1 : 256 ^ i ≤ 256 ^ 7 := Nat.pow_le_pow_right (by decide) (by omega)
          have p2 : 256 ^ (lenG.getD w 0) ≤ 256 ^ 7 := Nat.pow_le_pow_right (by decide) (by omega)
          have p3 : 256 ^ 7 < 2 ^ 63 := by decide
          have hc : (lg_cmp (lN (vN (fun i => (Q 26 (a + i)).toNatClampNeg) i)) (cwd w) = 0) ↔ isWb (Q 26) n a w = true := by
            rw [lg_cmp_eq, hiff, show wep (Q 26) n a - a = i by omega]
            exact pk_lEQ (by omega) (by omega)
          refine brc (fun g => ?_) fun g => ?_
          · rw [bI_t (hc.mp g)] at h; exact h
          · rw [bI_f (fun z => g (hc.mpr z))] at h; exact h
        | succ k ih =>
          intro i hi
          unfold wX9_isWord_43
          obtain ⟨j, hj, h3, h4⟩ := hall i (by omega)
          simp (disch := first | decide | omega) only [m_I, m_R, m_rc, m_pI, m_aI, m_aZ, m_sI, m_sZ, z01, z11, ix3, ix6, ix250, ix1, ix2, nI_add, nI_clamp, vin, true_and, and_true, or_true, true_or, mN3, mN6, mN7, mN8, mN9, mN10, mN12, mN13, mN14, mN15, mN16, mN17, mN18, mN19, mN20, mN21, mN23, mN24, mN25, mN26, mN33, mN34, mN35, mN37, mN39, mN40, mN41, ile, brf (show ¬ wep (Q 26) n a ≤ a + i by omega), st_c, hj]
          have e := ih (i + 1) (by omega)
          have e2 : lN (vN (fun i => (Q 26 (a + i)).toNatClampNeg) i) <<< ((8 : Int32).toInt64 &&& 63) ||| (nI j).toInt64 = lN (vN (fun i => (Q 26 (a + i)).toNatClampNeg) (i + 1)) := by
            rw [show (8 : Int32) = nI 8 from rfl, wb_shl _ (by decide), nI_l (by omega), Nat.mul_comm, fb_or_sumL _ (by omega)]
            show _ = lN (256 * vN _ i + (Q 26 (a + i)).toNatClampNeg)
            rw [hj, nI_clamp (by omega)]
          rw [e2]
          exact e
      exact ⟨_, hl (wep (Q 26) n a - a) 0 (by omega)⟩
    · rw [show (7 : Int32) = nI 7 from rfl, nI_leI (by omega) (by omega)] at h2
      rw [bI_f (fun z => by have := (isWb_iff.mp z).1; omega)] at h
      simp only [true_or, true_and]
      exact h
end
