section
variable {T : Nat → Int32} {D D' Q Q' : Mem} {nA nQ nE nT nw nc q a b s p n k l ns fb pf m nK c : Nat} {R : RMem} {I I' : Mem} {z : Int64} {t v w u x y : Int32} {post : Int32 → Pool → Prop} {pst : Pool → Prop} {pox : String → Pool → Prop} {g : Nat → Nat} {S : Pool}
theorem cond_30 {d p' : Nat} : ∀ j Q p, condS T n d j Q p = .inr (Q', p') → Q' 0 30 = Q 0 30 := by
  intro j
  induction j with
  | zero => intro Q p h; unfold condS at h; cases h
  | succ j ih =>
    intro Q p h
    unfold condS at h
    split at h
    · cases h; rfl
    · split at h
      · cases h
      · split at h
        · cases h
        · have := ih _ _ h
          rw [this, p2_row (by decide), p2_ne (by decide)]
theorem with_30 {d p' : Nat} (h : withS T n s d Q p = .inr (Q', p')) : Q' 0 30 = Q 0 30 := by
  unfold withS at h
  split at h
  · split at h
    · cases h
    · split at h
      · cases h
      · cases h; rw [p2_ne (by decide)]
  · cases h; rfl
theorem tail_30 {d p' : Nat} (h : tailS T n s d Q p = .inr (Q', p')) : Q' 0 30 = Q 0 30 := by
  unfold tailS at h
  split at h
  · split at h
    · cases h
    · rw [with_30 h, p2_ne (by decide)]
  · exact with_30 h
theorem kind_30 {d p' : Nat} (h : kindS T n s d Q p = .inr (Q', p')) : Q' 0 30 = Q 0 30 := by
  unfold kindS at h
  split at h
  · cases h
  · split at h
    · cases h
    · split at h
      · cases h
      · rename_i hc
        rw [tail_30 h, cond_30 _ _ _ hc, p2_ne (by decide)]
theorem ini_30 {d : Nat} : iniS d Q 0 30 = Q 0 30 := by unfold iniS; simp (disch := first | decide | omega) only [p2_ne]
theorem step_30 {p' : Nat} (h : stepS T n s Q p = .inr (Q', p')) : Q' 0 30 = Q 0 30 := by
  unfold stepS at h
  split at h
  · split at h
    · cases h
    · rw [kind_30 h, p2_ne (by decide), ini_30]
  · rw [kind_30 h, ini_30]
theorem spread_30 (h : spreadS T n Q p = .inr Q') : Q' 0 30 = Q 0 30 := by
  unfold spreadS at h
  split at h
  · cases h
  · split at h
    · cases h
    · dsimp only at h
      split at h
      · cases h
      · split at h
        · cases h
        · split at h
          · cases h
          · cases h
            simp (disch := first | decide | omega) only [p2_ne, p2_row]
theorem loop_30 : ∀ j s Q p, loopS T n j s Q p = .inr Q' → Q' 0 30 = Q 0 30 := by
  intro j
  induction j with
  | zero => intro s Q p h; unfold loopS at h; cases h
  | succ j ih =>
    intro s Q p h
    unfold loopS at h
    dsimp only at h
    split at h
    · split at h
      · cases h
      · exact spread_30 h
    · split at h
      · cases h
      · split at h
        · cases h
        · rename_i Q1 p1 hst
          split at h
          · split at h
            · rw [ih _ _ _ h, p2_ne (by decide), step_30 hst]
            · cases h
          · split at h
            · cases h
            · cases h
              rw [p2_ne (by decide), step_30 hst]
theorem text_30 (h : textS T n Q = .inr Q') : Q' 0 30 = Q 0 30 := by
  unfold textS at h
  dsimp only at h
  split at h
  · cases h
  · split at h
    · cases h
    · split at h
      · rw [loop_30 _ _ _ _ h]
        simp (disch := first | decide | omega) only [p2_ne, p2_row]
      · cases h
theorem aB_ag : (∀ c, c ∈ [3, 6, 7, 8, 9, 10, 23, 24, 25, 26] → aB D nT c = D c) ∧ (∀ q, q < 8 → AGQ D (aB D nT) q) ∧ (∀ k, k ∈ [1, 2, 4, 5, 11, 22] → aB D nT 0 k = D 0 k) ∧ aB D nT 0 27 = 0 ∧ (BZ D → BZ (aB D nT)) := by
  have nz : ∀ c, c ≠ 0 → aB D nT c = D c := fun c hc => by unfold aB; rw [p2_ne hc, p2_ne hc, p2_ne hc]
  refine ⟨fun c hc => nz c (by revert hc; simp; omega), fun q _ => AGQ_r fun c hc => nz c (by revert hc; simp; omega), fun k hk => ?_, ?_, fun hb => ?_⟩
  · unfold aB; rw [p2_row (by revert hk; simp; omega), p2_row (by revert hk; simp; omega), p2_row (by revert hk; simp; omega)]
  · unfold aB; simp (disch := first | decide | omega) only [p2_row, p2_same]
  · unfold BZ at hb ⊢; rw [nz 14 (by decide), nz 17 (by decide)]; exact hb
theorem a_ask (hC : CI D nA nQ nE nT nw nc R I) (h : CR g S (cp nA (nQ + 2) R I (jr z)))
    (hB : ¬ (0 ≤ v ∧ v ≤ 3) → ∀ S' I', CR g S' (cp nA (nQ + 2) R I' (jr z)) → CI (p2 (aB D nT) 0 0 1) nA nQ nE 0 nw nc R I' → pox "java/lang/IndexOutOfBoundsException" S')
    (hF : 0 ≤ v ∧ v ≤ 3 → ∀ f S' I', textS (D 26) nT (aX D nT) = .inl f → CR g S' (cp nA (nQ + 2) R I' (jr z)) → (∀ J, PR (aX D nT) J → J 0 30 = nI f → CI (p2 J 0 0 2) nA nQ nE 0 nw nc R I') → pox "java/lang/IllegalArgumentException" S')
    (hM : 0 ≤ v ∧ v ≤ 3 → ∀ Q S' I', textS (D 26) nT (aX D nT) = .inr Q → ¬ (Q 0 32 &&& (D 3 v.toNatClampNeg ^^^ (-1))) = 0 → CR g S' (cp nA (nQ + 2) R I' (jr z)) → (∀ a m, PR (aX D nT) Q → CI (p2 (st Q a m) 0 0 3) nA nQ nE 0 nw nc R I') → pox "java/lang/IllegalStateException" S')
    (hE : 0 ≤ v ∧ v ≤ 3 → ∀ Q S' I', textS (D 26) nT (aX D nT) = .inr Q → (Q 0 32 &&& (D 3 v.toNatClampNeg ^^^ (-1))) = 0 → nQ = 8 → CR g S' (cp nA (nQ + 2) R I' (jr z)) → (∀ a m, PR (aX D nT) Q → CI (p2 (st Q a m) 0 0 4) nA nQ nE 0 nw nc R I') → pox "java/lang/UnsupportedOperationException" S')
    (hK : 0 ≤ v ∧ v ≤ 3 → ∀ Q g' S' R' I', textS (D 26) nT (aX D nT) = .inr Q → (Q 0 32 &&& (D 3 v.toNatClampNeg ^^^ (-1))) = 0 → nQ < 8 → (∀ c, c < 96 → g' c = g c) → CR g' S' (cp nA (nQ + 1 + 2) R' I' (jr z)) → (∀ a m J, PR (aX D nT) Q → AK (st Q a m) J nQ → CI J nA (nQ + 1) nE 0 nw (nc + 1) R' I') → post (nI nQ) S') :
    wX8_ask pox post (some (g 0)) v S := by
  have h8 := hC.1.2.1.1
  have hA := hC.1.1.1.1
  obtain ⟨t1, t2, t3⟩ := hC.1.2.2.1
  have hz : BZ D := hC.1.2.2.2.2.2.2.2.2.2
  have hR8 : R 0 8 = some (2000 + 8 * (nQ + 1)) := hC.1.2.1.2.2.2.2.2.1
  have h1330 : I 0 13 = D 0 30 := hC.1.2.2.2.2.2.2.2.1
  have e4 : (0 ≤ v ∧ v < 4) ↔ (0 ≤ v ∧ v ≤ 3) := by
    rw [Int32.lt_iff_toInt_lt, Int32.le_iff_toInt_le, Int32.le_iff_toInt_le]
    have a1 : (4 : Int32).toInt = 4 := by decide
    have a2 : (3 : Int32).toInt = 3 := by decide
    omega
  have hdm : 2000 + 8 * (nQ + 1) ∈ cL nA (nQ + 2) := mQ0 (by omega)
  unfold wX8_ask
  refine g_R h (mS (by decide)) rfl ?_
  show xR S (some (g 0)) 8 8 fun a2 => xrc S (some (g 3)) 4 _
  refine g_R h (mS (by decide)) rfl ?_
  rw [show (cR R 0 8).map g = some (g (2000 + 8 * (nQ + 1))) by show (R 0 8).map g = _; rw [hR8]; rfl]
  refine g_rc h (mS (by decide)) rfl ?_
  refine lX4_reads (v0 := 3) (v1 := 2000 + 8 * (nQ + 1)) h ?_
  -- what a read leaves of the class
  have frame : ∀ I1 : Mem, FK (nQ + 1) I I1 → ∀ e : Int32, (∀ c, c ≠ 0 → c ≠ 1 → c ≠ 3 → ¬ (2000 + 8 * (nQ + 1) ≤ c ∧ c < 2000 + 8 * (nQ + 1) + 8) → p2 (p2 I1 1 1 0) 0 13 e c = I c) ∧ (∀ k, k ≠ 13 → p2 (p2 I1 1 1 0) 0 13 e 0 k = I 0 k) ∧ p2 (p2 I1 1 1 0) 0 13 e 1 1 = 0 := fun I1 hf e => ⟨fun c a1 a2 a3 a4 => by rw [p2_ne a1, p2_ne a2]; exact hf c a3 a4, fun k hk => by rw [p2_row hk, p2_ne (by decide), hf 0 (by decide) (by omega)], by rw [p2_ne (by decide), p2_same]⟩
  have hbad : ∀ (I1 : Mem) (S' : Pool), FK (nQ + 1) I I1 → CR g S' (cp nA (nQ + 2) R (p2 I1 1 1 0) (jr z)) → ¬ (0 ≤ v ∧ v ≤ 3) → pox "java/lang/IndexOutOfBoundsException" S' := fun I1 S' hf hS' hv => by
    obtain ⟨f1, f2, f3⟩ := frame I1 hf (D 0 30)
    have e13 : p2 (p2 I1 1 1 0) 0 13 (D 0 30) = p2 I1 1 1 0 := by
      funext c j
      by_cases ec : c = 0
      · subst ec
        by_cases ej : j = 13
        · rw [ej, p2_same, p2_ne (by decide), hf 0 (by decide) (by omega)]; exact h1330.symm
        · rw [p2_row ej]
      · rw [p2_ne ec]
    rw [e13] at f1 f2 f3
    obtain ⟨x1, x2, x3, x4, x5⟩ := p00_ag (k := 0) (e := 1) (aB_ag (D := D) (nT := nT)) (by decide)
    refine hB hv S' _ hS' (CI_ask0 hC (fun c hc => x1 c (by revert hc; simp; omega)) (fun q hq => x2 q (by omega)) x3 x4 (x5 hz) f1 (fun k hk => f2 k hk) ?_ f3)
    rw [p2_ne (show (0 : Nat) ≠ 1 by decide), hf 0 (by decide) (by omega), h1330, p2_row (by decide)]
    unfold aB
    rw [p2_row (by decide), p2_row (by decide), p2_row (by decide)]
  refine v_reads (T := D 26) (n := nT) (Q := aX D nT) (by omega) t2 ⟨fun f I1 a1 a2 a3 S1 hS1 => ?_, fun Q I1 m a1 a2 a3 a4 a5 a6 S1 hS1 => ?_⟩
  · refine g_R hS1 (mS (by decide)) rfl ?_
    show xpI S1 (some (g 1)) 7 1 0 _
    refine g_pI hS1 (mS (by decide)) rfl fun S2 hS2 => ?_
    rw [v_below, bI_br]
    refine brc (fun hv => ?_) fun hv => hbad I1 S2 a2 hS2 (fun y => hv (e4.mpr y))
    rw [brt rfl]
    refine g_R hS2 (mS (by decide)) rfl ?_
    show xI S2 (some (g 3)) 4 2 _
    refine g_I hS2 (mS (by decide)) rfl ?_
    unfold wX8_ask_54
    rw [p2_ne (show (3 : Nat) ≠ 1 by decide), a3]
    refine g_pI hS2 (mS (by decide)) rfl fun S3 hS3 => ?_
    rw [brt rfl]
    obtain ⟨f1, f2, f3⟩ := frame I1 a2 (nI f)
    refine hF (e4.mp hv) f S3 _ a1 hS3 fun J hJ hJ30 => ?_
    obtain ⟨x1, x2, x3, x4, x5⟩ := p00_ag (k := 0) (e := 2) (PR_ag hJ) (by decide)
    refine CI_ask0 hC (fun c hc => x1 c (by revert hc; simp; omega)) (fun q hq => x2 q (by omega)) x3 x4 (x5 hz) f1 f2 ?_ f3
    rw [p2_same, p2_row (by decide), hJ30]
  · have hQW := text_ok (Q := aX D nT) (fun s hs => by rw [aX_c (by decide), aX_c (by decide)]; exact hz s hs) a1
    have hQ30 : Q 0 30 = -1 := by rw [text_30 a1]; unfold aX; rw [p2_same]
    refine g_R hS1 (mS (by decide)) rfl ?_
    show xpI S1 (some (g 1)) 7 1 0 _
    refine g_pI hS1 (mS (by decide)) rfl fun S2 hS2 => ?_
    rw [v_below, bI_br]
    refine brc (fun hv => ?_) fun hv => hbad I1 S2 a2 hS2 (fun y => hv (e4.mpr y))
    have hv3 := e4.mp hv
    obtain ⟨vv', hvv, rfl⟩ := nI_of (Int32.not_lt.mpr hv.1)
    have hv4 := hv.2
    rw [show (4 : Int32) = nI 4 from rfl, ilt hvv (by decide)] at hv4
    rw [nI_clamp hvv] at hM hE hK
    rw [brf (by decide)]
    unfold wX8_ask_54
    refine g_pI hS2 (mS (by decide)) rfl fun S3 hS3 => ?_
    rw [brf (by decide)]
    obtain ⟨f1, f2, f3⟩ := frame I1 a2 (-1)
    generalize hI2 : p2 (p2 I1 1 1 0) 0 13 (-1) = I2 at hS3 f1 f2 f3
    have i213 : I2 0 13 = -1 := by rw [← hI2, p2_same]
    have i2d : ∀ c, 2000 + 8 * (nQ + 1) ≤ c → I2 c = I1 c := fun c hc => by rw [← hI2, p2_ne (by omega), p2_ne (by omega)]
    refine g_R hS3 (mS (by decide)) rfl ?_
    rw [show (cR R 0 8).map g = some (g (2000 + 8 * (nQ + 1))) by show (R 0 8).map g = _; rw [hR8]; rfl]
    refine g_I hS3 hdm kQ ?_
    rw [i2d _ (by omega), a6]
    refine g_R hS3 (mS (by decide)) rfl ?_
    show xaI S3 (some (g 24)) 10 (nI vv') _
    refine cr_aI hS3 (r := some 24) (K := fun v => v = D 3 vv') ?_ fun v ev => ?_
    · rw [x1_aI (mS (by decide)) rfl]
      refine ⟨vp_in_nI hv4 (by decide), ?_⟩
      rw [nI_clamp hvv, f1 24 (by decide) (by decide) (by decide) (by omega)]
      exact hC.1.2.2.2.2.1 vv' hv4
    rw [ev]
    have hst : ∀ (a : Nat) (mm e : Int32), PR (aX D nT) Q → CI (p2 (st Q a mm) 0 0 e) nA nQ nE 0 nw nc R I2 := fun a mm e hP => by
      obtain ⟨x1, x2, x3, x4, x5⟩ := p00_ag (k := 0) (e := e) (p00_ag (k := 29) (e := nI a) (p00_ag (k := 31) (e := mm) (PR_ag hP) (by decide)) (by decide)) (by decide)
      refine CI_ask0 hC (fun c hc => x1 c (by revert hc; simp; omega)) (fun q hq => x2 q (by omega)) x3 x4 (x5 hz) f1 f2 ?_ f3
      rw [i213, p2_row (by decide), st_0 (by decide) (by decide), hQ30]
    refine brc (fun hbits => ?_) fun hbits => hM hv3 Q S3 I2 a1 hbits hS3 fun a mm hP => hst a mm 3 hP
    have e9 : I2 0 9 = nI nQ := by rw [f2 9 (by decide)]; exact hC.1.2.1.2.2.2.2.2.2
    refine g_I hS3 (mS (by decide)) rfl ?_
    rw [e9, show (8 : Int32) = nI 8 from rfl, ilt (by omega) (by decide)]
    refine brc (fun hlt => ?_) fun hlt => hE hv3 Q S3 I2 a1 hbits (by omega) hS3 fun a mm hP => hst a mm 4 hP
    refine g_I hS3 (mS (by decide)) rfl ?_
    rw [e9]
    refine g_R hS3 (mS (by decide)) rfl ?_
    show xR S3 (some (g 0)) 8 8 fun a12 => xsR S3 (some (g 23)) 13 3 (nI nQ) a12 _
    -- set aside what the pool does not hold
    have hp3 := CR_pi (nK := nQ + 2) hA (by omega) hS3
    have hgp : ∀ c, c < 96 → piG g nA (nQ + 2) c = g c := fun c hc => piG_in (mS hc)
    have hgd : piG g nA (nQ + 2) (2000 + 8 * (nQ + 1)) = g (2000 + 8 * (nQ + 1)) := piG_in hdm
    have hRp8 : piR nA (nQ + 2) R 0 8 = some (2000 + 8 * (nQ + 1)) := piR_in hR8 hdm
    rw [← hgp 0 (by decide), ← hgp 23 (by decide)]
    refine g_R hp3 (mS (by decide)) rfl ?_
    rw [show (cR (piR nA (nQ + 2) R) 0 8) = some (2000 + 8 * (nQ + 1)) from hRp8]
    refine cr_sR hp3 (r := some 23) (v := some (2000 + 8 * (nQ + 1))) (K := fun M => M = cp nA (nQ + 2) (p2 (piR nA (nQ + 2) R) 23 nQ (some (2000 + 8 * (nQ + 1)))) I2 (jr z)) ?_ fun S4 M4 hS4 eM4 => ?_
    · rw [h23w (by omega), nI_clamp (by omega)]
      exact ⟨vp_in_nI hlt (by decide), rfl⟩
    subst eM4
    have hcl : CLb (cp nA (nQ + 2) (p2 (piR nA (nQ + 2) R) 23 nQ (some (2000 + 8 * (nQ + 1)))) I2 (jr z)) := by
      intro c hc k d hd
      have hd : cR (p2 (piR nA (nQ + 2) R) 23 nQ (some (2000 + 8 * (nQ + 1)))) c k = some d := hd
      by_cases hbig : 1000000 < d
      · exact .inr hbig
      · refine .inl (Classical.byContradiction fun hno => ?_)
        have hd' : ¬ d ∈ cL nA (nQ + 2) := hno
        by_cases e : c = 23 ∧ k = nQ
        · obtain ⟨rfl, rfl⟩ := e
          unfold cR at hd
          rw [if_pos (show dyn 23 k = true from rfl), p2_same] at hd
          cases hd
          exact hd' hdm
        · have hsame : cR (p2 (piR nA (nQ + 2) R) 23 nQ (some (2000 + 8 * (nQ + 1)))) c k = cR (piR nA (nQ + 2) R) c k := by
            rw [← cR_set (by rfl)]
            by_cases e2 : c = 23
            · subst e2; rw [p2_row (fun y => e ⟨rfl, y⟩)]
            · rw [p2_ne e2]
          rw [hsame] at hd
          by_cases h1 : d < 1000000
          · exact piR_no hA hd' h1 hc hd
          · have h2 : d = 1000000 := by omega
            unfold cR at hd
            by_cases e3 : dyn c k = true
            · rw [if_pos e3] at hd
              unfold piR at hd
              cases hr : R c k with
              | none => rw [hr] at hd; cases hd
              | some y =>
                rw [hr] at hd
                have hd : some (piC nA (nQ + 2) y) = some d := hd
                by_cases e4 : y ∈ cL nA (nQ + 2)
                · rw [show piC nA (nQ + 2) y = y from if_pos e4] at hd
                  cases hd; exact hd' e4
                · rw [show piC nA (nQ + 2) y = 2 * y + 1000001 from if_neg e4] at hd
                  injection hd with hd
                  omega
            · rw [if_neg e3] at hd; exact hd' (sR_in hA hc hd)
    have hfresh : ∀ c, c ∈ (cp nA (nQ + 2) (p2 (piR nA (nQ + 2) R) 23 nQ (some (2000 + 8 * (nQ + 1)))) I2 (jr z)).L → ¬ (2000 + 8 * (nQ + 2) ≤ c ∧ c < 2000 + 8 * (nQ + 2) + 8) := fun c hc => by
      have := mem_cL.mp hc
      omega
    refine gm_new (c0 := 2000 + 8 * (nQ + 2)) hS4 hcl (fun e => hfresh _ e (by omega)) (by omega) fun g5 S5 hg5 hS5 => ?_
    unfold xnn
    refine ⟨⟨_, rfl⟩, ?_⟩
    refine g_init3 (by omega) hfresh hcl hS5 rfl fun g6 S6 M6 k1 k2 k3 k4 k5 => ?_
    have hS6 := QP_cp hA k5 k3
    have hg6 : ∀ c, c < 96 → g6 c = g c := fun c hc => by rw [k1 c (mS hc), hg5 c (mS hc), hgp c hc]
    rw [hgp 0 (by decide), ← hg6 0 (by decide)]
    rw [show some (g5 (2000 + 8 * (nQ + 2))) = (some (2000 + 8 * (nQ + 2))).map g6 by show _ = some (g6 _); rw [k2]]
    refine cr_pR hS6 (r := some 0) (v := some (2000 + 8 * (nQ + 2))) (K := fun M => M = cp nA (nQ + 2 + 1) (p2 (p2 (piR nA (nQ + 2) R) 23 nQ (some (2000 + 8 * (nQ + 1)))) 0 8 (some (2000 + 8 * (nQ + 2)))) (zq I2 (2000 + 8 * (nQ + 2))) (jr z)) (by rw [f0_8p]) fun S7 M7 hS7 eM7 => ?_
    subst eM7
    refine g_pI hS7 (mS (by decide)) rfl fun S8 hS8 => ?_
    refine g_I hS8 (mS (by decide)) rfl ?_
    refine g_pI hS8 (mS (by decide)) rfl fun S9 hS9 => ?_
    have hz0 : ∀ c, c < 2000 + 8 * (nQ + 2) → zq I2 (2000 + 8 * (nQ + 2)) c = I2 c := fun c hc => by unfold zq; rw [if_neg (by omega)]
    have e14 : p2 (zq I2 (2000 + 8 * (nQ + 2))) 0 9 (nI nQ + 1) 0 14 = nI nc := by rw [p2_row (by decide), hz0 0 (by omega), f2 14 (by decide)]; exact hC.2.2.1
    rw [e14, ix1, ix1] at hS9
    have hCp := CI_pi hC
    refine hK hv3 Q g6 S9 _ _ a1 hbits hlt hg6 hS9 fun a mm J hP hAK => ?_
    refine CI_ask1 hCp hlt hQW hP hAK a3 a4 ?_ (fun c b1 b2 b3 b4 => ?_) (fun k b1 b2 b3 => ?_) ?_ ?_ p2_same ?_ hQ30 (fun c b1 b2 => ?_) p2_same (fun k => ?_)
    · rw [Nat.add_comm 1 nQ]
      unfold QC at a5 ⊢
      rw [p2_ne (by omega), p2_ne (by omega), hz0 _ (by omega), i2d _ (by omega)]
      refine ⟨a5.1, a5.2.1, a5.2.2.1, a5.2.2.2.1, a5.2.2.2.2.1, fun s hs => ?_⟩
      rw [p2_ne (by omega), p2_ne (by omega), hz0 _ (by omega), i2d _ (by omega)]
      exact a5.2.2.2.2.2 s hs
    · rw [p2_ne b1, p2_ne b1]
      unfold zq
      rw [if_neg (by omega)]
      exact f1 c b1 b2 b3 (by omega)
    · rw [p2_row b3, p2_row b2, hz0 0 (by omega)]; exact f2 k b1
    · rw [p2_row (by decide), p2_row (by decide), hz0 0 (by omega)]; exact i213
    · rw [p2_row (by decide), p2_same]
    · rw [p2_ne (by decide), p2_ne (by decide), hz0 1 (by omega)]; exact f3
    · rw [p2_ne b1, p2_ne b2]
    · rw [p2_ne (by decide)]
      by_cases e : k = nQ
      · rw [e, p2_same, if_pos rfl, Nat.add_comm 1 nQ]
      · rw [p2_row e, if_neg e]
end
