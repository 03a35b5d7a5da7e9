section
variable {T : Nat → Int32} {nA nK n p e k w s : Nat} {R : RMem} {I I0 Q : Mem} {J : Nat → Nat → Int64} {post : Int32 → Pool → Prop} {pst : Pool → Prop} {v lo hi : Int32}
theorem v_advW (hw : w < 9) (e : isWb T n p w = true) (hT : TP T n I) (hK : TK T n I p) (hp : ∀ I', RF I I' → TK T n I' (skp T n (wep T n p)) → pst (cp nA nK R I' J)) : wX4_advance pst (some 3) (cp nA nK R I J) := by
  have hbeh := (isWb_srt hw e).2
  exact v_advance hT (by rw [← hbeh]; exact hK.2.2.1) (by rw [← hbeh]; exact beh_le hK.2.2.2) hp
theorem num_srt {x : Int32} (h : numS T n p lo hi = some x) : srtS T n p = 2 ∧ behS T n p = dep T n p := by
  have hdg : srtS T n p = 2 := by
    apply Decidable.byContradiction
    intro hc
    have : dep T n p = p := by
      by_cases hq : p < n
      · refine run_no ?_
        cases hbb : isDg (T p)
        · rfl
        · exact absurd ((srt_2 hq).mpr hbb) hc
      · exact run_end (by omega)
    unfold numS at h
    rw [if_pos (.inl this)] at h
    cases h
  exact ⟨hdg, by unfold behS; rw [if_neg (by omega), if_pos hdg]⟩
theorem v_advN {x : Int32} (e : numS T n p lo hi = some x) (hT : TP T n I) (hK : TK T n I p) (hp : ∀ I', RF I I' → TK T n I' (skp T n (dep T n p)) → pst (cp nA nK R I' J)) : wX4_advance pst (some 3) (cp nA nK R I J) := by
  have hbeh := (num_srt e).2
  exact v_advance hT (by rw [← hbeh]; exact hK.2.2.1) (by rw [← hbeh]; exact beh_le hK.2.2.2) hp
theorem fld_w {f : Nat} (h : fldS T n p = some f) : f < 3 ∧ isWb T n p (1 + f) = true := by
  unfold fldS at h
  split at h
  · rename_i h1; cases h; exact ⟨by decide, h1⟩
  · split at h
    · rename_i h1; cases h; exact ⟨by decide, h1⟩
    · split at h
      · rename_i h1; cases h; exact ⟨by decide, h1⟩
      · cases h
theorem TK_p {I' : Mem} (h : TK T n I p) (h3 : I' 3 = I 3) : TK T n I' p := TK_cg h (by rw [h3]) (by rw [h3]) (by rw [h3])
/-- what reading the conditions leads to -/
def OC (T : Nat → Int32) (n nA nK k s : Nat) (R : RMem) (J : Nat → Nat → Int64) (post : Int32 → Pool → Prop) (I0 Q0 : Mem) (b l : Int32) (res : Sum Nat (Mem × Nat)) : Prop := (∀ f I', res = .inl f → FK k I0 I' → I' 3 2 = nI f → post 0 (cp nA nK R I' J)) ∧ (∀ Q' p' I', res = .inr (Q', p') → FK k I0 I' → TK T n I' p' → QD Q' (s + 1) I' k → I' 3 4 = b → I' 3 5 = l → (Q' 14 = Q0 14 ∧ Q' 18 = Q0 18) → post 1 (cp nA nK R I' J)) ∧ (∀ Q' p' I' f, res = .inl p' → fldS T n p' = some f → FK k I0 I' → TK T n I' p' → QD Q' (s + 1) I' k → I' 3 4 = b → I' 3 5 = l → (Q' 14 = Q0 14 ∧ Q' 18 = Q0 18) → post 1 (cp nA nK R I' J))
theorem cnt_full {P : Nat → Prop} : ∀ {n : Nat}, cnt P n = n → ∀ k, k < n → P k := by
  intro n
  induction n with
  | zero => intro _ k hk; omega
  | succ n ih =>
    intro h k hk
    by_cases e : P n
    · rw [cnt_t e] at h
      by_cases e2 : k = n
      · rw [e2]; exact e
      · exact ih (by omega) k (by omega)
    · rw [cnt_f e] at h
      have := cnt_le P n
      omega
theorem v_conds2 (hk : k < nK) (hs : s < 6) (b l : Int32) {Q0 : Mem} : ∀ k' m Q p I, 3 = m + k' → (Q 14 = Q0 14 ∧ Q 18 = Q0 18) → TP T n I → TK T n I p → FK k I0 I → QD Q (s + 1) I k → I 3 4 = b → I 3 5 = l → cnt (fun f => ¬ Q 16 (3 * (48 + s) + f) = -1) 3 = m → OC T n nA nK k s R J post I0 Q0 b l (condS T n (48 + s) (k' + 1) Q p) → wX4_readsConds_2 post (k' + 1) (some 3) (some (2000 + 8 * k)) (some (2000 + 8 * k + 2 + s)) (nI m) (cp nA nK R I J) := by
  intro k'
  induction k' with
  | zero =>
    intro m Q p I hm h0 hT hK hF hD hb hl hc hO
    have e : m = 3 := by omega
    subst e
    unfold wX4_readsConds_2
    rw [brt (by decide)]
    simp (disch := first | decide | omega) only [brT, brF, c_I, c_rc, c_pI, c_pZ, c_aI, c_sI, ca_I, ca_rc, ca_pI, cq_I, cq_rc, cq_pI, cq_R, cq_aR, cs_I, cs_rc, cs_pI, cs_pZ, f0_0, f0_1, f0_2, f0_3, f0_4, f0_5, f0_6, f0_7, f1_0, f3_0, f4_0, f4_1, f7_0, f7_1, f7_2, f7_3, f7_4, f7_5, f7_6, f7_7, f7_8, f7_9, f17_0, f17_1, f17_2, f17_3, f17_4, f17_5, f0_8, f0_8p, f7_10, f7_10p, g9, g9r, g9w, g11, g11r, g11w, g12, g12r, g12w, g13, g13r, g13w, g14, g14r, g14w, g15, g15r, g15w, g25, g25r, g25w, h5, h5w, h5z, h6, h6w, h6z, h8, h8w, h8z, h21, h21w, h21z, h22, h22w, h22z, h23, h23w, fl10, fl16, fl18, fl20, fl24, g11f, g12f, g13f, g14f, g15f, g25f, cN2, cN10, cN16, cN18, cN19, cN20, cN24, z01, z11, ix1, ix2, nI_add, nI_clamp, vin, true_and, and_true, or_true, true_or]
    cases hf : fldS T n p with
    | none =>
      refine hO.2.1 Q p I ?_ hF hK hD hb hl h0
      unfold condS
      simp only [hf]
    | some f =>
      refine hO.2.2 Q p I f ?_ hf hF hK hD hb hl h0
      have := cnt_full hc f (fld_w hf).1
      unfold condS
      simp only [hf]
      rw [if_pos this]
  | succ k' ih =>
    intro m Q p I hm h0 hT hK hF hD hb hl hc hO
    have h3 : ¬ (3 : Int32) ≤ nI m := by rw [l3le (by omega)]; omega
    unfold wX4_readsConds_2 wX4_readsConds_49
    simp (disch := first | decide | omega) only [brf h3, brT, brF, c_I, c_rc, c_pI, c_pZ, c_aI, c_sI, ca_I, ca_rc, ca_pI, cq_I, cq_rc, cq_pI, cq_R, cq_aR, cs_I, cs_rc, cs_pI, cs_pZ, f0_0, f0_1, f0_2, f0_3, f0_4, f0_5, f0_6, f0_7, f1_0, f3_0, f4_0, f4_1, f7_0, f7_1, f7_2, f7_3, f7_4, f7_5, f7_6, f7_7, f7_8, f7_9, f17_0, f17_1, f17_2, f17_3, f17_4, f17_5, f0_8, f0_8p, f7_10, f7_10p, g9, g9r, g9w, g11, g11r, g11w, g12, g12r, g12w, g13, g13r, g13w, g14, g14r, g14w, g15, g15r, g15w, g25, g25r, g25w, h5, h5w, h5z, h6, h6w, h6z, h8, h8w, h8z, h21, h21w, h21z, h22, h22w, h22z, h23, h23w, fl10, fl16, fl18, fl20, fl24, g11f, g12f, g13f, g14f, g15f, g25f, cN2, cN10, cN16, cN18, cN19, cN20, cN24, z01, z11, ix1, ix2, nI_add, nI_clamp, vin, true_and, and_true, or_true, true_or, v_field hT hK]
    unfold condS at hO
    cases hf : fldS T n p with
    | none =>
      simp only [hf] at hO
      rw [brt (show oI none = -1 from rfl)]
      exact hO.2.1 Q p I rfl hF hK hD hb hl h0
    | some f =>
      simp only [hf] at hO
      obtain ⟨hf3, hfw⟩ := fld_w hf
      obtain ⟨_, e1, _⟩ := hD.2.2.2.2.2 s (by omega)
      rw [brf (show ¬ oI (some f) = -1 from nI_nm1 (by omega))]
      show wX5_tells _ _ (nI f) _
      rw [v_tells hk hs hf3, e1 f hf3, bI_br]
      refine brc (fun g => ?_) fun g => ?_
      · rw [if_pos g] at hO
        exact hO.2.2 Q p I f rfl hf hF hK hD hb hl h0
      · rw [if_neg g] at hO
        have hg : Q 16 (3 * (48 + s) + f) = -1 := Classical.not_not.mp g
        rw [c_rc (c := 3) (ci := 4) (by decide) rfl]
        refine v_advW (by omega) hfw hT hK fun I1 b1 b2 => ?_
        have hT1 := TP_fk (k := k) hT (FK_rf b1)
        have hD1 := QD_cg hD b1.1
        -- the number behind the field, up to hi'
        have num : ∀ hi' : Int32, (hi' = if f = 2 then 15 else 30) → wX4_numberHere (fun a2 S1 => br (a2 = -1) (post 0 S1) (xrc S1 (some (2000 + 8 * k + 2 + s)) 5 (wX5_tell (fun S4 => xrc S4 (some (2000 + 8 * k)) 3 (wX3_note (fun S5 => xrc S5 (some 3) 4 (wX4_advance (fun S6 => wX4_readsConds_2 post (k' + 1) (some 3) (some (2000 + 8 * k)) (some (2000 + 8 * k + 2 + s)) (nI m + 1) S6) (some 3) S5)) (some (2000 + 8 * k)) (nI f) S4)) (some (2000 + 8 * k + 2 + s)) (nI f) a2 S1))) (some 3) 0 hi' (cp nA nK R I1 J) := by
          intro hi' hhi
          refine v_number hT1 b2 ?_
          cases hnum : numS T n (skp T n (wep T n p)) 0 hi' with
          | none =>
            rw [hhi] at hnum
            simp only [hnum] at hO
            rw [brt (show oN none = -1 from rfl)]
            exact hO.1 _ _ rfl (FK_trans hF (FK_rf b1)) b2.2.1
          | some x =>
            have hnum' := hnum
            rw [hhi] at hnum'
            simp only [hnum'] at hO
            have hne : ¬ x = -1 := by
              have hx : ∃ k, x = nI k ∧ k ≤ 30 := by
                by_cases e2 : f = 2
                · rw [hhi, if_pos e2] at hnum
                  obtain ⟨x', h1, _, h2⟩ := num_nI (a := 0) (b := 15) (by decide) (by decide) hnum
                  exact ⟨x', h1, by omega⟩
                · rw [hhi, if_neg e2] at hnum
                  obtain ⟨x', h1, _, h2⟩ := num_nI (a := 0) (b := 30) (by decide) (by decide) hnum
                  exact ⟨x', h1, by omega⟩
              obtain ⟨x', h1, h2⟩ := hx
              rw [h1]
              exact nI_nm1 (by omega)
            rw [brf (show ¬ oN (some x) = -1 from hne)]
            unfold wX3_note
            simp (disch := first | decide | omega) only [brT, brF, c_I, c_rc, c_pI, c_pZ, c_aI, c_sI, ca_I, ca_rc, ca_pI, cq_I, cq_rc, cq_pI, cq_R, cq_aR, cs_I, cs_rc, cs_pI, cs_pZ, f0_0, f0_1, f0_2, f0_3, f0_4, f0_5, f0_6, f0_7, f1_0, f3_0, f4_0, f4_1, f7_0, f7_1, f7_2, f7_3, f7_4, f7_5, f7_6, f7_7, f7_8, f7_9, f17_0, f17_1, f17_2, f17_3, f17_4, f17_5, f0_8, f0_8p, f7_10, f7_10p, g9, g9r, g9w, g11, g11r, g11w, g12, g12r, g12w, g13, g13r, g13w, g14, g14r, g14w, g15, g15r, g15w, g25, g25r, g25w, h5, h5w, h5z, h6, h6w, h6z, h8, h8w, h8z, h21, h21w, h21z, h22, h22w, h22z, h23, h23w, fl10, fl16, fl18, fl20, fl24, g11f, g12f, g13f, g14f, g15f, g25f, cN2, cN10, cN16, cN18, cN19, cN20, cN24, z01, z11, ix1, ix2, nI_add, nI_clamp, vin, true_and, and_true, or_true, true_or, v_tell hk hs hf3, p2_ne]
            have e7 : I1 (2000 + 8 * k) 7 = Q 0 32 := hD1.2.2.2.2.1
            rw [e7]
            have hD2 := QD_p16 (v := x) hf3 hs hD1
            have hF2 : FK k I0 (p2 (p2 I1 (2000 + 8 * k + 2 + s) (1 + f) x) (2000 + 8 * k) 7 (bitF (Q 0 32) f)) := FK_q (FK_s (FK_trans hF (FK_rf b1)) hs)
            have hT2 : TP T n (p2 (p2 I1 (2000 + 8 * k + 2 + s) (1 + f) x) (2000 + 8 * k) 7 (bitF (Q 0 32) f)) := TP_fk (k := k) hT1 (FK_q (FK_s FK_rfl hs))
            have hr3 : p2 (p2 I1 (2000 + 8 * k + 2 + s) (1 + f) x) (2000 + 8 * k) 7 (bitF (Q 0 32) f) 3 = I1 3 := by rw [p2_ne (by omega), p2_ne (by omega)]
            refine v_advN hnum hT2 (TK_p b2 hr3) fun I2 d1 d2 => ?_
            refine ih (m + 1) _ _ I2 (by omega) ⟨by rw [p2_ne (by decide), p2_ne (by decide)]; exact h0.1, by rw [p2_ne (by decide), p2_ne (by decide)]; exact h0.2⟩ (TP_fk (k := k) hT2 (FK_rf d1)) d2 (FK_trans hF2 (FK_rf d1)) (QD_cg hD2 d1.1) (d1.2.1.trans ((congrFun hr3 4).trans (b1.2.1.trans hb))) (d1.2.2.trans ((congrFun hr3 5).trans (b1.2.2.trans hl))) ?_ hO
            rw [← hc]
            have hci := cnt_ins (p := fun g => ¬ Q 16 (3 * (48 + s) + g) = -1) (v := f) (fun z => z hg) (n := 3) hf3
            rw [← hci]
            refine cnt_cong fun g hg3 => ?_
            rw [p2_ne (show (16 : Nat) ≠ 0 by decide)]
            by_cases e2 : g = f
            · subst e2
              rw [p2_same]
              exact ⟨fun _ => .inr rfl, fun _ => hne⟩
            · rw [p2_row (by omega)]
              exact ⟨.inl, fun z => z.elim id (fun y => absurd y e2)⟩
        simp (disch := first | decide | omega) only [brT, brF, c_I, c_rc, c_pI, c_pZ, c_aI, c_sI, ca_I, ca_rc, ca_pI, cq_I, cq_rc, cq_pI, cq_R, cq_aR, cs_I, cs_rc, cs_pI, cs_pZ, f0_0, f0_1, f0_2, f0_3, f0_4, f0_5, f0_6, f0_7, f1_0, f3_0, f4_0, f4_1, f7_0, f7_1, f7_2, f7_3, f7_4, f7_5, f7_6, f7_7, f7_8, f7_9, f17_0, f17_1, f17_2, f17_3, f17_4, f17_5, f0_8, f0_8p, f7_10, f7_10p, g9, g9r, g9w, g11, g11r, g11w, g12, g12r, g12w, g13, g13r, g13w, g14, g14r, g14w, g15, g15r, g15w, g25, g25r, g25w, h5, h5w, h5z, h6, h6w, h6z, h8, h8w, h8z, h21, h21w, h21z, h22, h22w, h22z, h23, h23w, fl10, fl16, fl18, fl20, fl24, g11f, g12f, g13f, g14f, g15f, g25f, cN2, cN10, cN16, cN18, cN19, cN20, cN24, z01, z11, ix1, ix2, nI_add, nI_clamp, vin, true_and, and_true, or_true, true_or] at num
        simp (disch := first | decide | omega) only [brT, brF, c_I, c_rc, c_pI, c_pZ, c_aI, c_sI, ca_I, ca_rc, ca_pI, cq_I, cq_rc, cq_pI, cq_R, cq_aR, cs_I, cs_rc, cs_pI, cs_pZ, f0_0, f0_1, f0_2, f0_3, f0_4, f0_5, f0_6, f0_7, f1_0, f3_0, f4_0, f4_1, f7_0, f7_1, f7_2, f7_3, f7_4, f7_5, f7_6, f7_7, f7_8, f7_9, f17_0, f17_1, f17_2, f17_3, f17_4, f17_5, f0_8, f0_8p, f7_10, f7_10p, g9, g9r, g9w, g11, g11r, g11w, g12, g12r, g12w, g13, g13r, g13w, g14, g14r, g14w, g15, g15r, g15w, g25, g25r, g25w, h5, h5w, h5z, h6, h6w, h6z, h8, h8w, h8z, h21, h21w, h21z, h22, h22w, h22z, h23, h23w, fl10, fl16, fl18, fl20, fl24, g11f, g12f, g13f, g14f, g15f, g25f, cN2, cN10, cN16, cN18, cN19, cN20, cN24, z01, z11, ix1, ix2, nI_add, nI_clamp, vin, true_and, and_true, or_true, true_or]
        refine brc (fun g2 => ?_) fun g2 => ?_
        · have e2 : f = 2 := by
            have g2 : nI f = nI 2 := g2
            rw [ieq (by omega) (by decide)] at g2
            exact g2
          exact num 15 (by rw [if_pos e2])
        · have e2 : f ≠ 2 := fun z => g2 (by show nI f = 2; rw [z]; rfl)
          exact num 30 (by rw [if_neg e2])
end
