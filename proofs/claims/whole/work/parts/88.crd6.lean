section
variable {T : Nat → Int32} {nA nK n p e k w s m : Nat} {R : RMem} {I I0 Q Q' : Mem} {J : Nat → Nat → Int64} {post : Int32 → Pool → Prop} {pst : Pool → Prop} {pr : Option Nat → Pool → Prop} {v x lo hi : Int32}
theorem srt_0 : srtS T n p = 0 ↔ n ≤ p := by
  unfold srtS
  by_cases h : n ≤ p
  · rw [if_pos h]; exact ⟨fun _ => h, fun _ => rfl⟩
  · rw [if_neg h]
    constructor
    · intro z
      split at z
      · cases z
      · split at z
        · cases z
        · split at z <;> cases z
    · intro z; exact absurd z h
theorem srt_3 : srtS T n p = 3 ↔ p < n ∧ T p = 59 := by
  unfold srtS
  by_cases h : n ≤ p
  · rw [if_pos h]; exact ⟨fun z => (by cases z), fun z => by omega⟩
  · rw [if_neg h]
    by_cases h1 : T p = 59
    · have a1 : isLt (T p) = false := by rw [h1]; decide
      have a2 : isDg (T p) = false := by rw [h1]; decide
      rw [a1, a2, if_neg (by simp), if_neg (by simp), if_pos h1]
      exact ⟨fun _ => ⟨by omega, h1⟩, fun _ => rfl⟩
    · constructor
      · intro z
        split at z
        · cases z
        · split at z
          · cases z
          · cases z
      · intro z; exact absurd z.2 h1
/-- a word where a part's sign should stand -/
theorem v_12w (hK : TK T n I p) (hs : srtS T n p = 1) (hm : m ≤ 7) (hp : post 0 (cp nA nK R I J)) {j : Nat} {o : Option Nat} : wX4_reads_12 post (j + 1) (some 3) o (nI m) (cp nA nK R I J) := by
  have h3 : ¬ nI (srtS T n p) = 3 := by rw [hs]; decide
  have h0 : ¬ nI (srtS T n p) = 0 := by rw [hs]; decide
  unfold wX4_reads_12 wX4_reads_42
  simp (disch := first | decide | omega) only [brT, brF, c_I, c_rc, c_pI, c_pZ, c_aI, c_sI, ca_I, ca_rc, ca_pI, cq_I, cq_rc, cq_pI, cq_R, cq_aR, cs_I, cs_rc, cs_pI, cs_pZ, f0_0, f0_1, f0_2, f0_3, f0_4, f0_5, f0_6, f0_7, f1_0, f3_0, f4_0, f4_1, f7_0, f7_1, f7_2, f7_3, f7_4, f7_5, f7_6, f7_7, f7_8, f7_9, f17_0, f17_1, f17_2, f17_3, f17_4, f17_5, f0_8, f0_8p, f7_10, f7_10p, g9, g9r, g9w, g11, g11r, g11w, g12, g12r, g12w, g13, g13r, g13w, g14, g14r, g14w, g15, g15r, g15w, g25, g25r, g25w, h5, h5w, h5z, h6, h6w, h6z, h8, h8w, h8z, h21, h21w, h21z, h22, h22w, h22z, h23, h23w, fl10, fl16, fl18, fl20, fl24, g11f, g12f, g13f, g14f, g15f, g25f, cN2, cN10, cN16, cN18, cN19, cN20, cN24, z01, z11, ix1, ix2, nI_add, nI_clamp, vin, true_and, and_true, or_true, true_or, hK.1, brf h3, brf h0]
  refine brc (fun _ => hp) fun _ => brc (fun _ => hp) fun _ => hp
def contS (T : Nat → Int32) (n j m : Nat) (Q : Mem) (p : Nat) : Sum Nat Mem := if p < n then (if T p = 59 then loopS T n j m Q p else .inl p) else if m = 0 then .inl p else if pnd Q false m then .inl n else .inr Q
theorem QD_QC (hD : QD Q m I k) (h19 : Q 19 8 = -1) : QC Q 8 m I k := ⟨hD.1, hD.2.1, hD.2.2.1, hD.2.2.2.1, fun z => absurd h19 z, fun s hs => hD.2.2.2.2.2 s hs⟩
theorem v_12 (hk : k < nK) : ∀ j m Q p I, m + (j + 1) = 7 → TP T n I → TK T n I p → FK k I0 I → QD Q m I k → Q 13 8 = nI m → Q 19 8 = -1 → I 3 4 = bI (pnd Q true m = true) → I 3 5 = bI (pnd Q false m = true) → OR1 nA nK k R J post I0 (contS T n (j + 1) m Q p) → wX4_reads_12 post (j + 2) (some 3) (some (2000 + 8 * k)) (nI m) (cp nA nK R I J) := by
  -- a turn, with what follows a step
  have turn : ∀ j m Q p I, m + (j + 1) = 7 → (∀ Q' p' I', m + 1 + j = 7 → 0 < j → TP T n I' → TK T n I' p' → FK k I0 I' → QD Q' (m + 1) I' k → Q' 13 8 = nI (m + 1) → Q' 19 8 = -1 → I' 3 4 = bI (pnd Q' true (m + 1) = true) → I' 3 5 = bI (pnd Q' false (m + 1) = true) → OR1 nA nK k R J post I0 (contS T n j (m + 1) Q' p') → wX4_reads_12 post (j + 1) (some 3) (some (2000 + 8 * k)) (nI (m + 1)) (cp nA nK R I' J)) → TP T n I → TK T n I p → FK k I0 I → QD Q m I k → Q 13 8 = nI m → Q 19 8 = -1 → I 3 4 = bI (pnd Q true m = true) → I 3 5 = bI (pnd Q false m = true) → OR1 nA nK k R J post I0 (contS T n (j + 1) m Q p) → wX4_reads_12 post (j + 2) (some 3) (some (2000 + 8 * k)) (nI m) (cp nA nK R I J) := by
    intro j m Q p I hj hnext hT hK hF hD h13 h19 hb hl hO
    have hTT : ∀ I', FK k I0 I' → TP T n I' := fun I' g => TP_cg hT ((g 1 (by decide) (by omega)).trans (hF 1 (by decide) (by omega)).symm) ((g 2 (by decide) (by omega)).trans (hF 2 (by decide) (by omega)).symm)
    have hsl := srtS_lt (T := T) (n := n) (p := p)
    have h6 : ¬ (6 : Int32) < nI m := by rw [show (6 : Int32) = nI 6 from rfl, ilt (by decide) (by omega)]; omega
    have e0 : (0 : Int32) = nI 0 := rfl
    have e3 : (3 : Int32) = nI 3 := rfl
    -- behind the sign
    have h42 : (n ≤ p → m = 0) → wX4_reads_42 (wX4_reads_12 post (j + 1)) post (some 3) (some (2000 + 8 * k)) (nI m) (cp nA nK R I J) := by
      intro hend
      unfold wX4_reads_42
      simp (disch := first | decide | omega) only [brT, brF, c_I, c_rc, c_pI, c_pZ, c_aI, c_sI, ca_I, ca_rc, ca_pI, cq_I, cq_rc, cq_pI, cq_R, cq_aR, cs_I, cs_rc, cs_pI, cs_pZ, f0_0, f0_1, f0_2, f0_3, f0_4, f0_5, f0_6, f0_7, f1_0, f3_0, f4_0, f4_1, f7_0, f7_1, f7_2, f7_3, f7_4, f7_5, f7_6, f7_7, f7_8, f7_9, f17_0, f17_1, f17_2, f17_3, f17_4, f17_5, f0_8, f0_8p, f7_10, f7_10p, g9, g9r, g9w, g11, g11r, g11w, g12, g12r, g12w, g13, g13r, g13w, g14, g14r, g14w, g15, g15r, g15w, g25, g25r, g25w, h5, h5w, h5z, h6, h6w, h6z, h8, h8w, h8z, h21, h21w, h21z, h22, h22w, h22z, h23, h23w, fl10, fl16, fl18, fl20, fl24, g11f, g12f, g13f, g14f, g15f, g25f, cN2, cN10, cN16, cN18, cN19, cN20, cN24, z01, z11, ix1, ix2, nI_add, nI_clamp, vin, true_and, and_true, or_true, true_or, hK.1, hK.2.1]
      rw [e3, ieq (by omega) (by decide)]
      refine brc (fun h3 => ?_) fun h3 => ?_
      · obtain ⟨hpn, h59⟩ := srt_3.mp h3
        unfold contS at hO
        rw [if_pos hpn, if_pos h59] at hO
        have hbeh : behS T n p = p + 1 := by unfold behS; rw [if_neg (by omega), if_neg (by omega), if_neg (by omega)]
        refine v_advance hT (e := p + 1) (by rw [← hbeh]; exact hK.2.2.1) (by omega) fun I1 b1 b2 => ?_
        have hF1 := FK_trans hF (FK_rf b1 (k := k))
        have hT1 := hTT I1 hF1
        have hD1 := QD_cg hD b1.1
        have hb1 := b1.2.1.trans hb
        have hl1 := b1.2.2.trans hl
        unfold loopS at hO
        -- a step, or one too many
        have h95 : ¬ (0 < m ∧ isWb T n (skp T n (p + 1)) 4 = true) → wX4_reads_95 (wX4_reads_12 post (j + 1)) post (some 3) (some (2000 + 8 * k)) (nI m) (nI p) (cp nA nK R I1 J) := by
          intro hns
          simp only [if_neg hns] at hO
          unfold wX4_reads_95 wX4_reads_120 wX4_reads_128 wX4_reads_144
          simp (disch := first | decide | omega) only [brT, brF, c_I, c_rc, c_pI, c_pZ, c_aI, c_sI, ca_I, ca_rc, ca_pI, cq_I, cq_rc, cq_pI, cq_R, cq_aR, cs_I, cs_rc, cs_pI, cs_pZ, f0_0, f0_1, f0_2, f0_3, f0_4, f0_5, f0_6, f0_7, f1_0, f3_0, f4_0, f4_1, f7_0, f7_1, f7_2, f7_3, f7_4, f7_5, f7_6, f7_7, f7_8, f7_9, f17_0, f17_1, f17_2, f17_3, f17_4, f17_5, f0_8, f0_8p, f7_10, f7_10p, g9, g9r, g9w, g11, g11r, g11w, g12, g12r, g12w, g13, g13r, g13w, g14, g14r, g14w, g15, g15r, g15w, g25, g25r, g25w, h5, h5w, h5z, h6, h6w, h6z, h8, h8w, h8z, h21, h21w, h21z, h22, h22w, h22z, h23, h23w, fl10, fl16, fl18, fl20, fl24, g11f, g12f, g13f, g14f, g15f, g25f, cN2, cN10, cN16, cN18, cN19, cN20, cN24, z01, z11, ix1, ix2, nI_add, nI_clamp, vin, true_and, and_true, or_true, true_or, v_isAt (w := 6) (by decide) hT1 b2, v_isAt (w := 7) (by decide) hT1 b2, bI_br, b2.2.1]
          rw [show (6 : Int32) = nI 6 from rfl, ieq (by omega) (by decide)]
          refine brc (fun hm6 => ?_) fun hm6 => ?_
          · rw [if_pos hm6] at hO
            refine brc (fun g => ?_) fun g => brc (fun g2 => ?_) fun g2 => ?_
            · rw [if_pos (.inr g)] at hO
              exact hO.1 p _ rfl (FK_3 hF1) p2_same
            · rw [if_pos (.inl g2)] at hO
              exact hO.1 p _ rfl (FK_3 hF1) p2_same
            · rw [if_neg (fun z => z.elim g2 g)] at hO
              exact hO.1 _ _ rfl (FK_3 hF1) p2_same
          · rw [if_neg hm6] at hO
            have hstep : ∀ op : Int32, op = bI (m = 0) → wX4_readsStep (fun a2 S1 => br (a2 = 0) (post 0 S1) (wX4_reads_12 post (j + 1) (some 3) (some (2000 + 8 * k)) (nI (m + 1)) S1)) (some 3) (some (2000 + 8 * k)) op (cp nA nK R I1 J) := by
              intro op hop
              refine v_step hk (by omega) hop hT1 b2 hF1 hD1 hb1 hl1 ⟨fun f I' g1 g2 g3 => ?_, fun Q' p' I' g1 g2 g3 g4 g5 g6 => ?_, fun p' I' g1 g2 g3 g4 => ?_⟩
              · show br _ _ _
                rw [brt rfl]
                simp only [g1] at hO
                exact hO.1 f I' rfl g2 g3
              · show br _ _ _
                rw [brf (by decide)]
                simp only [g1] at hO
                have hhd := step_hd g1
                have hpn : ∀ w, pnd (p2 Q' 13 8 (nI (m + 1))) w (m + 1) = pnd Q' w (m + 1) := fun w => pnd_cg fun i hi => ⟨by rw [p2_ne (by decide)], by rw [p2_ne (by decide)]⟩
                refine hnext (p2 Q' 13 8 (nI (m + 1))) p' I' (by omega) (by omega) (hTT I' g2) g3 g2 (QD_Q g4 ?_ ?_ ?_ fun i hi => ⟨?_, ?_, fun f hf => ?_, ?_, ?_⟩) p2_same ?_ (by rw [hpn]; exact g5) (by rw [hpn]; exact g6) ?_
                · rw [p2_ne (by decide)]
                · rw [p2_ne (by decide)]
                · rw [p2_ne (by decide)]
                · rw [p2_ne (by decide)]
                · rw [p2_ne (by decide)]
                · rw [p2_ne (by decide)]
                · rw [p2_ne (by decide)]
                · rw [p2_ne (by decide)]
                · rw [p2_ne (by decide), hhd.1]; exact h19
                · unfold contS
                  rw [if_neg (show ¬ m + 1 = 0 by omega)]
                  exact hO
              · show br _ _ _
                rw [brf (by decide)]
                simp only [g1] at hO
                exact v_12w g3 g4 (by omega) (hO.1 p' I' rfl g2 g3.2.1)
            rw [show (nI m = (0 : Int32)) = (m = 0) from ieq (b := 0) (by omega) (by decide)]
            refine brc (fun g => hstep 1 (by rw [bI_t g])) fun g => hstep 0 (by rw [bI_f g])
        rw [lle0 (by omega)]
        refine brc (fun hm0 => h95 fun z => by omega) fun hm0 => ?_
        simp (disch := first | decide | omega) only [brT, brF, c_I, c_rc, c_pI, c_pZ, c_aI, c_sI, ca_I, ca_rc, ca_pI, cq_I, cq_rc, cq_pI, cq_R, cq_aR, cs_I, cs_rc, cs_pI, cs_pZ, f0_0, f0_1, f0_2, f0_3, f0_4, f0_5, f0_6, f0_7, f1_0, f3_0, f4_0, f4_1, f7_0, f7_1, f7_2, f7_3, f7_4, f7_5, f7_6, f7_7, f7_8, f7_9, f17_0, f17_1, f17_2, f17_3, f17_4, f17_5, f0_8, f0_8p, f7_10, f7_10p, g9, g9r, g9w, g11, g11r, g11w, g12, g12r, g12w, g13, g13r, g13w, g14, g14r, g14w, g15, g15r, g15w, g25, g25r, g25w, h5, h5w, h5z, h6, h6w, h6z, h8, h8w, h8z, h21, h21w, h21z, h22, h22w, h22z, h23, h23w, fl10, fl16, fl18, fl20, fl24, g11f, g12f, g13f, g14f, g15f, g25f, cN2, cN10, cN16, cN18, cN19, cN20, cN24, z01, z11, ix1, ix2, nI_add, nI_clamp, vin, true_and, and_true, or_true, true_or, v_isAt (w := 4) (by decide) hT1 b2, bI_br, hl1]
        refine brc (fun e4 => ?_) fun e4 => h95 fun z => e4 z.2
        simp only [if_pos (⟨by omega, e4⟩ : 0 < m ∧ isWb T n (skp T n (p + 1)) 4 = true)] at hO
        refine brc (fun hp2 => ?_) fun hp2 => ?_
        · rw [if_pos hp2] at hO
          exact hO.1 _ I1 rfl hF1 b2.2.1
        · rw [if_neg hp2] at hO
          refine v_rspread hk (by omega) hT1 b2 e4 hF1 hD1 h13 ⟨fun f I' g1 g2 g3 => ?_, fun Q' I' m' g1 g2 g3 g4 g5 g6 => ?_⟩
          · show br _ _ _
            rw [brt rfl]
            exact hO.1 f I' g1 g2 g3
          · show br _ _ _
            rw [brf (by decide)]
            exact hO.2 Q' I' m' g1 g2 g3 g4 g5 g6
      · have hres : contS T n (j + 1) m Q p = .inl p := by
          unfold contS
          by_cases hpn : p < n
          · rw [if_pos hpn, if_neg (fun z => h3 (srt_3.mpr ⟨hpn, z⟩))]
          · rw [if_neg hpn, if_pos (hend (by omega))]
        exact hO.1 p I hres hF hK.2.1
    unfold wX4_reads_12
    simp (disch := first | decide | omega) only [brf h6, brT, brF, c_I, c_rc, c_pI, c_pZ, c_aI, c_sI, ca_I, ca_rc, ca_pI, cq_I, cq_rc, cq_pI, cq_R, cq_aR, cs_I, cs_rc, cs_pI, cs_pZ, f0_0, f0_1, f0_2, f0_3, f0_4, f0_5, f0_6, f0_7, f1_0, f3_0, f4_0, f4_1, f7_0, f7_1, f7_2, f7_3, f7_4, f7_5, f7_6, f7_7, f7_8, f7_9, f17_0, f17_1, f17_2, f17_3, f17_4, f17_5, f0_8, f0_8p, f7_10, f7_10p, g9, g9r, g9w, g11, g11r, g11w, g12, g12r, g12w, g13, g13r, g13w, g14, g14r, g14w, g15, g15r, g15w, g25, g25r, g25w, h5, h5w, h5z, h6, h6w, h6z, h8, h8w, h8z, h21, h21w, h21z, h22, h22w, h22z, h23, h23w, fl10, fl16, fl18, fl20, fl24, g11f, g12f, g13f, g14f, g15f, g25f, cN2, cN10, cN16, cN18, cN19, cN20, cN24, z01, z11, ix1, ix2, nI_add, nI_clamp, vin, true_and, and_true, or_true, true_or, hK.1, hl, bI_br]
    rw [lle0 (by omega)]
    refine brc (fun hm0 => h42 fun _ => by omega) fun hm0 => ?_
    rw [show (nI (srtS T n p) = (0 : Int32)) = (srtS T n p = 0) from ieq (b := 0) (by omega) (by decide), srt_0]
    refine brc (fun hend => ?_) fun hend => h42 fun z => absurd z hend
    have hpe : p = n := by have := hK.2.2.2; omega
    unfold contS at hO
    rw [if_neg (by omega), if_neg (by omega)] at hO
    refine brc (fun g => ?_) fun g => ?_
    · rw [if_pos g] at hO
      exact hO.1 n I rfl hF (by rw [hK.2.1, hpe])
    · rw [if_neg g] at hO
      exact hO.2 Q I m rfl hF h13 (by omega) (QD_QC hD h19) hD.2.2.2.2.1
  intro j
  induction j with
  | zero => intro m Q p I hj; exact turn 0 m Q p I hj fun _ _ _ _ h => by omega
  | succ j ih => intro m Q p I hj; exact turn (j + 1) m Q p I hj fun Q' p' I' _ _ h1 h2 h3 h4 h5 h6 h7 h8 h9 => ih (m + 1) Q' p' I' (by omega) h1 h2 h3 h4 h5 h6 h7 h8 h9
theorem v_reads (hk : k < nK) (hT : TP T n I) (hO : OR1 nA nK k R J post I (textS T n Q)) : wX4_reads post (some 3) (some (2000 + 8 * k)) (cp nA nK R I J) := by
  unfold wX4_reads wX4_readsBy wX3_clear
  unfold textS at hO
  simp (disch := first | decide | omega) only [brT, brF, c_I, c_rc, c_pI, c_pZ, c_aI, c_sI, ca_I, ca_rc, ca_pI, cq_I, cq_rc, cq_pI, cq_R, cq_aR, cs_I, cs_rc, cs_pI, cs_pZ, f0_0, f0_1, f0_2, f0_3, f0_4, f0_5, f0_6, f0_7, f1_0, f3_0, f4_0, f4_1, f7_0, f7_1, f7_2, f7_3, f7_4, f7_5, f7_6, f7_7, f7_8, f7_9, f17_0, f17_1, f17_2, f17_3, f17_4, f17_5, f0_8, f0_8p, f7_10, f7_10p, g9, g9r, g9w, g11, g11r, g11w, g12, g12r, g12w, g13, g13r, g13w, g14, g14r, g14w, g15, g15r, g15w, g25, g25r, g25w, h5, h5w, h5z, h6, h6w, h6z, h8, h8w, h8z, h21, h21w, h21z, h22, h22w, h22z, h23, h23w, fl10, fl16, fl18, fl20, fl24, g11f, g12f, g13f, g14f, g15f, g25f, cN2, cN10, cN16, cN18, cN19, cN20, cN24, z01, z11, ix1, ix2, nI_add, nI_clamp, vin, true_and, and_true, or_true, true_or, p2_ne]
  generalize hIa : p2 (p2 (p2 (p2 (p2 (p2 (p2 (p2 (p2 (p2 I (2000 + 8 * k) 1 0) (2000 + 8 * k) 2 0) (2000 + 8 * k) 3 0) (2000 + 8 * k) 4 (-1)) (2000 + 8 * k) 5 0) (2000 + 8 * k) 6 0) (2000 + 8 * k) 7 0) 3 4 0) 3 5 0) 3 3 0 = Ia
  have hTT : ∀ I', FK k I I' → TP T n I' := fun I' g => TP_fk hT g
  have hFa : FK k I Ia := by
    rw [← hIa]
    exact FK_3 (FK_3 (FK_3 (FK_q (FK_q (FK_q (FK_q (FK_q (FK_q (FK_q FK_rfl)))))))))
  have a33 : Ia 3 3 = nI 0 := by rw [← hIa, p2_same]; rfl
  have a34 : Ia 3 4 = 0 := by rw [← hIa]; simp (disch := first | decide | omega) only [p2_row, p2_same]
  have a35 : Ia 3 5 = 0 := by rw [← hIa]; simp (disch := first | decide | omega) only [p2_row, p2_same]
  have aq : ∀ j, j = 1 ∨ j = 2 ∨ j = 7 → Ia (2000 + 8 * k) j = 0 := fun j hj => by
    rw [← hIa]
    rcases hj with rfl | rfl | rfl <;> simp (disch := first | decide | omega) only [p2_ne, p2_row, p2_same]
  have aq4 : Ia (2000 + 8 * k) 4 = -1 := by rw [← hIa]; simp (disch := first | decide | omega) only [p2_ne, p2_row, p2_same]
  refine v_advance (hTT Ia hFa) a33 (by omega) fun I1 b1 b2 => ?_
  have hF1 := FK_trans hFa (FK_rf b1 (k := k))
  simp (disch := first | decide | omega) only [brT, brF, c_I, c_rc, c_pI, c_pZ, c_aI, c_sI, ca_I, ca_rc, ca_pI, cq_I, cq_rc, cq_pI, cq_R, cq_aR, cs_I, cs_rc, cs_pI, cs_pZ, f0_0, f0_1, f0_2, f0_3, f0_4, f0_5, f0_6, f0_7, f1_0, f3_0, f4_0, f4_1, f7_0, f7_1, f7_2, f7_3, f7_4, f7_5, f7_6, f7_7, f7_8, f7_9, f17_0, f17_1, f17_2, f17_3, f17_4, f17_5, f0_8, f0_8p, f7_10, f7_10p, g9, g9r, g9w, g11, g11r, g11w, g12, g12r, g12w, g13, g13r, g13w, g14, g14r, g14w, g15, g15r, g15w, g25, g25r, g25w, h5, h5w, h5z, h6, h6w, h6z, h8, h8w, h8z, h21, h21w, h21z, h22, h22w, h22z, h23, h23w, fl10, fl16, fl18, fl20, fl24, g11f, g12f, g13f, g14f, g15f, g25f, cN2, cN10, cN16, cN18, cN19, cN20, cN24, z01, z11, ix1, ix2, nI_add, nI_clamp, vin, true_and, and_true, or_true, true_or, v_isAt (w := 0) (by decide) (hTT I1 hF1) b2, bI_br]
  refine brc (fun e => ?_) fun e => ?_
  · simp only [if_neg (show ¬ isWb T n (skp T n 0) 0 = false by rw [e]; simp)] at hO
    refine v_advW (w := 0) (by decide) e (hTT I1 hF1) b2 fun I2 d1 d2 => ?_
    have hF2 := FK_trans hF1 (FK_rf d1 (k := k))
    unfold wX3_note
    simp (disch := first | decide | omega) only [brT, brF, c_I, c_rc, c_pI, c_pZ, c_aI, c_sI, ca_I, ca_rc, ca_pI, cq_I, cq_rc, cq_pI, cq_R, cq_aR, cs_I, cs_rc, cs_pI, cs_pZ, f0_0, f0_1, f0_2, f0_3, f0_4, f0_5, f0_6, f0_7, f1_0, f3_0, f4_0, f4_1, f7_0, f7_1, f7_2, f7_3, f7_4, f7_5, f7_6, f7_7, f7_8, f7_9, f17_0, f17_1, f17_2, f17_3, f17_4, f17_5, f0_8, f0_8p, f7_10, f7_10p, g9, g9r, g9w, g11, g11r, g11w, g12, g12r, g12w, g13, g13r, g13w, g14, g14r, g14w, g15, g15r, g15w, g25, g25r, g25w, h5, h5w, h5z, h6, h6w, h6z, h8, h8w, h8z, h21, h21w, h21z, h22, h22w, h22z, h23, h23w, fl10, fl16, fl18, fl20, fl24, g11f, g12f, g13f, g14f, g15f, g25f, cN2, cN10, cN16, cN18, cN19, cN20, cN24, z01, z11, ix1, ix2, nI_add, nI_clamp, vin, true_and, and_true, or_true, true_or, v_field (hTT I2 hF2) d2, p2_same, p2_row]
    cases hf : fldS T n (skp T n (wep T n (skp T n 0))) with
    | none =>
      simp only [hf] at hO
      rw [brt (show oI none = -1 from rfl)]
      exact hO.1 _ _ rfl (FK_q hF2) (by rw [p2_ne (by omega)]; exact d2.2.1)
    | some f =>
      simp only [hf] at hO
      obtain ⟨hf3, hfw⟩ := fld_w hf
      rw [brf (show ¬ oI (some f) = -1 from nI_nm1 (by omega))]
      have e7 : I2 (2000 + 8 * k) 7 = 0 := by rw [d1.1 _ (by omega), b1.1 _ (by omega)]; exact aq 7 (by simp)
      rw [e7]
      show wX4_advance _ _ (cp nA nK R (p2 (p2 I2 (2000 + 8 * k) 3 (nI f)) (2000 + 8 * k) 7 (bitF 0 f)) J)
      generalize hIb : p2 (p2 I2 (2000 + 8 * k) 3 (nI f)) (2000 + 8 * k) 7 (bitF 0 f) = Ib
      have hFb : FK k I Ib := by rw [← hIb]; exact FK_q (FK_q hF2)
      have hrb : Ib 3 = I2 3 := by rw [← hIb, p2_ne (by omega), p2_ne (by omega)]
      refine v_advW (w := 1 + f) (by omega) hfw (hTT Ib hFb) (TK_p d2 hrb) fun I3 c1 c2 => ?_
      have hF3 := FK_trans hFb (FK_rf c1 (k := k))
      rw [brf (by decide)]
      have hI3 : I3 (2000 + 8 * k) = p2 (p2 Ia (2000 + 8 * k) 3 (nI f)) (2000 + 8 * k) 7 (bitF 0 f) (2000 + 8 * k) := by
        rw [c1.1 _ (by omega), ← hIb]
        funext i
        simp only [p2_at]
        rw [d1.1 _ (by omega), b1.1 _ (by omega)]
      refine ⟨_, v_12 hk (T := T) (n := n) (I0 := I) 6 0 (p2 (p2 (p2 (p2 (p2 Q 0 32 0) 13 8 0) 19 8 (-1)) 0 32 (bitF 0 f)) 12 8 (nI f)) _ I3 (by omega) (hTT I3 hF3) c2 hF3 ⟨?_, ?_, ?_, ?_, ?_, fun s hs => by omega⟩ ?_ ?_ ?_ ?_ ?_⟩
      · rw [hI3]; simp (disch := first | decide | omega) only [p2_row]; exact aq 1 (by simp)
      · rw [hI3]; simp (disch := first | decide | omega) only [p2_row]; exact aq 2 (by simp)
      · rw [hI3]; simp (disch := first | decide | omega) only [p2_row, p2_same]
      · rw [hI3]; simp (disch := first | decide | omega) only [p2_row, p2_same, p2_ne]; exact aq4
      · rw [hI3]; simp (disch := first | decide | omega) only [p2_row, p2_same, p2_ne]
      · simp (disch := first | decide | omega) only [p2_ne, p2_same]; rfl
      · simp (disch := first | decide | omega) only [p2_ne, p2_same]
      · rw [c1.2.1, congrFun hrb 4, d1.2.1, b1.2.1, a34]; unfold pnd; rw [bI_f (by simp)]
      · rw [c1.2.2, congrFun hrb 5, d1.2.2, b1.2.2, a35]; unfold pnd; rw [bI_f (by simp)]
      · have hsk := c2.2.2.2
        have hcs : contS T n 7 0 (p2 (p2 (p2 (p2 (p2 Q 0 32 0) 13 8 0) 19 8 (-1)) 0 32 (bitF 0 f)) 12 8 (nI f)) (skp T n (wep T n (skp T n (wep T n (skp T n 0))))) = (if skp T n (wep T n (skp T n (wep T n (skp T n 0)))) < n ∧ T (skp T n (wep T n (skp T n (wep T n (skp T n 0))))) = 59 then loopS T n 7 0 (p2 (p2 (p2 (p2 (p2 Q 0 32 0) 13 8 0) 19 8 (-1)) 0 32 (bitF 0 f)) 12 8 (nI f)) (skp T n (wep T n (skp T n (wep T n (skp T n 0))))) else .inl (skp T n (wep T n (skp T n (wep T n (skp T n 0)))))) := by
          unfold contS
          by_cases h1 : skp T n (wep T n (skp T n (wep T n (skp T n 0)))) < n
          · rw [if_pos h1]
            by_cases h2 : T (skp T n (wep T n (skp T n (wep T n (skp T n 0))))) = 59
            · rw [if_pos h2, if_pos ⟨h1, h2⟩]
            · rw [if_neg h2, if_neg (fun z => h2 z.2)]
          · rw [if_neg h1, if_pos rfl, if_neg (fun z => h1 z.1)]
        rw [hcs]
        exact hO
  · simp only [if_pos (show isWb T n (skp T n 0) 0 = false by simpa using e)] at hO
    exact hO.1 _ I1 rfl hF1 b2.2.1
end
