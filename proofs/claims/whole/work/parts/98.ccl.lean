/-! ===== calls that change the desk ===== -/
section
variable {D D' : Mem} {nA nQ nE nT nw nc q a b s p k l ns fb pf m : Nat} {R : RMem} {I I' : Mem} {J : Nat → Nat → Int64} {t v w u x : Int32} {post : Int32 → Pool → Prop} {pst : Pool → Prop} {pox : String → Pool → Prop}
theorem CBa_d (h : CBa D nA nw R I) (h6 : D' 6 = D 6) (h7 : D' 7 = D 7) (h8 : D' 8 = D 8) (h9 : D' 9 = D 9) (h10 : D' 10 = D 10) (h4 : D' 0 4 = D 0 4) (h1 : D' 0 1 = D 0 1) (h5 : D' 0 5 = D 0 5) : CBa D' nA nw R I := by
  obtain ⟨a1, a2, a3, a4, a5, a6⟩ := h
  have hfam : ∀ i, fam D' i = fam D i := fun i => by unfold fam alk; rw [h6, h7]
  refine ⟨?_, h4.trans a2, h1.trans a3, fun i hi => ?_, fun k hk => ?_, ?_⟩
  · unfold WA tk td vv at a1 ⊢; rw [h7, h8, h9]; exact a1
  · rw [h6, h7, h8, h9, h10, hfam]; exact a4 i hi
  · rw [ag_byT h8]; exact a5 k hk
  · unfold LG at a6 ⊢; rw [h5, h8, h9]; exact a6
theorem CBq_d (h : CBq D nA nQ R I) (hq : ∀ q, q < nQ → AGQ D D' q) (h11 : D' 0 11 = D 0 11) : CBq D' nA nQ R I := by
  obtain ⟨q1, q2, q3, q4⟩ := h
  refine ⟨q1, h11.trans q2, fun q h => ?_, q4⟩
  obtain ⟨fb, pf, l, h1, h2⟩ := q3 q h
  have hns : nsq D q ≤ 6 := h1.1.2.2.2.1
  rw [ag_nsq (hq q h)]
  exact ⟨fb, pf, l, ag_QV (hq q h) h1, ag_QC (hq q h) hns h2⟩
theorem CBt_d (h : CBt D nT I) (h26 : D' 26 = D 26) (h27 : D' 0 27 = D 0 27) : CBt D' nT I := by unfold CBt at h ⊢; rw [h26, h27]; exact h
theorem CBe_d (h : CBe D nE I) (h23 : D' 23 = D 23) (h24 : D' 24 = D 24) (h25 : D' 25 = D 25) (h22 : D' 0 22 = D 0 22) : CBe D' nE I := by unfold CBe EXU at h ⊢; rw [h23, h24, h25, h22]; exact h
theorem CBs_d (h : CBs D I) (h3 : D' 3 = D 3) (h1 : D' 0 1 = D 0 1) (h2 : D' 0 2 = D 0 2) (h30 : D' 0 30 = D 0 30) (h14 : D' 14 = D 14) (h17 : D' 17 = D 17) : CBs D' I := by unfold CBs BZ at h ⊢; rw [h3, h1, h2, h30, h14, h17]; exact h
theorem JCH_d (h : JCH D nA nE nQ nc I) (hA : AGA D D' nQ) (hn : ∀ q, q < nQ → nsq D q ≤ 6) : JCH D' nA nE nQ nc I := ⟨h.1, h.2.imp id fun ⟨j, h1, h2, h3⟩ => ⟨j, h1, h2, fun e => ag_JVd hA hn (h3 e)⟩⟩
theorem JCH_up {nA' nE' nQ' : Nat} (h : JCH D nA nE nQ nc I) (h14 : I' 0 14 = nI (nc + 1)) (h15 : I' 0 15 = I 0 15) : JCH D' nA' nE' nQ' (nc + 1) I' := ⟨h14, by rw [h15]; exact h.2.imp id fun ⟨j, h1, h2, h3⟩ => ⟨j, by omega, h2, fun e => by omega⟩⟩
def tl1 : List Nat := [3, 6, 7, 8, 9, 10, 12, 13, 14, 15, 16, 17, 18, 19, 20, 21, 23, 24, 25, 26]
def tl0 : List Nat := [1, 2, 4, 5, 11, 22, 27, 30]
/-- the told rows agree -/
def TL (D D' : Mem) : Prop := (∀ c, c ∈ tl1 → D' c = D c) ∧ ∀ k, k ∈ tl0 → D' 0 k = D 0 k
theorem TL_sc (h : SC D D') : TL D D' := ⟨fun c hc => h.1 c (by revert hc; unfold tl1 sc0; simp; omega), fun k hk => h.2 k (by revert hk; unfold tl0 scf; simp; omega)⟩
theorem TL_00 : TL D (p2 D 0 0 v) := ⟨fun c hc => p2_ne (by revert hc; unfold tl1; simp; omega), fun k hk => p2_row (by revert hk; unfold tl0; simp; omega)⟩
theorem AGQ_r (h : ∀ c, c ∈ [6, 7, 8, 9, 12, 13, 14, 15, 16, 17, 18, 19, 20, 21] → D' c = D c) : AGQ D D' q := by
  refine ⟨h 6 (by decide), h 7 (by decide), h 8 (by decide), h 9 (by decide), by rw [h 12 (by decide)], by rw [h 13 (by decide)], by rw [h 19 (by decide)], by rw [h 20 (by decide)], by rw [h 21 (by decide)], fun s hs => ⟨by rw [h 14 (by decide)], by rw [h 15 (by decide)], fun f hf => by rw [h 16 (by decide)], by rw [h 17 (by decide)], by rw [h 18 (by decide)]⟩⟩
theorem CI_tl (h : CI D nA nQ nE nT nw nc R I) (ht : TL D D') : CI D' nA nQ nE nT nw nc R I := by
  obtain ⟨t1, t0⟩ := ht
  have hq : ∀ q, q < nQ → AGQ D D' q := fun q _ => AGQ_r fun c hc => t1 c (by revert hc; unfold tl1; simp; omega)
  have hn := CB_ns h.1
  obtain ⟨⟨b1, b2, b3, b4, b5⟩, hS, hJ⟩ := h
  exact ⟨⟨CBa_d b1 (t1 6 (by decide)) (t1 7 (by decide)) (t1 8 (by decide)) (t1 9 (by decide)) (t1 10 (by decide)) (t0 4 (by decide)) (t0 1 (by decide)) (t0 5 (by decide)), CBq_d b2 hq (t0 11 (by decide)), CBt_d b3 (t1 26 (by decide)) (t0 27 (by decide)), CBe_d b4 (t1 23 (by decide)) (t1 24 (by decide)) (t1 25 (by decide)) (t0 22 (by decide)), CBs_d b5 (t1 3 (by decide)) (t0 1 (by decide)) (t0 2 (by decide)) (t0 30 (by decide)) (t1 14 (by decide)) (t1 17 (by decide))⟩, ag_SWC hq hn hS, JCH_d hJ ⟨hq, t1 7 (by decide), t1 8 (by decide), t1 23 (by decide), t1 24 (by decide), t1 25 (by decide), t0 1 (by decide), t0 2 (by decide)⟩ hn⟩
/-! frames of the class for calls that touch few rows -/
theorem SWC_I (h : SWC D nA nQ R I) (hn : ∀ q, q < nQ → nsq D q ≤ 6) (hc : ∀ c, c = 7 ∨ c = 10 ∨ (26 ≤ c ∧ c < 32) → I' c = I c) : SWC D nA nQ R I' := SWC_cg h hn (hc 7 (by omega)) (hc 10 (by omega)) (fun c h1 h2 => hc c (by omega)) rfl rfl
theorem JCH_I (h : JCH D nA nE nQ nc I) (h0 : I' 0 14 = I 0 14 ∧ I' 0 15 = I 0 15) (hc : ∀ c, 17 ≤ c ∧ c ≤ 20 → I' c = I c) : JCH D nA nE nQ nc I' := by
  unfold JCH at h ⊢
  rw [h0.1, h0.2]
  exact ⟨h.1, h.2.imp id fun ⟨j, h1, h2, h3⟩ => ⟨j, h1, h2, fun e => JVd_cg (h3 e) (hc 17 (by omega)) (hc 19 (by omega)) (hc 20 (by omega))⟩⟩
theorem CBq_I (h : CBq D nA nQ R I) (h9 : I' 0 9 = I 0 9) (hc : ∀ c, 2000 ≤ c → I' c = I c) : CBq D nA nQ R I' := by
  obtain ⟨q1, q2, q3, q4, q5, q6, q7⟩ := h
  refine ⟨q1, q2, fun q hq => ?_, q4, q5, q6, h9.trans q7⟩
  obtain ⟨fb, pf, l, h1, h2⟩ := q3 q hq
  exact ⟨fb, pf, l, h1, QC_cg hc h2⟩
theorem CBa_I (h : CBa D nA nw R I) (h4 : I' 4 = I 4) (hc : ∀ c, 1000 ≤ c → c < 2000 → I' c = I c) : CBa D nA nw R I' := by
  obtain ⟨a1, a2, a3, a4, a5, a6⟩ := h
  exact ⟨a1, a2, a3, AC_cg hc a1.1 rfl a4, a5, by unfold LG; rw [h4]; exact a6⟩
theorem CBe_I (h : CBe D nE I) (h10 : I' 0 10 = I 0 10) (hc : ∀ c, 87 ≤ c → c < 95 → I' c = I c) : CBe D nE I' := by
  obtain ⟨e1, e2, e3, e4⟩ := h
  refine ⟨e1, e2, h10.trans e3, fun q w hq hw => ?_⟩
  rw [hc (87 + q) (by omega) (by omega)]
  exact e4 q w hq hw
theorem d_fault (hC : CI D nA nQ nE nT nw nc R I) (hp : post (D 0 30) (cp nA (nQ + 2) R I J)) : wX8_fault post (some 0) (cp nA (nQ + 2) R I J) := by
  have : I 0 13 = D 0 30 := hC.1.2.2.2.2.2.2.2.1
  unfold wX8_fault
  simp (disch := first | decide | omega) only [brT, brF, c_I, c_rc, c_pI, c_pZ, c_aI, c_sI, ca_I, ca_rc, ca_pI, cq_I, cq_rc, cq_pI, cq_R, cq_aR, cs_I, cs_rc, cs_pI, cs_pZ, f0_0, f0_1, f0_2, f0_3, f0_4, f0_5, f0_6, f0_7, f1_0, f3_0, f4_0, f4_1, f7_0, f7_1, f7_2, f7_3, f7_4, f7_5, f7_6, f7_7, f7_8, f7_9, f17_0, f17_1, f17_2, f17_3, f17_4, f17_5, f0_8, f0_8p, f7_10, f7_10p, g9, g9r, g9w, g11, g11r, g11w, g12, g12r, g12w, g13, g13r, g13w, g14, g14r, g14w, g15, g15r, g15w, g25, g25r, g25w, h5, h5w, h5z, h6, h6w, h6z, h8, h8w, h8z, h21, h21w, h21z, h22, h22w, h22z, h23, h23w, fl10, fl16, fl18, fl20, fl24, g11f, g12f, g13f, g14f, g15f, g25f, cN2, cN10, cN16, cN18, cN19, cN20, cN24, z01, z11, ix1, ix2, nI_add, nI_clamp, vin, true_and, and_true, or_true, true_or, this]
  exact hp
theorem d_end (hC : CI D nA nQ nE nT nw nc R I) (hp : ∀ I' nT', 0 ≤ v ∧ v ≤ D 0 27 → CI (p2 (p2 D 0 0 0) 0 27 v) nA nQ nE nT' nw nc R I' → post 1 (cp nA (nQ + 2) R I' J)) (hno : ¬ (0 ≤ v ∧ v ≤ D 0 27) → post 0 (cp nA (nQ + 2) R I J)) : wX8_end post (some 0) v (cp nA (nQ + 2) R I J) := by
  obtain ⟨t1, t2, t3⟩ := hC.1.2.2.1
  unfold wX8_end
  simp (disch := first | decide | omega) only [brT, brF, c_I, c_rc, c_pI, c_pZ, c_aI, c_sI, ca_I, ca_rc, ca_pI, cq_I, cq_rc, cq_pI, cq_R, cq_aR, cs_I, cs_rc, cs_pI, cs_pZ, f0_0, f0_1, f0_2, f0_3, f0_4, f0_5, f0_6, f0_7, f1_0, f3_0, f4_0, f4_1, f7_0, f7_1, f7_2, f7_3, f7_4, f7_5, f7_6, f7_7, f7_8, f7_9, f17_0, f17_1, f17_2, f17_3, f17_4, f17_5, f0_8, f0_8p, f7_10, f7_10p, g9, g9r, g9w, g11, g11r, g11w, g12, g12r, g12w, g13, g13r, g13w, g14, g14r, g14w, g15, g15r, g15w, g25, g25r, g25w, h5, h5w, h5z, h6, h6w, h6z, h8, h8w, h8z, h21, h21w, h21z, h22, h22w, h22z, h23, h23w, fl10, fl16, fl18, fl20, fl24, g11f, g12f, g13f, g14f, g15f, g25f, cN2, cN10, cN16, cN18, cN19, cN20, cN24, z01, z11, ix1, ix2, nI_add, nI_clamp, vin, true_and, and_true, or_true, true_or, t2.1]
  rw [t1] at hp hno
  refine brc (fun h => hno fun z => Int32.not_le.mpr h z.1) fun h => brc (fun h2 => ?_) fun h2 => hno fun z => h2 z.2
  obtain ⟨m, hm, rfl⟩ := nI_of h
  have h400 := t2.2.1
  have hmn := h2
  rw [ile hm (by omega)] at hmn
  have hC1 := CI_tl hC (TL_00 (v := 0))
  have hn := CB_ns hC1.1
  have hq : ∀ q, q < nQ → AGQ (p2 D 0 0 0) (p2 (p2 D 0 0 0) 0 27 (nI m)) q := fun q _ => AGQ_r fun c hc => p2_ne (by revert hc; simp; omega)
  obtain ⟨⟨b1, b2, b3, b4, b5⟩, hS, hJ⟩ := hC1
  refine hp (p2 I 1 1 (nI m)) m ⟨Int32.not_lt.mp h, h2⟩ ⟨⟨CBa_I (CBa_d b1 (p2_ne (by decide)) (p2_ne (by decide)) (p2_ne (by decide)) (p2_ne (by decide)) (p2_ne (by decide)) (p2_row (by decide)) (p2_row (by decide)) (p2_row (by decide))) (p2_ne (by decide)) (fun c h1 h2 => p2_ne (by omega)), CBq_I (CBq_d b2 hq (p2_row (by decide))) (by rw [p2_ne (by decide)]) (fun c h1 => p2_ne (by omega)), ⟨p2_same, ⟨p2_same, by omega, fun i hi => ?_⟩, fun i hi => ?_⟩, CBe_I (CBe_d b4 (p2_ne (by decide)) (p2_ne (by decide)) (p2_ne (by decide)) (p2_row (by decide))) (by rw [p2_ne (by decide)]) (fun c h1 h2 => p2_ne (by omega)), ?_⟩, SWC_I (ag_SWC hq hn hS) (fun q h => by rw [ag_nsq (hq q h)]; exact hn q h) (fun c hc => p2_ne (by omega)), JCH_I (JCH_d hJ ⟨hq, p2_ne (by decide), p2_ne (by decide), p2_ne (by decide), p2_ne (by decide), p2_ne (by decide), p2_row (by decide), p2_row (by decide)⟩ hn) (by rw [p2_ne (by decide)]; exact ⟨rfl, rfl⟩) (fun c hc => p2_ne (by omega))⟩
  · rw [p2_ne (by decide), p2_ne (by decide), p2_ne (by decide)]; exact t2.2.2 i (by omega)
  · rw [p2_ne (by decide), p2_ne (by decide)]; exact t3 i (by omega)
  · have := CBs_d b5 (D' := p2 (p2 D 0 0 0) 0 27 (nI m)) (p2_ne (by decide)) (p2_row (by decide)) (p2_row (by decide)) (p2_row (by decide)) (p2_ne (by decide)) (p2_ne (by decide))
    unfold CBs at this ⊢
    rw [p2_ne (show (24 : Nat) ≠ 1 by decide), p2_ne (show (0 : Nat) ≠ 1 by decide)]
    exact this
end
