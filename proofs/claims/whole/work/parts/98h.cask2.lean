section
variable {D D' Q : Mem} {nA nQ nE nT nw nc q a b s p k l ns fb pf m nK c : Nat} {R : RMem} {I I' : Mem} {z : Int64} {t v w u x y : Int32} {post : Int32 → Pool → Prop} {pst : Pool → Prop} {pox : String → Pool → Prop} {g : Nat → Nat} {S : Pool}
theorem CI_ask0 (hC : CI D nA nQ nE nT nw nc R I) (hr : ∀ c, c ∈ [3, 6, 7, 8, 9, 10, 23, 24, 25] → D' c = D c) (hq : ∀ q, q < nQ → AGQ D D' q) (h0 : ∀ k, k ∈ [1, 2, 4, 5, 11, 22] → D' 0 k = D 0 k) (h27 : D' 0 27 = 0) (hbz : BZ D') (hI : ∀ c, c ≠ 0 → c ≠ 1 → c ≠ 3 → ¬ (2000 + 8 * (nQ + 1) ≤ c ∧ c < 2000 + 8 * (nQ + 1) + 8) → I' c = I c) (hI0 : ∀ k, k ≠ 13 → I' 0 k = I 0 k) (h13 : I' 0 13 = D' 0 30) (h11 : I' 1 1 = 0) : CI D' nA nQ nE 0 nw nc R I' := by
  have hn := CB_ns hC.1
  have h8 := hC.1.2.1.1
  have hA := hC.1.1.1.1
  obtain ⟨⟨b1, b2, b3, b4, b5⟩, hS, hJ⟩ := hC
  refine ⟨⟨CBa_I (CBa_d b1 (hr 6 (by decide)) (hr 7 (by decide)) (hr 8 (by decide)) (hr 9 (by decide)) (hr 10 (by decide)) (h0 4 (by decide)) (h0 1 (by decide)) (h0 5 (by decide))) (hI 4 (by decide) (by decide) (by decide) (by omega)) (fun c h1 h2 => hI c (by omega) (by omega) (by omega) (by omega)), ?_, ⟨h27, ⟨h11, by omega, fun i hi => by omega⟩, fun i hi => by omega⟩, CBe_I (CBe_d b4 (hr 23 (by decide)) (hr 24 (by decide)) (hr 25 (by decide)) (h0 22 (by decide))) (hI0 10 (by decide)) (fun c h1 h2 => hI c (by omega) (by omega) (by omega) (by omega)), ?_⟩, SWC_I (ag_SWC hq hn hS) (fun q h => by rw [ag_nsq (hq q h)]; exact hn q h) (fun c h => hI c (by omega) (by omega) (by omega) (by omega)), JCH_I (JCH_d hJ ⟨hq, hr 7 (by decide), hr 8 (by decide), hr 23 (by decide), hr 24 (by decide), hr 25 (by decide), h0 1 (by decide), h0 2 (by decide)⟩ hn) ⟨hI0 14 (by decide), hI0 15 (by decide)⟩ (fun c h => hI c (by omega) (by omega) (by omega) (by omega))⟩
  · obtain ⟨q1, q2, q3, q4, q5, q6, q7⟩ := CBq_d b2 hq (h0 11 (by decide))
    refine ⟨q1, q2, fun q h => ?_, q4, q5, q6, by rw [hI0 9 (by decide)]; exact q7⟩
    obtain ⟨fb, pf, l, x1, x2⟩ := q3 q h
    have hns : nsq D' q ≤ 6 := x1.1.2.2.2.1
    refine ⟨fb, pf, l, x1, ?_⟩
    unfold QC at x2 ⊢
    rw [hI (2000 + 8 * (1 + q)) (by omega) (by omega) (by omega) (by omega)]
    refine ⟨x2.1, x2.2.1, x2.2.2.1, x2.2.2.2.1, x2.2.2.2.2.1, fun s hs => ?_⟩
    rw [hI (2000 + 8 * (1 + q) + 2 + s) (by omega) (by omega) (by omega) (by omega)]
    exact x2.2.2.2.2.2 s hs
  · obtain ⟨s1, s2, s3, s4, s5, s6⟩ := b5
    refine ⟨fun h hh => ?_, ?_, ?_, h13, ?_, hbz⟩
    · rw [hI 24 (by decide) (by decide) (by decide) (by omega), hr 3 (by decide)]; exact s1 h hh
    · rw [hI0 11 (by decide), h0 1 (by decide)]; exact s2
    · rw [hI0 12 (by decide), h0 2 (by decide)]; exact s3
    · rw [h0 2 (by decide)]; exact s5
theorem PR_ag (h : PR (aX D nT) D') : (∀ c, c ∈ [3, 6, 7, 8, 9, 10, 23, 24, 25, 26] → D' c = D c) ∧ (∀ q, q < 8 → AGQ D D' q) ∧ (∀ k, k ∈ [1, 2, 4, 5, 11, 22] → D' 0 k = D 0 k) ∧ D' 0 27 = 0 ∧ (BZ D → BZ D') := by
  have rows : ∀ c, c ∈ [3, 6, 7, 8, 9, 10, 23, 24, 25, 26] → D' c = D c := fun c hc => by
    have h1 : D' c = aX D nT c := PR_row h fun k => by revert hc; simp [sl]; omega
    rw [h1, aX_c (by revert hc; simp; omega)]
  have at' : ∀ c k, c ≠ 0 → sl c k = false → D' c k = D c k := fun c k hc hs => by rw [h.1 c k hs, aX_c hc]
  refine ⟨rows, fun q hq => ⟨rows 6 (by decide), rows 7 (by decide), rows 8 (by decide), rows 9 (by decide), at' 12 q (by decide) (by simp [sl]; omega), at' 13 q (by decide) (by simp [sl]; omega), at' 19 q (by decide) (by simp [sl]; omega), at' 20 q (by decide) (by simp [sl]; omega), at' 21 q (by decide) (by simp [sl]; omega), fun s hs => ⟨at' 14 _ (by decide) (by simp [sl]; omega), at' 15 _ (by decide) (by simp [sl]; omega), fun f hf => at' 16 _ (by decide) (by simp [sl]; omega), at' 17 _ (by decide) (by simp [sl]; omega), at' 18 _ (by decide) (by simp [sl]; omega)⟩⟩, fun k hk => ?_, ?_, fun hb s hs => ?_⟩
  · rw [h.1 0 k (by revert hk; simp [sl]; omega), aX_0 (by revert hk; simp; omega)]
  · rw [h.1 0 27 (by decide)]
    unfold aX aB
    simp (disch := first | decide | omega) only [p2_row, p2_same]
  · have hbb : BB (aX D nT) := fun c k h1 h2 h3 => by
      obtain ⟨j, hj, rfl⟩ : ∃ j, j < 6 ∧ k = 48 + j := ⟨k - 48, by omega, by omega⟩
      rw [aX_c (by omega)]
      rcases h1 with rfl | rfl
      · exact (hb j hj).1
      · exact (hb j hj).2
    exact ⟨h.2 hbb 14 (48 + s) (.inl rfl) (by omega) (by omega), h.2 hbb 17 (48 + s) (.inr rfl) (by omega) (by omega)⟩
theorem p00_ag {e : Int32} (hr : (∀ c, c ∈ [3, 6, 7, 8, 9, 10, 23, 24, 25, 26] → D' c = D c) ∧ (∀ q, q < 8 → AGQ D D' q) ∧ (∀ k, k ∈ [1, 2, 4, 5, 11, 22] → D' 0 k = D 0 k) ∧ D' 0 27 = 0 ∧ (BZ D → BZ D')) (hk : k ∉ [1, 2, 4, 5, 11, 22, 27]) : (∀ c, c ∈ [3, 6, 7, 8, 9, 10, 23, 24, 25, 26] → p2 D' 0 k e c = D c) ∧ (∀ q, q < 8 → AGQ D (p2 D' 0 k e) q) ∧ (∀ j, j ∈ [1, 2, 4, 5, 11, 22] → p2 D' 0 k e 0 j = D 0 j) ∧ p2 D' 0 k e 0 27 = 0 ∧ (BZ D → BZ (p2 D' 0 k e)) := by
  obtain ⟨h1, h2, h3, h4, h5⟩ := hr
  have nz : ∀ c, c ≠ 0 → p2 D' 0 k e c = D' c := fun c hc => p2_ne hc
  refine ⟨fun c hc => by rw [nz c (by revert hc; simp; omega)]; exact h1 c hc, fun q hq => ?_, fun j hj => ?_, ?_, fun hb => ?_⟩
  · obtain ⟨x6, x7, x8, x9, x12, x13, x19, x20, x21, xs⟩ := h2 q hq
    unfold AGQ
    rw [nz 6 (by decide), nz 7 (by decide), nz 8 (by decide), nz 9 (by decide), nz 12 (by decide), nz 13 (by decide), nz 14 (by decide), nz 15 (by decide), nz 16 (by decide), nz 17 (by decide), nz 18 (by decide), nz 19 (by decide), nz 20 (by decide), nz 21 (by decide)]
    exact ⟨x6, x7, x8, x9, x12, x13, x19, x20, x21, xs⟩
  · rw [p2_row (fun z => hk (by rw [← z]; revert hj; simp; omega))]; exact h3 j hj
  · rw [p2_row (fun z => hk (by rw [← z]; simp))]; exact h4
  · have := h5 hb
    unfold BZ at this ⊢
    rw [nz 14 (by decide), nz 17 (by decide)]
    exact this
theorem bfr_ex (h : D 14 (6 * q) = 0) : ∀ n, 0 < n → ∃ l, bfr D q n = some l := by
  intro n
  induction n with
  | zero => intro h; omega
  | succ n ih =>
    intro _
    unfold bfr
    by_cases e : D 14 (6 * q + n) = 0
    · exact ⟨n, if_pos e⟩
    · rw [if_neg e]
      by_cases e2 : n = 0
      · subst e2; exact absurd h e
      · exact ih (by omega)
theorem pnd_18 : ∀ n l, pnd Q false n = false → (∀ j, l < j → j < n → ¬ Q 14 (48 + j) = 0) → ∀ j, l < j → j < n → ¬ Q 18 (48 + j) = -1 := by
  intro n
  induction n with
  | zero => intro l _ _ j _ hj; omega
  | succ n ih =>
    intro l h hs j h1 h2
    rw [pnd_s] at h
    have hn := hs n (by omega) (by omega)
    have hd : decide (¬ Q 14 (48 + n) = 0) = true := decide_eq_true hn
    rw [hd, Bool.true_and, Bool.or_eq_false_iff] at h
    by_cases e : j = n
    · subst e
      intro z
      have h3 := h.1
      simp [z] at h3
    · exact ih l h.2 (fun i a b => hs i a (by omega)) j h1 (by omega)
/-- the question told is one of D's -/
theorem CI_ask1 {R' : RMem} {J : Mem} {aa : Nat} {mm : Int32} (hC : CI D nA nQ nE nT nw nc R I) (h8 : nQ < 8) (hw : QW Q) (hP : PR (aX D nT) Q) (hK : AK (st Q aa mm) J nQ) (hm : Q 13 8 = nI m) (hm6 : m ≤ 6) (hQC : QC Q 8 m I' (1 + nQ)) (hI : ∀ c, c ≠ 0 → c ≠ 1 → c ≠ 3 → ¬ (2000 + 8 * (nQ + 1) ≤ c ∧ c < 2000 + 8 * (nQ + 1) + 16) → I' c = I c) (hI0 : ∀ k, k ≠ 13 → k ≠ 9 → k ≠ 14 → I' 0 k = I 0 k) (h13 : I' 0 13 = -1) (h9 : I' 0 9 = nI (nQ + 1)) (h14 : I' 0 14 = nI (nc + 1)) (h11 : I' 1 1 = 0) (hQ30 : Q 0 30 = -1) (hR : ∀ c, c ≠ 0 → c ≠ 23 → R' c = R c) (hR0 : R' 0 8 = some (2000 + 8 * (nQ + 2))) (hR23 : ∀ k, R' 23 k = if k = nQ then some (2000 + 8 * (1 + nQ)) else R 23 k) : CI J nA (nQ + 1) nE 0 nw (nc + 1) R' I' := by
  obtain ⟨g1, g2, g3, g4, g5⟩ := PR_ag hP
  obtain ⟨k1, k2, k3, k4, k5⟩ := hK
  have kc : ∀ c, c ≠ 0 → c ∉ [12, 13, 14, 15, 16, 17, 18, 19, 20, 21] → J c = Q c := fun c h0 h1 => by
    funext k
    rw [k5 c k (fun e => h0 e.1) (fun e => h1 (by revert e; simp; omega)) (fun e => h1 (by revert e; simp; omega)) (fun e => h1 (by rw [e.1]; decide)), st_c h0]
  have k0 : ∀ k, k ≠ 11 → k ≠ 29 → k ≠ 31 → J 0 k = Q 0 k := fun k h1 h2 h3 => by
    rw [k5 0 k (fun e => h1 e.2) (fun e => by simp at e) (fun e => by simp at e) (fun e => by simp at e), st_0 h2 h3]
  have hqJ : ∀ q, q < nQ → AGQ D J q := fun q hq => by
    obtain ⟨x6, x7, x8, x9, x12, x13, x19, x20, x21, xs⟩ := g2 q (by omega)
    have one : ∀ c, c ∈ [12, 13, 19, 20, 21] → J c q = Q c q := fun c hc => by
      rw [k5 c q (fun e => by rw [e.1] at hc; simp at hc) (fun e => by omega) (fun e => by have := e.1; revert hc this; simp; omega) (fun e => by rw [e.1] at hc; simp at hc), st_c (fun e => by rw [e] at hc; simp at hc)]
    have two : ∀ c s, c ∈ [14, 15, 17, 18] → s < 6 → J c (6 * q + s) = Q c (6 * q + s) := fun c s hc hs => by
      rw [k5 c _ (fun e => by rw [e.1] at hc; simp at hc) (fun e => by have := e.1; revert hc this; simp; omega) (fun e => by omega) (fun e => by rw [e.1] at hc; simp at hc), st_c (fun e => by rw [e] at hc; simp at hc)]
    have three : ∀ s f, s < 6 → f < 3 → J 16 (3 * (6 * q + s) + f) = Q 16 (3 * (6 * q + s) + f) := fun s f hs hf => by
      rw [k5 16 _ (fun e => by simp at e) (fun e => by simp at e) (fun e => by simp at e) (fun e => by omega), st_c (by decide)]
    refine ⟨by rw [kc 6 (by decide) (by decide)]; exact x6, by rw [kc 7 (by decide) (by decide)]; exact x7, by rw [kc 8 (by decide) (by decide)]; exact x8, by rw [kc 9 (by decide) (by decide)]; exact x9, by rw [one 12 (by decide)]; exact x12, by rw [one 13 (by decide)]; exact x13, by rw [one 19 (by decide)]; exact x19, by rw [one 20 (by decide)]; exact x20, by rw [one 21 (by decide)]; exact x21, fun s hs => ?_⟩
    obtain ⟨y1, y2, y3, y4, y5⟩ := xs s hs
    exact ⟨by rw [two 14 s (by decide) hs]; exact y1, by rw [two 15 s (by decide) hs]; exact y2, fun f hf => by rw [three s f hs hf]; exact y3 f hf, by rw [two 17 s (by decide) hs]; exact y4, by rw [two 18 s (by decide) hs]; exact y5⟩
  have rowJ : ∀ c, c ∈ [3, 6, 7, 8, 9, 10, 23, 24, 25, 26] → J c = D c := fun c hc => by
    rw [kc c (by revert hc; simp; omega) (by revert hc; simp; omega)]; exact g1 c hc
  have zJ : ∀ k, k ∈ [1, 2, 4, 5, 22] → J 0 k = D 0 k := fun k hk => by
    rw [k0 k (by revert hk; simp; omega) (by revert hk; simp; omega) (by revert hk; simp; omega)]; exact g3 k (by revert hk; simp; omega)
  have hn := CB_ns hC.1
  have hA := hC.1.1.1.1
  obtain ⟨⟨b1, b2, b3, b4, b5⟩, hS, hJc⟩ := hC
  -- the new question's rows
  have j2 : ∀ c, c ∈ [12, 13, 19, 20, 21] → J c nQ = Q c 8 := fun c hc => by rw [k2 c hc, st_c (fun e => by rw [e] at hc; simp at hc)]
  have j3 : ∀ s, s < 6 → ∀ c, c ∈ [14, 15, 17, 18] → J c (6 * nQ + s) = Q c (48 + s) := fun s hs c hc => by rw [k3 s hs c hc, st_c (fun e => by rw [e] at hc; simp at hc)]
  have j4 : ∀ s f, s < 6 → f < 3 → J 16 (3 * (6 * nQ + s) + f) = Q 16 (3 * (48 + s) + f) := fun s f hs hf => by rw [k4 s f hs hf, st_c (by decide)]
  obtain ⟨⟨b, w1, w2⟩, ⟨ns, w3, w4, w5, w6, w7⟩, w8, w9⟩ := hw
  have em : m = ns := by rw [hm, ieq (by omega) (by omega)] at w3; exact w3
  subst em
  have hrk : ∀ s, s ≤ 6 → rk J nQ s = rk Q 8 s := fun s hs => cnt_cong fun i hi => by rw [j3 i (by omega) 14 (by decide)]
  have hbf : ∀ s, s ≤ 6 → bfr J nQ s = bfr Q 8 s := by
    intro s
    induction s with
    | zero => intro _; rfl
    | succ s ih =>
      intro hs
      unfold bfr
      rw [j3 s (by omega) 14 (by decide), ih (by omega)]
  have q140 : Q 14 (48 + 0) = 0 := ((w6 0 (by omega)).2.2.2.2.2.2 rfl).1
  obtain ⟨l, hl⟩ := bfr_ex (D := Q) (q := 8) q140 m (by omega)
  have hns : nsq J nQ = m := by unfold nsq; rw [j2 13 (by decide), hm, nI_clamp (by omega)]
  obtain ⟨pf, hpf3, hpf⟩ : ∃ pf, pf < 3 ∧ (Q 19 8 = -1 ∨ ∃ w, Q 19 8 = nI pf ∧ Q 21 8 = nI w ∧ w ≤ 100000) := by
    rcases w8 with e | ⟨f, k, w, e1, e2, e3, e4, e5, e6, e7, e8⟩
    · exact ⟨0, by decide, .inl e⟩
    · exact ⟨f, e2, .inr ⟨w, e1, e6, e8⟩⟩
  have hQVn : QV J nA nQ b m pf l := by
    refine ⟨⟨by omega, w2, by rw [j2 12 (by decide)]; exact w1, hm6, by rw [j2 13 (by decide)]; exact hm, ?_, hpf3, fun c f hc hf => ?_⟩, by rw [hbf m hm6]; exact hl, ?_, fun s hs => ?_, fun n h1 h2 => ?_, ?_⟩
    · rw [j2 19 (by decide)]; exact hpf.imp id fun ⟨w, e, _⟩ => e
    · have := (b1.1.2.2 c hc).2.2.2.2.1 f hf
      rw [rowJ 7 (by decide)]
      exact ⟨_, this.2, this.1⟩
    · have := j3 0 (by omega) 14 (by decide)
      rw [Nat.add_zero] at this
      rw [this]; exact q140
    · obtain ⟨s1, s2, s3, s4, s5, s6, s7⟩ := w6 s hs
      rw [j3 s (by omega) 14 (by decide), j3 s (by omega) 17 (by decide), j3 s (by omega) 18 (by decide)]
      exact ⟨s1, s5, s6.imp id fun ⟨w, a1, a2, a3⟩ => ⟨w, a1, a3⟩⟩
    · rw [j3 n (by omega) 18 (by decide)]
      exact pnd_18 m l w7 (fun j a1 a2 => bfr_between hl j a1 a2) n h1 h2
    · rw [j2 19 (by decide), j2 21 (by decide)]; exact hpf
  have hQCn : QC J nQ m I' (1 + nQ) := by
    unfold QC at hQC ⊢
    rw [hrk m hm6, j2 12 (by decide), j2 19 (by decide), j2 20 (by decide), j2 21 (by decide)]
    refine ⟨hQC.1, hQC.2.1, hQC.2.2.1, hQC.2.2.2.1, hQC.2.2.2.2.1, fun s hs => ?_⟩
    rw [hrk s (by omega), j3 s (by omega) 14 (by decide), j3 s (by omega) 15 (by decide), j3 s (by omega) 17 (by decide), j3 s (by omega) 18 (by decide)]
    obtain ⟨y1, y2, y3⟩ := hQC.2.2.2.2.2 s hs
    exact ⟨y1, fun f hf => by rw [j4 s f (by omega) hf]; exact y2 f hf, y3⟩
  refine ⟨⟨?_, ⟨by omega, k1, fun q hq => ?_, fun q hq => ?_, fun q h1 h2 => ?_, hR0, h9⟩, ⟨?_, ⟨h11, by omega, fun i hi => by omega⟩, fun i hi => by omega⟩, CBe_I (CBe_d b4 (rowJ 23 (by decide)) (rowJ 24 (by decide)) (rowJ 25 (by decide)) (zJ 22 (by decide))) (hI0 10 (by decide) (by decide) (by decide)) (fun c h1 h2 => hI c (by omega) (by omega) (by omega) (by omega)), ?_⟩, ?_, JCH_up hJc h14 (hI0 15 (by decide) (by decide) (by decide))⟩
  · obtain ⟨a1, a2, a3, a4, a5, a6⟩ := CBa_I (CBa_d b1 (rowJ 6 (by decide)) (rowJ 7 (by decide)) (rowJ 8 (by decide)) (rowJ 9 (by decide)) (rowJ 10 (by decide)) (zJ 4 (by decide)) (zJ 1 (by decide)) (zJ 5 (by decide))) (hI 4 (by decide) (by decide) (by decide) (by omega)) (fun c h1 h2 => hI c (by omega) (by omega) (by omega) (by omega))
    refine ⟨a1, a2, a3, fun i hi => ?_, fun k hk => ?_, a6⟩
    · rw [hR 5 (by decide) (by decide)]; exact a4 i hi
    · rw [hR 6 (by decide) (by decide)]; exact a5 k hk
  · by_cases e : q = nQ
    · subst e; rw [hns]; exact ⟨b, pf, l, hQVn, hQCn⟩
    · have hq' : q < nQ := by omega
      obtain ⟨fb, pf, l, x1, x2⟩ := b2.2.2.1 q hq'
      have hns6 : nsq D q ≤ 6 := x1.1.2.2.2.1
      rw [ag_nsq (hqJ q hq')]
      refine ⟨fb, pf, l, ag_QV (hqJ q hq') x1, ?_⟩
      have x3 := ag_QC (hqJ q hq') hns6 x2
      unfold QC at x3 ⊢
      rw [hI (2000 + 8 * (1 + q)) (by omega) (by omega) (by omega) (by omega)]
      refine ⟨x3.1, x3.2.1, x3.2.2.1, x3.2.2.2.1, x3.2.2.2.2.1, fun s hs => ?_⟩
      rw [hI (2000 + 8 * (1 + q) + 2 + s) (by omega) (by omega) (by omega) (by omega)]
      exact x3.2.2.2.2.2 s hs
  · rw [hR23 q]
    by_cases e : q = nQ
    · rw [if_pos e, e]
    · rw [if_neg e]; exact b2.2.2.2.1 q (by omega)
  · rw [hR23 q, if_neg (by omega)]; exact b2.2.2.2.2.1 q (by omega) h2
  · rw [k0 27 (by decide) (by decide) (by decide), g4]; rfl
  · obtain ⟨s1, s2, s3, s4, s5, s6⟩ := b5
    refine ⟨fun h hh => ?_, ?_, ?_, ?_, ?_, fun s hs => ?_⟩
    · rw [hI 24 (by decide) (by decide) (by decide) (by omega), rowJ 3 (by decide)]; exact s1 h hh
    · rw [hI0 11 (by decide) (by decide) (by decide), zJ 1 (by decide)]; exact s2
    · rw [hI0 12 (by decide) (by decide) (by decide), zJ 2 (by decide)]; exact s3
    · rw [h13, k0 30 (by decide) (by decide) (by decide), hQ30]
    · rw [zJ 2 (by decide)]; exact s5
    · have := w9 s hs
      have e14 : J 14 (48 + s) = Q 14 (48 + s) := by rw [k5 14 _ (fun e => by simp at e) (fun e => by simp at e) (fun e => by omega) (fun e => by simp at e), st_c (by decide)]
      have e17 : J 17 (48 + s) = Q 17 (48 + s) := by rw [k5 17 _ (fun e => by simp at e) (fun e => by simp at e) (fun e => by omega) (fun e => by simp at e), st_c (by decide)]
      rw [e14, e17]; exact this
  · have h1 := ag_SWC hqJ hn hS
    have h2 := SWC_cg (I' := I') (R' := R') h1 (fun q h => by rw [ag_nsq (hqJ q h)]; exact hn q h) (hI 7 (by decide) (by decide) (by decide) (by omega)) (hI 10 (by decide) (by decide) (by decide) (by omega)) (fun c a1 a2 => hI c (by omega) (by omega) (by omega) (by omega)) (hR 7 (by decide) (by decide)) (hR 8 (by decide) (by decide))
    exact ⟨h2.1, h2.2.imp id fun ⟨q, x1, x2⟩ => ⟨q, by omega, x2⟩⟩
end
