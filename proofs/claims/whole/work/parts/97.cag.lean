/-! ===== what does not hang on the rest of the rows ===== -/
def AGQ (D D' : Mem) (q : Nat) : Prop := D' 6 = D 6 ∧ D' 7 = D 7 ∧ D' 8 = D 8 ∧ D' 9 = D 9 ∧ D' 12 q = D 12 q ∧ D' 13 q = D 13 q ∧ D' 19 q = D 19 q ∧ D' 20 q = D 20 q ∧ D' 21 q = D 21 q ∧ ∀ s, s < 6 → D' 14 (6 * q + s) = D 14 (6 * q + s) ∧ D' 15 (6 * q + s) = D 15 (6 * q + s) ∧ (∀ f, f < 3 → D' 16 (3 * (6 * q + s) + f) = D 16 (3 * (6 * q + s) + f)) ∧ D' 17 (6 * q + s) = D 17 (6 * q + s) ∧ D' 18 (6 * q + s) = D 18 (6 * q + s)
section
variable {D D' : Mem} {nA nQ nE nT nw nc q a b s p k l ns fb pf : Nat} {R : RMem} {I : Mem} {t v : Int32}
theorem ag_FT0 (h : AGQ D D' q) (hs : s < 6) : FT0 D' q s a = FT0 D q s a := by
  obtain ⟨h6, h7, h8, h9, h12, h13, h19, h20, h21, hr⟩ := h
  obtain ⟨r14, r15, r16, r17, r18⟩ := hr s hs
  unfold FT0
  rw [h6, h7, r15]
  refine propext (and_congr Iff.rfl ⟨fun z f hf => ?_, fun z f hf => ?_⟩)
  · rw [← r16 f hf]; exact z f hf
  · rw [r16 f hf]; exact z f hf
theorem ag_FT (h : AGQ D D' q) (hs : s < 6) : FT D' nA t q s a = FT D nA t q s a := by
  have h0 := ag_FT0 (a := a) h hs
  obtain ⟨h6, h7, h8, h9, h12, h13, h19, h20, h21, hr⟩ := h
  obtain ⟨r14, r15, r16, r17, r18⟩ := hr s hs
  unfold FT alk
  rw [h0, h6, h7, h8, h9, r17]
theorem ag_vl (h : AGQ D D' q) : vl D' q a = vl D q a := by
  unfold vl
  rw [h.2.1, h.2.2.2.2.1]
theorem ag_LD (h : AGQ D D' q) (hs : s < 6) : LD D' nA t q p a s b = LD D nA t q p a s b := by
  have hv : ∀ a, vl D' q a = vl D q a := fun a => ag_vl h
  have hF : ∀ n c, n < 6 → FT D' nA t q n c = FT D nA t q n c := fun n c hn => ag_FT h hn
  have h8 := h.2.2.1
  obtain ⟨r14, r15, r16, r17, r18⟩ := h.2.2.2.2.2.2.2.2.2 s hs
  unfold LD
  rw [hv, hv, h8, r18]
  refine propext (and_congr Iff.rfl (and_congr Iff.rfl (and_congr Iff.rfl ⟨fun z n h1 h2 c hc y => ?_, fun z n h1 h2 c hc y => ?_⟩)))
  · refine z n h1 h2 c hc ?_
    rw [hF n c (by omega), hv]; exact y
  · refine z n h1 h2 c hc ?_
    rw [hF n c (by omega), hv] at y; exact y
theorem ag_bfr (h : AGQ D D' q) : ∀ {s}, s ≤ 6 → bfr D' q s = bfr D q s := by
  intro s
  induction s with
  | zero => intro _; rfl
  | succ s ih =>
    intro hs
    unfold bfr
    rw [(h.2.2.2.2.2.2.2.2.2 s (by omega)).1, ih (by omega)]
theorem ag_rk (h : AGQ D D' q) (hs : s ≤ 6) : rk D' q s = rk D q s := cnt_cong fun j hj => by rw [(h.2.2.2.2.2.2.2.2.2 j (by omega)).1]
theorem ag_ET (h : AGQ D D' q) : ∀ {k}, k ≤ 6 → ∀ s b, ET D' nA t q k s b = ET D nA t q k s b := by
  intro k
  induction k with
  | zero => intro _ s b; rfl
  | succ k ih =>
    intro hk s b
    have ih := ih (by omega)
    rw [ET, ET]
    show (if s = k then _ else ET D' nA t q k s b) = (if s = k then _ else ET D nA t q k s b)
    rw [(h.2.2.2.2.2.2.2.2.2 k (by omega)).1, ag_FT h (by omega), ag_bfr h (by omega), ih]
    have e : (∀ p, bfr D q k = some p → ∃ a, a < nA ∧ ET D' nA t q k p a ∧ LD D' nA t q p a k b) = (∀ p, bfr D q k = some p → ∃ a, a < nA ∧ ET D nA t q k p a ∧ LD D nA t q p a k b) := by
      refine propext ⟨fun z p hp => ?_, fun z p hp => ?_⟩
      · obtain ⟨a, a1, a2, a3⟩ := z p hp
        rw [ih] at a2
        rw [ag_LD h (by omega)] at a3
        exact ⟨a, a1, a2, a3⟩
      · obtain ⟨a, a1, a2, a3⟩ := z p hp
        rw [← ih] at a2
        rw [← ag_LD h (by omega)] at a3
        exact ⟨a, a1, a2, a3⟩
    rw [e]
theorem ag_EN (h : AGQ D D' q) (hs : s < 6) : EN D' nA t q s a = EN D nA t q s a := ag_ET h (by omega) s a
theorem ag_QB (h : AGQ D D' q) (hn : nsq D q ≤ 6) : QB D' nA t q l a = QB D nA t q l a := by
  have hv : ∀ a, vl D' q a = vl D q a := fun a => ag_vl h
  unfold QB
  rw [h.2.2.2.2.2.1, h.2.2.1]
  refine propext ⟨fun z n h1 h2 => ?_, fun z n h1 h2 => ?_⟩
  · obtain ⟨z1, z2⟩ := z n h1 h2
    have hn6 : n < 6 := by unfold nsq at hn; omega
    rw [(h.2.2.2.2.2.2.2.2.2 n hn6).2.2.2.2] at z1 z2
    refine ⟨z1, fun c hc y => z2 c hc ?_⟩
    rw [ag_FT h hn6, hv, hv]; exact y
  · obtain ⟨z1, z2⟩ := z n h1 h2
    have hn6 : n < 6 := by unfold nsq at hn; omega
    rw [(h.2.2.2.2.2.2.2.2.2 n hn6).2.2.2.2]
    refine ⟨z1, fun c hc y => z2 c hc ?_⟩
    rw [ag_FT h hn6, hv, hv] at y; exact y
theorem ag_SP (h : AGQ D D' q) (hl : l < 6) : SP D' nA t q l a = SP D nA t q l a := by
  have hv : ∀ a, vl D' q a = vl D q a := fun a => ag_vl h
  have hS : ∀ c, SPc D' nA t q l a c = SPc D nA t q l a c := fun c => by
    unfold SPc
    rw [ag_FT h hl, hv, hv, h.2.2.1, h.2.2.2.2.2.2.2.2.1]
  unfold SP
  rw [h.2.2.2.2.2.2.1, h.2.2.2.2.2.2.2.1, h.2.1]
  have e : cnt (fun v => ∃ c, c < nA ∧ SPc D' nA t q l a c ∧ D 7 (3 * c + (D 19 q).toNatClampNeg) = nI v) 31 = cnt (fun v => ∃ c, c < nA ∧ SPc D nA t q l a c ∧ D 7 (3 * c + (D 19 q).toNatClampNeg) = nI v) 31 := cnt_cong fun v _ => ⟨fun ⟨c, h1, h2, h3⟩ => ⟨c, h1, (hS c) ▸ h2, h3⟩, fun ⟨c, h1, h2, h3⟩ => ⟨c, h1, (hS c).symm ▸ h2, h3⟩⟩
  rw [e]
theorem ag_FD (h : AGQ D D' q) (hn : nsq D q ≤ 6) : FD D' nA t q a = FD D nA t q a := by
  unfold FD
  rw [h.2.2.2.2.2.1]
  refine propext ⟨fun ⟨l, h1, h2, h3, h4⟩ => ?_, fun ⟨l, h1, h2, h3, h4⟩ => ?_⟩
  · rw [ag_bfr h (show (D 13 q).toNatClampNeg ≤ 6 from hn)] at h1
    have hl := (bfr_lt h1).1
    unfold nsq at hn
    rw [ag_EN h (by omega)] at h2
    rw [ag_QB h (by unfold nsq; omega)] at h3
    rw [ag_SP h (by omega)] at h4
    exact ⟨l, h1, h2, h3, h4⟩
  · have hl := (bfr_lt h1).1
    unfold nsq at hn
    refine ⟨l, ?_, ?_, ?_, ?_⟩
    · rw [ag_bfr h hn]; exact h1
    · rw [ag_EN h (by omega)]; exact h2
    · rw [ag_QB h (by unfold nsq; omega)]; exact h3
    · rw [ag_SP h (by omega)]; exact h4
theorem ag_byT (h8 : D' 8 = D 8) : ∀ n, byT D' n = byT D n := by
  intro n
  induction n with
  | zero => rfl
  | succ n ih => unfold byT insT; rw [ih, h8]
theorem ag_FL (h : AGQ D D' q) (hn : nsq D q ≤ 6) (n : Nat) : FL D' nA t q n = FL D nA t q n := by
  unfold FL
  rw [ag_byT h.2.2.1]
  congr 1
  funext a
  exact ag_FD h hn
theorem ag_BV (h : AGQ D D' q) (hs : s < 6) : BV D' nA t q s a v = BV D nA t q s a v := by
  unfold BV
  rw [ag_EN h hs, ag_bfr h (by omega)]
  refine propext (or_congr Iff.rfl (and_congr Iff.rfl (or_congr Iff.rfl ⟨fun ⟨p, x, h1, h2, h3⟩ => ⟨p, x, h1, ?_, h3⟩, fun ⟨p, x, h1, h2, h3⟩ => ⟨p, x, h1, ?_, h3⟩⟩)))
  · have hp := (bfr_lt h1).1
    obtain ⟨b1, b2, b3, b4⟩ := h2
    rw [ag_EN h (by omega)] at b2
    rw [ag_LD h hs] at b3
    refine ⟨b1, b2, b3, fun c c1 c2 c3 => ?_⟩
    rw [← h.2.2.1]
    exact b4 c c1 (by rw [ag_EN h (by omega)]; exact c2) (by rw [ag_LD h hs]; exact c3)
  · have hp := (bfr_lt h1).1
    obtain ⟨b1, b2, b3, b4⟩ := h2
    rw [← ag_EN h (by omega)] at b2
    rw [← ag_LD h hs] at b3
    refine ⟨b1, b2, b3, fun c c1 c2 c3 => ?_⟩
    rw [h.2.2.1]
    exact b4 c c1 (by rw [← ag_EN h (by omega)]; exact c2) (by rw [← ag_LD h hs]; exact c3)
theorem ag_nsq (h : AGQ D D' q) : nsq D' q = nsq D q := by unfold nsq; rw [h.2.2.2.2.2.1]
theorem ag_QV (h : AGQ D D' q) (hQ : QV D nA q fb ns pf l) : QV D' nA q fb ns pf l := by
  have hns : ns ≤ 6 := hQ.1.2.2.2.1
  obtain ⟨⟨a1, a2, a3, a4, a5, a6, a7, a8⟩, b1, b2, b3, b4, b5⟩ := hQ
  obtain ⟨h6, h7, h8, h9, h12, h13, h19, h20, h21, hr⟩ := id h
  have hl := (bfr_lt b1).1
  refine ⟨⟨a1, a2, by rw [h12]; exact a3, a4, by rw [h13]; exact a5, by rw [h19]; exact a6, a7, by rw [h7]; exact a8⟩, by rw [ag_bfr h hns]; exact b1, ?_, fun s hs => ?_, fun n h1 h2 => ?_, by rw [h19, h21]; exact b5⟩
  · have := (hr 0 (by omega)).1
    rw [Nat.add_zero] at this
    rw [this]; exact b2
  · obtain ⟨r14, r15, r16, r17, r18⟩ := hr s (by omega)
    rw [r14, r17, r18]; exact b3 s hs
  · rw [(hr n (by omega)).2.2.2.2]; exact b4 n h1 h2
theorem ag_QC (h : AGQ D D' q) (hns : ns ≤ 6) (hQ : QC D q ns I k) : QC D' q ns I k := by
  obtain ⟨h6, h7, h8, h9, h12, h13, h19, h20, h21, hr⟩ := id h
  unfold QC at hQ ⊢
  rw [ag_rk h hns, h12, h19, h20, h21]
  refine ⟨hQ.1, hQ.2.1, hQ.2.2.1, hQ.2.2.2.1, hQ.2.2.2.2.1, fun s hs => ?_⟩
  obtain ⟨r14, r15, r16, r17, r18⟩ := hr s (by omega)
  rw [r14, r15, r17, r18, ag_rk h (by omega)]
  obtain ⟨c1, c2, c3⟩ := hQ.2.2.2.2.2 s hs
  exact ⟨c1, fun f hf => by rw [r16 f hf]; exact c2 f hf, c3⟩
theorem ag_SWR (h : AGQ D D' q) (hns : ns ≤ 6) (hn : nsq D q ≤ 6) (hS : SWR D nA q k ns t R I) : SWR D' nA q k ns t R I := by
  obtain ⟨s1, s2, s3, s4, s5, s6, s7⟩ := hS
  have hr := h.2.2.2.2.2.2.2.2.2
  refine ⟨s1, s2, s3, s4, fun s hs h0 => ?_, fun s hs h0 j hj hk => ?_, by rw [ag_FL h hn]; exact s7⟩
  · have h0 : D 14 (6 * q + s) = 0 := by rw [← (hr s (by omega)).1]; exact h0
    have := s5 s hs h0
    rw [ag_rk h (by omega), this]
    congr 2
    rw [ag_byT h.2.2.1]
    congr 1
    funext a
    exact (ag_FT h (by omega)).symm
  · have h0 : D 14 (6 * q + s) = 0 := by rw [← (hr s (by omega)).1]; exact h0
    have eb : bt D' nA j = bt D nA j := by unfold bt; rw [ag_byT h.2.2.1]
    rw [eb, h.2.2.2.1] at hk
    rw [eb, ag_rk h (by omega), ag_BV h (by omega)]
    exact s6 s hs h0 j hj hk
/-- agreement of all that finds and joins hang on -/
def AGA (D D' : Mem) (nQ : Nat) : Prop := (∀ q, q < nQ → AGQ D D' q) ∧ D' 7 = D 7 ∧ D' 8 = D 8 ∧ D' 23 = D 23 ∧ D' 24 = D 24 ∧ D' 25 = D 25 ∧ D' 0 1 = D 0 1 ∧ D' 0 2 = D 0 2
theorem ag_SWC (h : ∀ q, q < nQ → AGQ D D' q) (hn : ∀ q, q < nQ → nsq D q ≤ 6) (hS : SWC D nA nQ R I) : SWC D' nA nQ R I := by
  refine ⟨hS.1, hS.2.imp id ?_⟩
  rintro ⟨q, h1, h2, h3⟩
  refine ⟨q, h1, h2, fun z => ?_⟩
  rw [ag_nsq (h q h1)]
  exact ag_SWR (h q h1) (hn q h1) (hn q h1) (h3 z)
theorem ag_JVd (h : AGA D D' nQ) (hn : ∀ q, q < nQ → nsq D q ≤ 6) (hJ : JVd D nA nE nQ I) : JVd D' nA nE nQ I := by
  obtain ⟨hq, h7, h8, h23, h24, h25, h01, h02⟩ := h
  have hex : ∀ q a, EXQ D' nE q a = EXQ D nE q a := fun q a => by unfold EXQ; rw [h7, h8, h23, h24, h25]
  have hal : ∀ t n, n ≤ nQ → AL D' D' nA nE t n = AL D D nA nE t n := by
    intro t n
    induction n with
    | zero => intro _; rfl
    | succ n ih =>
      intro hn2
      unfold AL ALq
      rw [ih (by omega), ag_FL (hq n (by omega)) (hn n (by omega))]
      have e : (fun a => @decide (¬ EXQ D' nE n a) (Classical.propDecidable _)) = (fun a => @decide (¬ EXQ D nE n a) (Classical.propDecidable _)) := by
        funext a
        rw [hex n a]
      rw [e]
  have hsf : ∀ t n, n ≤ nQ → sfl D' nA t n = sfl D nA t n := by
    intro t n
    induction n with
    | zero => intro _; rfl
    | succ n ih => intro hn2; unfold sfl; rw [ih (by omega), ag_FL (hq n (by omega)) (hn n (by omega))]
  have hel : ∀ L, EL D' L = EL D L := fun L => by
    funext i j
    unfold EL MT
    rw [h7, h8, h02]
  unfold JVd at hJ ⊢
  rw [h01, hsf _ _ (Nat.le_refl _), hal _ _ (Nat.le_refl _), hel]
  exact hJ
end
