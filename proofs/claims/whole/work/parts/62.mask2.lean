/-! ===== what is read is well formed ===== -/
section
variable {Q R Q' I : Mem} {T : Nat → Int32} {n p p' s d nQ nT : Nat} {m v : Int32} {post : Int32 → Pool → Prop}
theorem num_nI {a b : Nat} (hb : b < 2 ^ 31) (hab : a ≤ b) (h : numS T n p (nI a) (nI b) = some v) : ∃ k, v = nI k ∧ a ≤ k ∧ k ≤ b := by
  unfold numS at h
  split at h
  · cases h
  · rename_i hc
    cases h
    have h1 : ¬ nvS T p (dep T n p - p) < nI a := fun z => hc (.inr (.inr (.inl z)))
    have h2 : ¬ nI b < nvS T p (dep T n p - p) := fun z => hc (.inr (.inr (.inr z)))
    have h3 : ¬ nvS T p (dep T n p - p) < 0 := fun z => h1 (Int32.lt_of_lt_of_le z (nI_pos' (by omega)))
    obtain ⟨j, hj, e⟩ := nI_of h3
    rw [e] at h1 h2
    rw [nI_ltI (by omega) (by omega)] at h1 h2
    exact ⟨j, e, by omega, by omega⟩
def C1 (d : Nat) (Q : Mem) : Prop := ∀ f, f < 3 → Q 16 (3 * d + f) = -1 ∨ ∃ x, Q 16 (3 * d + f) = nI x ∧ x ≤ (if f = 2 then 15 else 30)
theorem cond_ok : ∀ k R p, C1 d R → condS T n d k R p = .inr (Q', p') → C1 d Q' ∧ Q' 14 = R 14 ∧ Q' 15 = R 15 ∧ Q' 17 = R 17 ∧ Q' 18 = R 18 := by
  intro k
  induction k with
  | zero => intro R p h e; unfold condS at e; cases e
  | succ k ih =>
    intro R p h e
    unfold condS at e
    cases hf : fldS T n p with
    | none => rw [hf] at e; cases e; exact ⟨h, rfl, rfl, rfl, rfl⟩
    | some f =>
      have hf3 := fldS_lt hf
      rw [hf] at e
      simp only at e
      split at e
      · cases e
      · cases hn : numS T n (skp T n (wep T n p)) 0 (if f = 2 then 15 else 30) with
        | none => rw [hn] at e; cases e
        | some v =>
          rw [hn] at e
          have hv : ∃ x, v = nI x ∧ x ≤ (if f = 2 then 15 else 30) := by
            by_cases e2 : f = 2
            · rw [if_pos e2] at hn
              obtain ⟨x, h1, _, h2⟩ := num_nI (a := 0) (b := 15) (by decide) (by decide) hn
              exact ⟨x, h1, by rw [if_pos e2]; exact h2⟩
            · rw [if_neg e2] at hn
              obtain ⟨x, h1, _, h2⟩ := num_nI (a := 0) (b := 30) (by decide) (by decide) hn
              exact ⟨x, h1, by rw [if_neg e2]; exact h2⟩
          have hC : C1 d (p2 (p2 R 16 (3 * d + f) v) 0 32 (bitF (R 0 32) f)) := fun g hg => by
            rw [p2_ne (by decide)]
            by_cases e3 : g = f
            · subst e3; rw [p2_same]; exact .inr hv
            · rw [p2_row (by omega)]; exact h g hg
          obtain ⟨a1, a2, a3, a4, a5⟩ := ih _ _ hC e
          rw [p2_ne (by decide), p2_ne (by decide)] at a2 a3 a4 a5
          exact ⟨a1, a2, a3, a4, a5⟩
/-- the step s of the slot 8 is well formed -/
def SW (Q : Mem) (s : Nat) : Prop := (Q 14 (48 + s) = 0 ∨ Q 14 (48 + s) = 1) ∧ (∃ k, Q 15 (48 + s) = nI k ∧ k ≤ 7) ∧ C1 (48 + s) Q ∧ (Q 17 (48 + s) = 0 ∨ Q 17 (48 + s) = 1) ∧ (¬ Q 14 (48 + s) = 0 → Q 17 (48 + s) = 0) ∧ (Q 18 (48 + s) = -1 ∨ ∃ w, Q 18 (48 + s) = nI w ∧ 1 ≤ w ∧ w ≤ 100000) ∧ (s = 0 → Q 14 (48 + s) = 0 ∧ Q 18 (48 + s) = -1)
theorem with_ok (h18 : R 18 d = -1) (e : withS T n s d R p = .inr (Q', p')) : Q' 14 = R 14 ∧ Q' 15 = R 15 ∧ Q' 16 = R 16 ∧ Q' 17 = R 17 ∧ (Q' 18 d = -1 ∨ ∃ w, Q' 18 d = nI w ∧ 1 ≤ w ∧ w ≤ 100000) ∧ (s = 0 → Q' 18 d = -1) := by
  unfold withS at e
  split at e
  · split at e
    · cases e
    · rename_i hs
      cases hn : numS T n (skp T n (wep T n p)) 1 100000 with
      | none => rw [hn] at e; cases e
      | some v =>
        rw [hn] at e
        cases e
        obtain ⟨x, h1, h2, h3⟩ := num_nI (a := 1) (b := 100000) (by decide) (by decide) hn
        exact ⟨p2_ne (by decide), p2_ne (by decide), p2_ne (by decide), p2_ne (by decide), .inr ⟨x, by rw [p2_same]; exact h1, h2, h3⟩, fun z => absurd z hs⟩
  · cases e; exact ⟨rfl, rfl, rfl, rfl, .inl h18, fun _ => h18⟩
theorem tail_ok (h17 : R 17 d = 0) (h18 : R 18 d = -1) (e : tailS T n s d R p = .inr (Q', p')) : Q' 14 = R 14 ∧ Q' 15 = R 15 ∧ Q' 16 = R 16 ∧ (Q' 17 d = 0 ∨ Q' 17 d = 1) ∧ (¬ R 14 d = 0 → Q' 17 d = 0) ∧ (Q' 18 d = -1 ∨ ∃ w, Q' 18 d = nI w ∧ 1 ≤ w ∧ w ≤ 100000) ∧ (s = 0 → Q' 18 d = -1) := by
  unfold tailS at e
  split at e
  · split at e
    · cases e
    · rename_i hc
      obtain ⟨a1, a2, a3, a4, a5, a6⟩ := with_ok (by rw [p2_ne (by decide)]; exact h18) e
      rw [p2_ne (by decide)] at a1 a2 a3
      exact ⟨a1, a2, a3, .inr (by rw [a4, p2_same]), fun z => absurd z (fun z => hc z), a5, a6⟩
  · obtain ⟨a1, a2, a3, a4, a5, a6⟩ := with_ok h18 e
    exact ⟨a1, a2, a3, .inl (by rw [a4]; exact h17), fun _ => by rw [a4]; exact h17, a5, a6⟩
theorem kind_ok (hd : d = 48 + s) (h14 : R 14 d = 0 ∨ (R 14 d = 1 ∧ ¬ s = 0)) (h16 : C1 d R) (h17 : R 17 d = 0) (h18 : R 18 d = -1) (e : kindS T n s d R p = .inr (Q', p')) : SW Q' s ∧ Q' 14 = R 14 := by
  unfold kindS at e
  split at e
  · cases e
  · cases hn : numS T n (skp T n (wep T n p)) 0 7 with
    | none => rw [hn] at e; cases e
    | some v =>
      rw [hn] at e
      simp only at e
      cases hc : condS T n d 4 (p2 R 15 d v) (skp T n (dep T n (skp T n (wep T n p)))) with
      | inl f => rw [hc] at e; cases e
      | inr x =>
        obtain ⟨Q2, p2'⟩ := x
        rw [hc] at e
        obtain ⟨b1, b2, b3, b4, b5⟩ := cond_ok 4 _ _ (fun f hf => by rw [p2_ne (by decide)]; exact h16 f hf) hc
        rw [p2_ne (by decide)] at b2 b4 b5
        obtain ⟨x, h1, _, h2⟩ := num_nI (a := 0) (b := 7) (by decide) (by decide) hn
        obtain ⟨a1, a2, a3, a4, a5, a6, a7⟩ := tail_ok (by rw [b4]; exact h17) (by rw [b5]; exact h18) e
        subst hd
        refine ⟨⟨?_, ⟨x, by rw [a2, b3, p2_same]; exact h1, h2⟩, fun f hf => by rw [a3]; exact b1 f hf, a4, fun z => a5 (by rw [a1] at z; exact z), a6, fun z => ⟨?_, a7 z⟩⟩, a1.trans b2⟩
        · rw [a1, b2]; exact h14.imp id And.left
        · rw [a1, b2]; exact h14.resolve_right fun y => y.2 z
theorem step_ok (e : stepS T n s Q p = .inr (Q', p')) : SW Q' s ∧ ∀ k, k ≠ 48 + s → Q' 14 k = Q 14 k := by
  have i17 : iniS (48 + s) Q 17 (48 + s) = 0 := by unfold iniS; rw [p2_ne (by decide), p2_ne (by decide), p2_same]
  have i18 : iniS (48 + s) Q 18 (48 + s) = -1 := by unfold iniS; rw [p2_ne (by decide), p2_same]
  have i14 : ∀ k, k ≠ 48 + s → iniS (48 + s) Q 14 k = Q 14 k := fun k hk => by unfold iniS; rw [p2_row hk, p2_ne (by decide), p2_ne (by decide), p2_ne (by decide), p2_ne (by decide), p2_ne (by decide)]
  unfold stepS at e
  split at e
  · split at e
    · cases e
    · rename_i hs
      obtain ⟨a1, a2⟩ := kind_ok rfl (.inr ⟨p2_same, hs⟩) (fun f hf => by rw [p2_ne (by decide)]; exact .inl (iniS_16 hf)) (by rw [p2_ne (by decide)]; exact i17) (by rw [p2_ne (by decide)]; exact i18) e
      exact ⟨a1, fun k hk => by rw [a2, p2_row hk]; exact i14 k hk⟩
  · obtain ⟨a1, a2⟩ := kind_ok rfl (.inl (by unfold iniS; exact p2_same)) (fun f hf => .inl (iniS_16 hf)) i17 i18 e
    exact ⟨a1, fun k hk => by rw [a2]; exact i14 k hk⟩
def BZ (Q : Mem) : Prop := ∀ s, s < 6 → (Q 14 (48 + s) = 0 ∨ Q 14 (48 + s) = 1) ∧ (Q 17 (48 + s) = 0 ∨ Q 17 (48 + s) = 1)
/-- the question in the slot 8 is well formed -/
def QW (Q : Mem) : Prop := (∃ b, Q 12 8 = nI b ∧ b < 3) ∧ (∃ ns, Q 13 8 = nI ns ∧ 1 ≤ ns ∧ ns ≤ 6 ∧ (∀ s, s < ns → SW Q s) ∧ pnd Q false ns = false) ∧ (Q 19 8 = -1 ∨ ∃ f k w, Q 19 8 = nI f ∧ f < 3 ∧ Q 20 8 = nI k ∧ 2 ≤ k ∧ k ≤ 30 ∧ Q 21 8 = nI w ∧ 1 ≤ w ∧ w ≤ 100000) ∧ BZ Q
theorem SW_cg (h14 : Q' 14 (48 + s) = Q 14 (48 + s)) (h15 : Q' 15 (48 + s) = Q 15 (48 + s)) (h16 : ∀ f, f < 3 → Q' 16 (3 * (48 + s) + f) = Q 16 (3 * (48 + s) + f)) (h17 : Q' 17 (48 + s) = Q 17 (48 + s)) (h18 : Q' 18 (48 + s) = Q 18 (48 + s)) (h : SW Q s) : SW Q' s := by
  unfold SW at h ⊢
  rw [h14, h15, h17, h18]
  refine ⟨h.1, h.2.1, fun f hf => ?_, h.2.2.2⟩
  rw [h16 f hf]
  exact h.2.2.1 f hf
theorem pnd_cg {w : Bool} : ∀ {s}, (∀ k, k < s → Q' 14 (48 + k) = Q 14 (48 + k) ∧ Q' 18 (48 + k) = Q 18 (48 + k)) → pnd Q' w s = pnd Q w s := by
  intro s
  induction s with
  | zero => intro _; rfl
  | succ s ih =>
    intro h
    unfold pnd
    rw [ih fun k hk => h k (by omega), (h s (by omega)).1, (h s (by omega)).2]
theorem loop_ok : ∀ k s Q p, s ≤ 6 → (∃ b, Q 12 8 = nI b ∧ b < 3) → Q 13 8 = nI s → (∀ s', s' < s → SW Q s') → Q 19 8 = -1 → BZ Q → loopS T n k s Q p = .inr Q' → QW Q' := by
  intro k
  induction k with
  | zero => intro s Q p _ _ _ _ _ _ e; unfold loopS at e; cases e
  | succ k ih =>
    intro s Q p hs6 hb h13 hsw h19 hbz e
    unfold loopS at e
    simp only at e
    split at e
    · rename_i hc
      split at e
      · cases e
      · rename_i hpn
        unfold spreadS at e
        cases hf : fldS T n (skp T n (wep T n (skp T n (p + 1)))) with
        | none => rw [hf] at e; cases e
        | some f =>
          have hf3 := fldS_lt hf
          rw [hf] at e
          simp only at e
          split at e
          · cases e
          · rename_i v hn
            split at e
            · cases e
            · split at e
              · cases e
              · rename_i w hn2
                split at e
                · cases e
                · cases e
                  obtain ⟨x, a1, a2, a3⟩ := num_nI (a := 2) (b := 30) (by decide) (by decide) hn
                  obtain ⟨y, b1, b2, b3⟩ := num_nI (a := 1) (b := 100000) (by decide) (by decide) hn2
                  have hr : ∀ c, c ≠ 0 → c ≠ 19 → c ≠ 20 → c ≠ 21 → p2 (p2 (p2 (p2 Q 0 32 (bitF (Q 0 32) f)) 19 8 (nI f)) 20 8 v) 21 8 w c = Q c := fun c c0 c1 c2 c3 => by rw [p2_ne c3, p2_ne c2, p2_ne c1, p2_ne c0]
                  refine ⟨by rw [hr 12 (by decide) (by decide) (by decide) (by decide)]; exact hb, ⟨s, by rw [hr 13 (by decide) (by decide) (by decide) (by decide)]; exact h13, by omega, hs6, fun s' hs' => SW_cg (by rw [hr 14 (by decide) (by decide) (by decide) (by decide)]) (by rw [hr 15 (by decide) (by decide) (by decide) (by decide)]) (fun f _ => by rw [hr 16 (by decide) (by decide) (by decide) (by decide)]) (by rw [hr 17 (by decide) (by decide) (by decide) (by decide)]) (by rw [hr 18 (by decide) (by decide) (by decide) (by decide)]) (hsw s' hs'), ?_⟩, .inr ⟨f, x, y, ?_, hf3, ?_, a2, a3, ?_, b2, b3⟩, fun s' hs' => ?_⟩
                  · rw [pnd_cg (Q := Q) (fun k _ => ⟨by rw [hr 14 (by decide) (by decide) (by decide) (by decide)], by rw [hr 18 (by decide) (by decide) (by decide) (by decide)]⟩)]
                    exact Bool.eq_false_iff.mpr hpn
                  · rw [p2_ne (by decide), p2_ne (by decide), p2_same]
                  · rw [p2_ne (by decide), p2_same]; exact a1
                  · rw [p2_same]; exact b1
                  · rw [hr 14 (by decide) (by decide) (by decide) (by decide), hr 17 (by decide) (by decide) (by decide) (by decide)]; exact hbz s' hs'
    · split at e
      · cases e
      · rename_i h6
        cases hst : stepS T n s Q (skp T n (p + 1)) with
        | inl f => rw [hst] at e; cases e
        | inr x =>
          obtain ⟨Q2, p2'⟩ := x
          rw [hst] at e
          simp only at e
          obtain ⟨a1, a2⟩ := step_ok hst
          have a3 := SD_step hst
          have hr : ∀ c, c ≠ 13 → p2 Q2 13 8 (nI (s + 1)) c = Q2 c := fun c hc => p2_ne hc
          have hb' : ∃ b, p2 Q2 13 8 (nI (s + 1)) 12 8 = nI b ∧ b < 3 := by rw [hr 12 (by decide), a3 12 8 (fun z => by unfold sd at z; omega)]; exact hb
          have hsw' : ∀ s', s' < s + 1 → SW (p2 Q2 13 8 (nI (s + 1))) s' := fun s' hs' => by
            refine SW_cg (Q := Q2) (by rw [hr 14 (by decide)]) (by rw [hr 15 (by decide)]) (fun f _ => by rw [hr 16 (by decide)]) (by rw [hr 17 (by decide)]) (by rw [hr 18 (by decide)]) ?_
            by_cases es : s' = s
            · rw [es]; exact a1
            · exact SW_cg (a3 14 _ (fun z => by unfold sd at z; omega)) (a3 15 _ (fun z => by unfold sd at z; omega)) (fun f hf => a3 16 _ (fun z => by unfold sd at z; omega)) (a3 17 _ (fun z => by unfold sd at z; omega)) (a3 18 _ (fun z => by unfold sd at z; omega)) (hsw s' (by omega))
          have h19' : p2 Q2 13 8 (nI (s + 1)) 19 8 = -1 := by rw [hr 19 (by decide), a3 19 8 (fun z => by unfold sd at z; omega)]; exact h19
          have hbz' : BZ (p2 Q2 13 8 (nI (s + 1))) := fun s' hs' => by
            rw [hr 14 (by decide), hr 17 (by decide)]
            by_cases es : s' = s
            · rw [es]; exact ⟨a1.1, a1.2.2.2.1⟩
            · rw [a3 14 _ (fun z => by unfold sd at z; omega), a3 17 _ (fun z => by unfold sd at z; omega)]
              exact hbz s' hs'
          split at e
          · split at e
            · exact ih (s + 1) _ _ (by omega) hb' p2_same hsw' h19' hbz' e
            · cases e
          · split at e
            · cases e
            · rename_i hpn
              cases e
              exact ⟨hb', ⟨s + 1, p2_same, by omega, by omega, hsw', Bool.eq_false_iff.mpr hpn⟩, .inl h19', hbz'⟩
theorem text_ok (hbz : BZ Q) (e : textS T n Q = .inr Q') : QW Q' := by
  unfold textS at e
  simp only at e
  split at e
  · cases e
  · split at e
    · cases e
    · rename_i f hf
      have hf3 := fldS_lt hf
      split at e
      · refine loop_ok 7 0 _ _ (by decide) ⟨f, p2_same, hf3⟩ ?_ (fun s' hs' => by omega) ?_ ?_ e
        · rw [p2_ne (by decide), p2_ne (by decide), p2_ne (by decide), p2_same]; rfl
        · rw [p2_ne (by decide), p2_ne (by decide), p2_same]
        · intro s hs
          rw [p2_ne (by decide), p2_ne (by decide), p2_ne (by decide), p2_ne (by decide), p2_ne (by decide), p2_ne (by decide), p2_ne (by decide), p2_ne (by decide), p2_ne (by decide), p2_ne (by decide)]
          exact hbz s hs
      · cases e
end
