section
variable {g : Nat → Nat} {S : Pool}
theorem sR_31 {c k : Nat} (hk : 31 ≤ k) : sR c k = none := by
  have hl : ∀ (l : List (Option Nat)), l.length ≤ 31 → l.getD k none = none := fun l hl => by
    rw [List.getD_eq_getElem?_getD, List.getElem?_eq_none (by omega)]
    rfl
  unfold sR
  have e0 : ¬ k = 0 := by omega
  have e6 : ¬ k < 6 := by omega
  have e8 : ¬ k < 8 := by omega
  have e31 : ¬ k < 31 := by omega
  rw [hl _ (by decide), hl _ (by decide), hl _ (by decide), hl _ (by decide)]
  simp only [if_neg e0, if_neg e6, if_neg e8, if_neg e31, ite_self]
theorem sR8 : ∀ c, c ∈ cL 0 2 → ∀ k, k < 31 → cR R8 c k = R8 c k := by decide +kernel
theorem U8_L : ∀ c, c ∈ cL 0 2 → c ∈ U8 ++ [95] := by decide +kernel
theorem CR_8 (h : JR g S (U8 ++ [95]) R8 I8) : CR g S (cp 0 2 R8 I8 (jr 0)) := by
  refine CR_L (M' := cp 0 2 R8 I8 (jr 0)) h.1.1 U8_L fun c hc => ⟨rfl, rfl, rfl, fun k => ?_, ?_⟩
  · show cR R8 c k = R8 c k
    rcases Nat.lt_or_ge k 31 with hk | hk
    · exact sR8 c hc k hk
    · rw [h.2.2 c k hk]
      unfold cR
      split
      · exact h.2.2 c k hk
      · exact sR_31 hk
  · show jr 0 c = fun _ => 0
    funext k
    unfold jr
    split <;> rfl
theorem I8_e : ∀ q, q < 8 → ∀ w, w < 31 → I8 (87 + q) w = -1 := by decide +kernel
theorem CI_0 : CI D0 0 0 0 0 0 0 R8 I8 := by
  refine ⟨⟨⟨⟨by decide, by decide, fun i hi => absurd hi (Nat.not_lt_zero _)⟩, by decide +kernel, by decide +kernel, fun i hi => absurd hi (Nat.not_lt_zero _), fun i hi => absurd hi (Nat.not_lt_zero _), by decide +kernel, by decide +kernel, ?_⟩, ⟨by decide, by decide +kernel, fun i hi => absurd hi (Nat.not_lt_zero _), fun i hi => absurd hi (Nat.not_lt_zero _), fun q _ _ => rfl, by decide +kernel, by decide +kernel⟩, ⟨by decide +kernel, ⟨by decide +kernel, by decide, fun i hi => absurd hi (Nat.not_lt_zero _)⟩, fun i hi => absurd hi (Nat.not_lt_zero _)⟩, ⟨by decide +kernel, by decide, by decide +kernel, fun q w hq hw => ⟨fun i hi => absurd hi (Nat.not_lt_zero _), .inl (I8_e q hq w hw)⟩⟩, ⟨by decide +kernel, by decide +kernel, by decide +kernel, by decide +kernel, by decide +kernel, ?_⟩⟩, ⟨⟨0, by decide, by decide +kernel⟩, .inl (by decide +kernel)⟩, ⟨by decide +kernel, .inl (by decide +kernel)⟩⟩
  · show I8 4 4 = nI 0
    decide +kernel
  · unfold BZ
    decide +kernel
end
theorem IR_E0 (Kf Nf : Nat → Nat) : IR Kf Nf (fun _ => 0) E0 [] (fun _ _ => none) (fun _ _ => 0) := ⟨⟨fun c hc => absurd hc List.not_mem_nil, fun c d hc => absurd hc List.not_mem_nil, fun c hc => absurd hc List.not_mem_nil⟩, fun _ _ => ⟨rfl, rfl, rfl⟩, fun c hc => absurd hc List.not_mem_nil⟩
theorem law_true (L : Nat) (xs : Nat → Int32) (hL : L ≤ 3072) : wL_law L xs := by
  unfold wL_law
  refine j_new 0 ⟨IR_E0 cK cN, fun _ _ => ⟨rfl, rfl⟩, fun _ _ _ => rfl⟩ (by decide) rfl rfl fun g1 S1 _ h1 => xnn_i (i_init8 h1 fun g2 S2 e2 h2 => ?_)
  refine i_new 0 (IR_E0 mK mN) (by decide) rfl rfl rfl rfl fun g3 T1 _ h3 => xnn_i (i_init9 h3 fun g4 T2 e4 h4 => ?_)
  refine j_na 95 (by decide +kernel) h2 (by decide +kernel) rfl rfl fun g5 S3 a5 h5 => ⟨1000, Nat.le_refl _, ?_⟩
  have key := law_loop (xs := xs) hL 999 0 D0 0 0 0 0 0 0 R8 I8 0 g5 g4 S3 T2 (by omega) (by omega) (by decide) CI_0 (CR_8 h5) h4
  rw [a5 0 (by decide +kernel), e2, e4] at key
  exact key
