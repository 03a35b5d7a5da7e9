section
variable {g : Nat → Nat} {S : Pool} {pst : Pool → Prop}
theorem PPo_R {Kf Nf : Nat → Nat} {U : List Nat} {R : RMem} {I : Mem} {c k : Nat} : (PPo Kf Nf U R I).R c k = R c k := rfl
theorem BSp {R : RMem} {c k n : Nat} {v : Option Nat} (h : ∀ c k, n ≤ k → R c k = none) (hk : k < n) : ∀ d j, n ≤ j → p2 R c k v d j = none := fun d j hj => by
  by_cases e : d = c
  · subst e; rw [p2_row (by omega)]; exact h d j hj
  · rw [p2_ne e]; exact h d j hj
/-- the reference's rows at the beginning -/
def D0 : Mem := p2 (p2 (p2 (p2 (p2 (p2 (fun _ _ => 0) 0 2 100) 0 30 (-1)) 3 0 7) 3 1 7) 3 2 7) 3 3 7
theorem i_init9 (h : IR mK mN g S [0] (fun _ _ => none) (fun _ _ => 0)) (hp : ∀ g' S', g' 0 = g 0 → CR g' S' (mp D0) → pst S') : wX9_init pst (some (g 0)) S := by
  unfold wX9_init xnn
  refine ⟨⟨_, rfl⟩, i_pI 0 h (by decide) rfl fun S1 h1 => ?_⟩
  have e0 : g 0 = g 0 := rfl
  refine i_na 3 ⟨by decide, by decide⟩ h1 (by decide) rfl rfl rfl rfl fun g3 S3a a3 b3 => ?_
  have e3 : g3 0 = g 0 := (a3 0 (by decide)).trans e0
  rw [← e3]
  refine i_pR 0 3 b3 (by decide) (by decide) rfl fun S3 h3 => ?_
  rw [e3]
  refine i_na 6 ⟨by decide, by decide⟩ h3 (by decide) rfl rfl rfl rfl fun g6 S6a a6 b6 => ?_
  have e6 : g6 0 = g 0 := (a6 0 (by decide)).trans e3
  rw [← e6]
  refine i_pR 0 6 b6 (by decide) (by decide) rfl fun S6 h6 => ?_
  rw [e6]
  refine i_na 7 ⟨by decide, by decide⟩ h6 (by decide) rfl rfl rfl rfl fun g7 S7a a7 b7 => ?_
  have e7 : g7 0 = g 0 := (a7 0 (by decide)).trans e6
  rw [← e7]
  refine i_pR 0 7 b7 (by decide) (by decide) rfl fun S7 h7 => ?_
  rw [e7]
  refine i_na 8 ⟨by decide, by decide⟩ h7 (by decide) rfl rfl rfl rfl fun g8 S8a a8 b8 => ?_
  have e8 : g8 0 = g 0 := (a8 0 (by decide)).trans e7
  rw [← e8]
  refine i_pR 0 8 b8 (by decide) (by decide) rfl fun S8 h8 => ?_
  rw [e8]
  refine i_na 9 ⟨by decide, by decide⟩ h8 (by decide) rfl rfl rfl rfl fun g9 S9a a9 b9 => ?_
  have e9 : g9 0 = g 0 := (a9 0 (by decide)).trans e8
  rw [← e9]
  refine i_pR 0 9 b9 (by decide) (by decide) rfl fun S9 h9 => ?_
  rw [e9]
  refine i_na 10 ⟨by decide, by decide⟩ h9 (by decide) rfl rfl rfl rfl fun g10 S10a a10 b10 => ?_
  have e10 : g10 0 = g 0 := (a10 0 (by decide)).trans e9
  rw [← e10]
  refine i_pR 0 10 b10 (by decide) (by decide) rfl fun S10 h10 => ?_
  rw [e10]
  refine i_na 12 ⟨by decide, by decide⟩ h10 (by decide) rfl rfl rfl rfl fun g12 S12a a12 b12 => ?_
  have e12 : g12 0 = g 0 := (a12 0 (by decide)).trans e10
  rw [← e12]
  refine i_pR 0 12 b12 (by decide) (by decide) rfl fun S12 h12 => ?_
  rw [e12]
  refine i_na 13 ⟨by decide, by decide⟩ h12 (by decide) rfl rfl rfl rfl fun g13 S13a a13 b13 => ?_
  have e13 : g13 0 = g 0 := (a13 0 (by decide)).trans e12
  rw [← e13]
  refine i_pR 0 13 b13 (by decide) (by decide) rfl fun S13 h13 => ?_
  rw [e13]
  refine i_na 14 ⟨by decide, by decide⟩ h13 (by decide) rfl rfl rfl rfl fun g14 S14a a14 b14 => ?_
  have e14 : g14 0 = g 0 := (a14 0 (by decide)).trans e13
  rw [← e14]
  refine i_pR 0 14 b14 (by decide) (by decide) rfl fun S14 h14 => ?_
  rw [e14]
  refine i_na 15 ⟨by decide, by decide⟩ h14 (by decide) rfl rfl rfl rfl fun g15 S15a a15 b15 => ?_
  have e15 : g15 0 = g 0 := (a15 0 (by decide)).trans e14
  rw [← e15]
  refine i_pR 0 15 b15 (by decide) (by decide) rfl fun S15 h15 => ?_
  rw [e15]
  refine i_na 16 ⟨by decide, by decide⟩ h15 (by decide) rfl rfl rfl rfl fun g16 S16a a16 b16 => ?_
  have e16 : g16 0 = g 0 := (a16 0 (by decide)).trans e15
  rw [← e16]
  refine i_pR 0 16 b16 (by decide) (by decide) rfl fun S16 h16 => ?_
  rw [e16]
  refine i_na 17 ⟨by decide, by decide⟩ h16 (by decide) rfl rfl rfl rfl fun g17 S17a a17 b17 => ?_
  have e17 : g17 0 = g 0 := (a17 0 (by decide)).trans e16
  rw [← e17]
  refine i_pR 0 17 b17 (by decide) (by decide) rfl fun S17 h17 => ?_
  rw [e17]
  refine i_na 18 ⟨by decide, by decide⟩ h17 (by decide) rfl rfl rfl rfl fun g18 S18a a18 b18 => ?_
  have e18 : g18 0 = g 0 := (a18 0 (by decide)).trans e17
  rw [← e18]
  refine i_pR 0 18 b18 (by decide) (by decide) rfl fun S18 h18 => ?_
  rw [e18]
  refine i_na 19 ⟨by decide, by decide⟩ h18 (by decide) rfl rfl rfl rfl fun g19 S19a a19 b19 => ?_
  have e19 : g19 0 = g 0 := (a19 0 (by decide)).trans e18
  rw [← e19]
  refine i_pR 0 19 b19 (by decide) (by decide) rfl fun S19 h19 => ?_
  rw [e19]
  refine i_na 20 ⟨by decide, by decide⟩ h19 (by decide) rfl rfl rfl rfl fun g20 S20a a20 b20 => ?_
  have e20 : g20 0 = g 0 := (a20 0 (by decide)).trans e19
  rw [← e20]
  refine i_pR 0 20 b20 (by decide) (by decide) rfl fun S20 h20 => ?_
  rw [e20]
  refine i_na 21 ⟨by decide, by decide⟩ h20 (by decide) rfl rfl rfl rfl fun g21 S21a a21 b21 => ?_
  have e21 : g21 0 = g 0 := (a21 0 (by decide)).trans e20
  rw [← e21]
  refine i_pR 0 21 b21 (by decide) (by decide) rfl fun S21 h21 => ?_
  rw [e21]
  refine i_na 23 ⟨by decide, by decide⟩ h21 (by decide) rfl rfl rfl rfl fun g23 S23a a23 b23 => ?_
  have e23 : g23 0 = g 0 := (a23 0 (by decide)).trans e21
  rw [← e23]
  refine i_pR 0 23 b23 (by decide) (by decide) rfl fun S23 h23 => ?_
  rw [e23]
  refine i_na 24 ⟨by decide, by decide⟩ h23 (by decide) rfl rfl rfl rfl fun g24 S24a a24 b24 => ?_
  have e24 : g24 0 = g 0 := (a24 0 (by decide)).trans e23
  rw [← e24]
  refine i_pR 0 24 b24 (by decide) (by decide) rfl fun S24 h24 => ?_
  rw [e24]
  refine i_na 25 ⟨by decide, by decide⟩ h24 (by decide) rfl rfl rfl rfl fun g25 S25a a25 b25 => ?_
  have e25 : g25 0 = g 0 := (a25 0 (by decide)).trans e24
  rw [← e25]
  refine i_pR 0 25 b25 (by decide) (by decide) rfl fun S25 h25 => ?_
  rw [e25]
  refine i_na 26 ⟨by decide, by decide⟩ h25 (by decide) rfl rfl rfl rfl fun g26 S26a a26 b26 => ?_
  have e26 : g26 0 = g 0 := (a26 0 (by decide)).trans e25
  rw [← e26]
  refine i_pR 0 26 b26 (by decide) (by decide) rfl fun S26 h26 => ?_
  rw [e26]
  rw [← e26]
  refine i_pI 0 h26 (by decide) rfl fun S26x h26x => ?_
  rw [e26]
  refine i_na 33 ⟨by decide, by decide⟩ h26x (by decide) rfl rfl rfl rfl fun g33 S33a a33 b33 => ?_
  have e33 : g33 0 = g 0 := (a33 0 (by decide)).trans e26
  rw [← e33]
  refine i_pR 0 33 b33 (by decide) (by decide) rfl fun S33 h33 => ?_
  rw [e33]
  refine i_na 34 ⟨by decide, by decide⟩ h33 (by decide) rfl rfl rfl rfl fun g34 S34a a34 b34 => ?_
  have e34 : g34 0 = g 0 := (a34 0 (by decide)).trans e33
  rw [← e34]
  refine i_pR 0 34 b34 (by decide) (by decide) rfl fun S34 h34 => ?_
  rw [e34]
  refine i_na 35 ⟨by decide, by decide⟩ h34 (by decide) rfl rfl rfl rfl fun g35 S35a a35 b35 => ?_
  have e35 : g35 0 = g 0 := (a35 0 (by decide)).trans e34
  rw [← e35]
  refine i_pR 0 35 b35 (by decide) (by decide) rfl fun S35 h35 => ?_
  rw [e35]
  refine i_na 37 ⟨by decide, by decide⟩ h35 (by decide) rfl rfl rfl rfl fun g37 S37a a37 b37 => ?_
  have e37 : g37 0 = g 0 := (a37 0 (by decide)).trans e35
  rw [← e37]
  refine i_pR 0 37 b37 (by decide) (by decide) rfl fun S37 h37 => ?_
  rw [e37]
  refine i_na 39 ⟨by decide, by decide⟩ h37 (by decide) rfl rfl rfl rfl fun g39 S39a a39 b39 => ?_
  have e39 : g39 0 = g 0 := (a39 0 (by decide)).trans e37
  rw [← e39]
  refine i_pR 0 39 b39 (by decide) (by decide) rfl fun S39 h39 => ?_
  rw [e39]
  refine i_na 40 ⟨by decide, by decide⟩ h39 (by decide) rfl rfl rfl rfl fun g40 S40a a40 b40 => ?_
  have e40 : g40 0 = g 0 := (a40 0 (by decide)).trans e39
  rw [← e40]
  refine i_pR 0 40 b40 (by decide) (by decide) rfl fun S40 h40 => ?_
  rw [e40]
  refine i_na 41 ⟨by decide, by decide⟩ h40 (by decide) rfl rfl rfl rfl fun g41 S41a a41 b41 => ?_
  have e41 : g41 0 = g 0 := (a41 0 (by decide)).trans e40
  rw [← e41]
  refine i_pR 0 41 b41 (by decide) (by decide) rfl fun S41 h41 => ?_
  rw [e41]
  rw [← e41]
  refine ⟨5, ?_⟩
  unfold wX9_init_245
  rw [brf (by decide)]
  refine i_R 0 h41 (by decide) rfl ?_
  refine i_sI 3 h41 (by decide) rfl (vp_in_nI (show 0 < 4 by decide) (by decide) : vp_in (nI 0) 4) fun T1 k1 => ?_
  unfold wX9_init_245
  rw [brf (by decide)]
  refine i_R 0 k1 (by decide) rfl ?_
  refine i_sI 3 k1 (by decide) rfl (vp_in_nI (show 1 < 4 by decide) (by decide) : vp_in (nI 1) 4) fun T2 k2 => ?_
  unfold wX9_init_245
  rw [brf (by decide)]
  refine i_R 0 k2 (by decide) rfl ?_
  refine i_sI 3 k2 (by decide) rfl (vp_in_nI (show 2 < 4 by decide) (by decide) : vp_in (nI 2) 4) fun T3 k3 => ?_
  unfold wX9_init_245
  rw [brf (by decide)]
  refine i_R 0 k3 (by decide) rfl ?_
  refine i_sI 3 k3 (by decide) rfl (vp_in_nI (show 3 < 4 by decide) (by decide) : vp_in (nI 3) 4) fun T4 k4 => ?_
  unfold wX9_init_245
  rw [brt (by decide)]
  refine hp g41 T4 e41 (CR_L (M' := mp D0) k4.1 (by decide +kernel) fun c hc => ⟨rfl, rfl, rfl, fun k => ?_, rfl⟩)
  clear hp
  by_cases e : c = 0
  · subst e
    rcases Nat.lt_or_ge k 42 with hk | hk
    · revert hk
      revert k
      decide +kernel
    · rw [PPo_R]
      show mR 0 k = _
      repeat rw [p2_row (by omega)]
      unfold mR
      rw [if_pos rfl, if_neg]
      intro hm
      have : ∀ x, x ∈ mar → x < 42 := by decide
      have := this k hm
      omega
  · rw [PPo_R]
    show mR c k = _
    repeat rw [p2_ne e]
    unfold mR
    rw [if_neg e]
end
