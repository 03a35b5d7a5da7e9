/-! ===== the law, call by call ===== -/
section
variable {D D' : Mem} {nA nQ nE nT nw nc q a nK c L : Nat} {R : RMem} {I I' : Mem} {z : Int64} {v u e : Int32} {g g' : Nat → Nat} {S T : Pool} {K : Prop} {xs : Nat → Int32}
theorem xsr_ok {j : Nat} {K : Int32 → Prop} (h : j < L) (hL : L < 2 ^ 31) : xsr L xs (nI j) K = K (xs j) := by
  unfold xsr
  rw [vin h hL, true_and, nI_clamp (by omega)]
theorem gT_rc (h : CR g T (mp D)) (hp : K) : xrc T (some (g 0)) 9 K := cr_rc h (r := some 0) (K := K) (by rw [m_rc]; exact hp) id
theorem jr_set {w : Int64} : p2 (jr z) 95 0 w = jr w := by
  funext c k
  by_cases ec : c = 95
  · subst ec
    by_cases ek : k = 0
    · subst ek; rw [p2_same]; unfold jr; rw [if_pos ⟨rfl, rfl⟩]
    · rw [p2_row ek]; unfold jr; rw [if_neg (fun x => ek x.2), if_neg (fun x => ek x.2)]
  · rw [p2_ne ec]; unfold jr; rw [if_neg (fun x => ec x.1), if_neg (fun x => ec x.1)]
theorem g_sJ {w : Int64} {KP : Pool → Prop} (h : CR g S (cp nA nK R I (jr z))) (hp : ∀ S', CR g S' (cp nA nK R I (jr w)) → KP S') : xsJ S (some (g 95)) 0 w KP :=
  cr_sJ h (r := some 95) (K := fun M => M = cp nA nK R I (jr w)) (by
    rw [x1_sJ]
    refine ⟨(vp_in_nI (show 0 < 1 by decide) (by decide) : vp_in (nI 0) 1), ?_⟩
    show cp nA nK R I (p2 (jr z) 95 0 w) = _
    rw [jr_set]) (fun S1 M1 h1 e1 => hp S1 (e1 ▸ h1))
theorem lg_self (x : Int64) : lg_cmp x x = 0 := by
  have h1 : 0 ≤ lg_cmp x x := (lg_cmp_ge x x).mpr (Int64.le_refl x)
  have h2 : ¬ 0 < lg_cmp x x := fun y => Int64.lt_irrefl ((lg_cmp_gt x x).mp y)
  rw [← Int32.toInt_inj]
  rw [Int32.le_iff_toInt_le] at h1
  rw [Int32.lt_iff_toInt_lt] at h2
  omega
theorem th_v {Nx : Pool → Pool → Prop} (hS : CR g S (cp nA nK R I (jr u.toInt64))) (hT : CR g' T (mp D')) (h0 : D' 0 0 = 0) (hn : ∀ T', CR g' T' (mp D') → Nx S T') : xrc T (some (g' 0)) 9 (wX9_thrown (fun a35 T34 => br (a35 = 0) (br ((0 : Int32) = 0) (xaJ S (some (g 95)) 0 fun a38 => br ((lg_cmp a38 (u.toInt64)) = 0) (Nx S T34) False) (Nx S T34)) False) (some (g' 0)) T) := by
  refine gT_rc hT (lX9_thrown (v0 := 0) hT ?_)
  rw [q_thrown]
  intro T' hT'
  show br (D' 0 0 = 0) _ _
  rw [h0, brt rfl, brt rfl]
  refine cr_aJ hS (r := some 95) (K := fun x => x = u.toInt64) (by rw [x1_aJ]; exact ⟨(vp_in_nI (show 0 < 1 by decide) (by decide) : vp_in (nI 0) 1), rfl⟩) fun x ex => ?_
  rw [ex, lg_self, brt rfl]
  exact hn T' hT'
theorem th_x {Nx : Pool → Pool → Prop} {A : Pool → Prop} (he : e ≠ 0) (hT : CR g' T (mp D')) (h0 : D' 0 0 = e) (hn : ∀ T', CR g' T' (mp D') → Nx S T') : xrc T (some (g' 0)) 9 (wX9_thrown (fun a35 T34 => br (a35 = e) (br (e = 0) (A T34) (Nx S T34)) False) (some (g' 0)) T) := by
  refine gT_rc hT (lX9_thrown (v0 := 0) hT ?_)
  rw [q_thrown]
  intro T' hT'
  show br (D' 0 0 = e) _ _
  rw [h0, brt rfl, brf he]
  exact hn T' hT'
theorem th_u {Nx : Pool → Pool → Prop} (hT : CR g' T (mp D')) (h0 : D' 0 0 = e) (hn : ∀ T', CR g' T' (mp D') → Nx S T') : xrc T (some (g' 0)) 9 (wX9_thrown (fun a35 T34 => br (a35 = e) (Nx S T34) False) (some (g' 0)) T) := by
  refine gT_rc hT (lX9_thrown (v0 := 0) hT ?_)
  rw [q_thrown]
  intro T' hT'
  show br (D' 0 0 = e) _ _
  rw [h0, brt rfl]
  exact hn T' hT'
/-- what the reference asks of D -/
theorem CI_ST (h : CI D nA nQ nE nT nw nc R I) : ST D D nA := ⟨h.1.1.2.1, h.1.1.1.1, fun _ _ => rfl⟩
theorem CI_WQ (h : CI D nA nQ nE nT nw nc R I) (hq : q < nQ) : ∃ fb pf l, WQ D nA q fb (nsq D q) pf ∧ bfr D q (nsq D q) = some l ∧ QV D nA q fb (nsq D q) pf l := by
  obtain ⟨fb, pf, l, h1, _⟩ := h.1.2.1.2.2.1 q hq
  exact ⟨fb, pf, l, h1.1, h1.2.1, h1⟩
theorem CI_GQ (h : CI D nA nQ nE nT nw nc R I) : GQ D nA nQ := fun q hq => by
  obtain ⟨fb, pf, l, h1, h2, _⟩ := CI_WQ h hq
  exact ⟨fb, nsq D q, pf, l, h1, h2⟩
end
