section
variable {D D' : Mem} {nA nQ nE nT nw nc q a b s p k l ns fb pf m nK c : Nat} {R : RMem} {I I' : Mem} {J : Nat → Nat → Int64} {t v w u x y : Int32} {post : Int32 → Pool → Prop} {pst : Pool → Prop} {pox : String → Pool → Prop} {g : Nat → Nat} {S : Pool}
/-- D with a new act -/
theorem CI_act {kd : Int32} (hC : CI D nA nQ nE nT nw nc R I) (hA : nA < 250) (ho : okA D kd w x y u) {R' : RMem} {I1 : Mem} (hAC : AC (acM D nA kd w x y u) (nA + 1) R' I') (hBT : BT (acM D nA kd w x y u) (nA + 1) R') (h42 : I' 4 2 = nI (nA + 1)) (h43 : I' 4 3 = I 4 3) (h44 : I' 4 4 = (if u < D 0 1 then I 4 4 + 1 else I 4 4)) (hc : ∀ c, c ≠ 0 → c ≠ 4 → c ≠ 1000 + nA → I' c = I c) (h0 : ∀ k, k ≠ 14 → I' 0 k = I 0 k) (h14 : I' 0 14 = nI (nc + 1)) (hR : ∀ c, c ≠ 5 → c ≠ 6 → R' c = R c) : CI (acM D nA kd w x y u) (nA + 1) nQ nE nT nw (nc + 1) R' I' := by
  have hC1 := CI_tl hC (TL_00 (v := 0))
  obtain ⟨k1, k2, k3, k4, k5, k6⟩ := ho
  have h01 : D 0 1 = nI nw := hC.1.1.2.2.1
  have acr : ∀ c, c ≠ 0 → c ≠ 6 → c ≠ 7 → c ≠ 8 → c ≠ 9 → c ≠ 10 → acM D nA kd w x y u c = D c := fun c a1 a2 a3 a4 a5 a6 => by
    unfold acM; rw [p2_ne a1, p2_ne a6, p2_ne a5, p2_ne a4, p2_ne a3, p2_ne a3, p2_ne a3, p2_ne a2, p2_ne a1, p2_ne a1]
  have ac0 : ∀ k, k ≠ 0 → k ≠ 4 → acM D nA kd w x y u 0 k = D 0 k := fun k a1 a2 => by
    unfold acM; rw [p2_row a2, p2_ne (by decide), p2_ne (by decide), p2_ne (by decide), p2_ne (by decide), p2_ne (by decide), p2_ne (by decide), p2_ne (by decide), p2_row a1, p2_row a1]
  have a8 : ∀ i, acM D nA kd w x y u 8 i = if i = nA then u else D 8 i := fun i => by
    unfold acM
    rw [p2_ne (show (8 : Nat) ≠ 0 by decide), p2_ne (show (8 : Nat) ≠ 10 by decide), p2_ne (show (8 : Nat) ≠ 9 by decide)]
    by_cases e : i = nA
    · rw [e, p2_same, if_pos rfl]
    · rw [p2_row e, if_neg e, p2_ne (by decide), p2_ne (by decide), p2_ne (by decide), p2_ne (by decide), p2_ne (by decide), p2_ne (by decide)]
  have a9 : ∀ i, acM D nA kd w x y u 9 i = if i = nA then D 0 1 else D 9 i := fun i => by
    unfold acM
    rw [p2_ne (show (9 : Nat) ≠ 0 by decide), p2_ne (show (9 : Nat) ≠ 10 by decide)]
    by_cases e : i = nA
    · rw [e, p2_same, if_pos rfl]
    · rw [p2_row e, if_neg e, p2_ne (by decide), p2_ne (by decide), p2_ne (by decide), p2_ne (by decide), p2_ne (by decide), p2_ne (by decide), p2_ne (by decide)]
  have a7 : ∀ j, acM D nA kd w x y u 7 j = if j = 3 * nA + 2 then y else if j = 3 * nA + 1 then x else if j = 3 * nA then w else D 7 j := fun j => by
    unfold acM
    rw [p2_ne (show (7 : Nat) ≠ 0 by decide), p2_ne (show (7 : Nat) ≠ 10 by decide), p2_ne (show (7 : Nat) ≠ 9 by decide), p2_ne (show (7 : Nat) ≠ 8 by decide)]
    by_cases e : j = 3 * nA + 2
    · rw [e, p2_same, if_pos rfl]
    · rw [p2_row e, if_neg e]
      by_cases e1 : j = 3 * nA + 1
      · rw [e1, p2_same, if_pos rfl]
      · rw [p2_row e1, if_neg e1]
        by_cases e2 : j = 3 * nA
        · rw [e2, p2_same, if_pos rfl]
        · rw [p2_row e2, if_neg e2, p2_ne (by decide), p2_ne (by decide), p2_ne (by decide)]
  obtain ⟨⟨⟨a1, a2, a3, a4, a5, a6⟩, b2, b3, b4, b5⟩, hS, hJ⟩ := hC
  have hr14 : acM D nA kd w x y u 14 = D 14 := acr 14 (by decide) (by decide) (by decide) (by decide) (by decide) (by decide)
  have rowq : ∀ c, c ∈ [12, 13, 14, 15, 16, 17, 18, 19, 20, 21] → acM D nA kd w x y u c = D c := fun c hc => acr c (by revert hc; simp; omega) (by revert hc; simp; omega) (by revert hc; simp; omega) (by revert hc; simp; omega) (by revert hc; simp; omega) (by revert hc; simp; omega)
  obtain ⟨uu, hu1, hu2⟩ := nI_of (Int32.not_lt.mpr k5)
  obtain ⟨ww, hw1, hw2⟩ := nI_of (Int32.not_lt.mpr k2.1)
  obtain ⟨xx, hx1, hx2⟩ := nI_of (Int32.not_lt.mpr k3.1)
  obtain ⟨yy, hy1, hy2⟩ := nI_of (Int32.not_lt.mpr k4.1)
  have lw := k2.2
  have lx := k3.2
  have ly := k4.2
  have lu := k6
  rw [hw2, show (30 : Int32) = nI 30 from rfl, ile hw1 (by decide)] at lw
  rw [hx2, show (30 : Int32) = nI 30 from rfl, ile hx1 (by decide)] at lx
  rw [hy2, show (15 : Int32) = nI 15 from rfl, ile hy1 (by decide)] at ly
  have hnw := a1.2.1
  rw [hu2, h01, ile hu1 (by omega)] at lu
  have hWA : WA (acM D nA kd w x y u) (nA + 1) nw := by
    refine ⟨by omega, hnw, fun i hi => ?_⟩
    unfold tk td vv
    rw [a8, a9]
    by_cases e : i = nA
    · subst e
      have cu : u.toNatClampNeg = uu := by rw [hu2, nI_clamp hu1]
      have cn : (D 0 1).toNatClampNeg = nw := by rw [h01, nI_clamp (by omega)]
      rw [if_pos rfl, if_pos rfl, cu, cn]
      refine ⟨hu2, h01, lu, Nat.le_refl _, fun f hf => ?_, ?_, fun j hj => ?_⟩
      · rw [a7]
        rcases (show f = 0 ∨ f = 1 ∨ f = 2 by omega) with rfl | rfl | rfl
        · rw [if_neg (by omega), if_neg (by omega), if_pos (by omega), hw2, nI_clamp hw1]; exact ⟨rfl, by omega⟩
        · rw [if_neg (by omega), if_pos rfl, hx2, nI_clamp hx1]; exact ⟨rfl, by omega⟩
        · rw [if_pos rfl, hy2, nI_clamp hy1]; exact ⟨rfl, by omega⟩
      · rw [a7, if_pos rfl, hy2, nI_clamp hy1]; omega
      · rw [a9, if_neg (by omega)]
        exact (a1.2.2 j (by omega)).2.2.2.1
    · rw [if_neg e, if_neg e]
      obtain ⟨z1, z2, z3, z4, z5, z6, z7⟩ := a1.2.2 i (by omega)
      refine ⟨z1, z2, z3, z4, fun f hf => ?_, ?_, fun j hj => ?_⟩
      · rw [a7, if_neg (by omega), if_neg (by omega), if_neg (by omega)]; exact z5 f hf
      · rw [a7, if_neg (by omega), if_neg (by omega), if_neg (by omega)]; exact z6
      · rw [a9, if_neg (by omega)]; exact z7 j hj
  refine ⟨⟨⟨hWA, by unfold acM; rw [p2_same], (ac0 1 (by decide) (by decide)).trans a3, hAC, hBT, h42, ?_, ?_⟩, ⟨b2.1, (ac0 11 (by decide) (by decide)).trans b2.2.1, fun q hq => ?_, fun q hq => by rw [hR 23 (by decide) (by decide)]; exact b2.2.2.2.1 q hq, fun q h1 h2 => by rw [hR 23 (by decide) (by decide)]; exact b2.2.2.2.2.1 q h1 h2, by rw [hR 0 (by decide) (by decide)]; exact b2.2.2.2.2.2.1, by rw [h0 9 (by decide)]; exact b2.2.2.2.2.2.2⟩, CBt_I (CBt_d b3 (acr 26 (by decide) (by decide) (by decide) (by decide) (by decide) (by decide)) (ac0 27 (by decide) (by decide))) (hc 1 (by decide) (by decide) (by omega)) (hc 2 (by decide) (by decide) (by omega)), CBe_I (CBe_d b4 (acr 23 (by decide) (by decide) (by decide) (by decide) (by decide) (by decide)) (acr 24 (by decide) (by decide) (by decide) (by decide) (by decide) (by decide)) (acr 25 (by decide) (by decide) (by decide) (by decide) (by decide) (by decide)) (ac0 22 (by decide) (by decide))) (h0 10 (by decide)) (fun c h1 h2 => hc c (by omega) (by omega) (by omega)), CBs_I (CBs_d b5 (acr 3 (by decide) (by decide) (by decide) (by decide) (by decide) (by decide)) (ac0 1 (by decide) (by decide)) (ac0 2 (by decide) (by decide)) (ac0 30 (by decide) (by decide)) hr14 (rowq 17 (by decide))) (hc 24 (by decide) (by decide) (by omega)) (h0 11 (by decide)) (h0 12 (by decide)) (h0 13 (by decide))⟩, ⟨?_, ?_⟩, JCH_up hJ h14 (h0 15 (by decide))⟩
  · rw [h43, a6.2.1, ac0 5 (by decide) (by decide)]
  · rw [h44]
    have e1 : cnt (fun a => acM D nA kd w x y u 8 a < acM D nA kd w x y u 9 a) nA = cnt (fun a => D 8 a < D 9 a) nA := cnt_cong fun i hi => by rw [a8, a9, if_neg (by omega), if_neg (by omega)]
    by_cases e : u < D 0 1
    · rw [if_pos e, cnt_t (p := fun a => acM D nA kd w x y u 8 a < acM D nA kd w x y u 9 a) (by rw [a8, a9, if_pos rfl, if_pos rfl]; exact e), e1, a6.2.2, ix1]
    · rw [if_neg e, cnt_f (p := fun a => acM D nA kd w x y u 8 a < acM D nA kd w x y u 9 a) (by rw [a8, a9, if_pos rfl, if_pos rfl]; exact e), e1, a6.2.2]
  · obtain ⟨fb, pf, l, h1, h2⟩ := b2.2.2.1 q hq
    have en : nsq (acM D nA kd w x y u) q = nsq D q := by unfold nsq; rw [rowq 13 (by decide)]
    rw [en]
    obtain ⟨⟨c1, c2, c3, c4, c5, c6, c7, c8⟩, d1, d2, d3, d4, d5⟩ := h1
    refine ⟨fb, pf, l, ⟨⟨c1, c2, by rw [rowq 12 (by decide)]; exact c3, c4, by rw [rowq 13 (by decide)]; exact c5, by rw [rowq 19 (by decide)]; exact c6, c7, fun c f hc2 hf => ⟨vv (acM D nA kd w x y u) c f, ?_⟩⟩, by rw [bfr_row hr14]; exact d1, by rw [hr14]; exact d2, fun s hs => by rw [hr14, rowq 17 (by decide), rowq 18 (by decide)]; exact d3 s hs, fun n z1 z2 => by rw [rowq 18 (by decide)]; exact d4 n z1 z2, by rw [rowq 19 (by decide), rowq 21 (by decide)]; exact d5⟩, ?_⟩
    · have := (hWA.2.2 c hc2).2.2.2.2.1 f hf
      exact ⟨this.2, this.1⟩
    · unfold QC at h2 ⊢
      rw [hc (2000 + 8 * (1 + q)) (by omega) (by omega) (by omega), rk_row hr14, rowq 12 (by decide), rowq 19 (by decide), rowq 20 (by decide), rowq 21 (by decide)]
      refine ⟨h2.1, h2.2.1, h2.2.2.1, h2.2.2.2.1, h2.2.2.2.2.1, fun s hs => ?_⟩
      rw [hc (2000 + 8 * (1 + q) + 2 + s) (by omega) (by omega) (by omega), rk_row hr14, hr14, rowq 15 (by decide), rowq 16 (by decide), rowq 17 (by decide), rowq 18 (by decide)]
      exact h2.2.2.2.2.2 s hs
  · obtain ⟨n0, z1, z2⟩ := hS.1
    exact ⟨n0, by omega, by rw [hc 7 (by decide) (by decide) (by omega)]; exact z2⟩
  · rw [hc 7 (by decide) (by decide) (by omega)]
    refine hS.2.imp id fun ⟨q, z1, z2, _⟩ => ⟨q, z1, z2, fun z => ?_⟩
    obtain ⟨n0, y1, y2⟩ := hS.1
    rw [y2, ieq (by omega) (by omega)] at z
    omega
/-! ===== a new object ===== -/
theorem CR_L {M M' : Pool} (h : CR g S M) (hL : ∀ c, c ∈ M'.L → c ∈ M.L) (hE : ∀ c, c ∈ M'.L → M'.K c = M.K c ∧ M'.len c = M.len c ∧ M'.I c = M.I c ∧ (∀ k, M'.R c k = M.R c k) ∧ M'.J c = M.J c) : CR g S M' := by
  refine ⟨fun c hc => h.1 c (hL c hc), fun c d hc hd => h.2.1 c d (hL c hc) (hL d hd), fun c hc => ?_⟩
  obtain ⟨a1, a2, a3, a4, a5⟩ := h.2.2 c (hL c hc)
  obtain ⟨e1, e2, e3, e4, e5⟩ := hE c hc
  exact ⟨a1.trans e1.symm, a2.trans e2.symm, a3.trans e3.symm, fun k => by rw [a4 k, e4 k], a5.trans e5.symm⟩
theorem CR_new {M : Pool} {q c0 kd n : Nat} (h : CR g S M) (hq : q ∉ S.L) (hc : c0 ∉ M.L) (hR : ∀ c, c ∈ M.L → ∀ k, M.R c k ≠ some c0) : CR (fun c => if c = c0 then q else g c) (S.add q kd n) (M.add c0 kd n) := by
  have hne : ∀ c, c ∈ M.L → c ≠ c0 := fun c h1 h2 => hc (h2 ▸ h1)
  have hgq : ∀ c, c ∈ M.L → g c ≠ q := fun c h1 h2 => hq (h2 ▸ h.1 c h1)
  have hmem : ∀ c, c ∈ (M.add c0 kd n).L ↔ c ∈ M.L ∨ c = c0 := fun c => by show c ∈ M.L ++ [c0] ↔ _; simp
  refine ⟨fun c hc => ?_, fun c d hc hd e => ?_, fun c hc => ?_⟩
  · show (if c = c0 then q else g c) ∈ S.L ++ [q]
    rcases (hmem c).mp hc with h1 | h1
    · rw [if_neg (hne c h1)]; exact List.mem_append_left _ (h.1 c h1)
    · rw [if_pos h1]; simp
  · rcases (hmem c).mp hc with h1 | h1
    · rcases (hmem d).mp hd with h2 | h2
      · simp only [if_neg (hne c h1), if_neg (hne d h2)] at e; exact h.2.1 c d h1 h2 e
      · simp only [if_neg (hne c h1), if_pos h2] at e; exact absurd e (hgq c h1)
    · rcases (hmem d).mp hd with h2 | h2
      · simp only [if_pos h1, if_neg (hne d h2)] at e; exact absurd e.symm (hgq d h2)
      · rw [h1, h2]
  · rcases (hmem c).mp hc with h1 | h1
    · simp only [if_neg (hne c h1)]
      obtain ⟨a1, a2, a3, a4, a5⟩ := h.2.2 c h1
      have n1 := hgq c h1
      have n2 := hne c h1
      refine ⟨?_, ?_, ?_, fun k => ?_, ?_⟩
      · show va_up S.K q kd (g c) = va_up M.K c0 kd c; rw [va_up_ne2 n1, va_up_ne2 n2]; exact a1
      · show va_up S.len q n (g c) = va_up M.len c0 n c; rw [va_up_ne2 n1, va_up_ne2 n2]; exact a2
      · show va_up S.I q _ (g c) = va_up M.I c0 _ c; rw [va_up_ne2 n1, va_up_ne2 n2]; exact a3
      · show va_up S.R q _ (g c) k = (va_up M.R c0 _ c k).map _
        rw [va_up_ne2 n1, va_up_ne2 n2, a4 k]
        cases hr : M.R c k with
        | none => rfl
        | some d =>
          show some (g d) = some (if d = c0 then q else g d)
          rw [if_neg (fun z => hR c h1 k (by rw [hr, z]))]
      · show va_up S.J q _ (g c) = va_up M.J c0 _ c; rw [va_up_ne2 n1, va_up_ne2 n2]; exact a5
    · subst h1
      simp only [if_true]
      refine ⟨?_, ?_, ?_, fun k => ?_, ?_⟩
      · show va_up S.K q kd q = va_up M.K c kd c; rw [va_up_at2, va_up_at2]
      · show va_up S.len q n q = va_up M.len c n c; rw [va_up_at2, va_up_at2]
      · show va_up S.I q _ q = va_up M.I c _ c; rw [va_up_at2, va_up_at2]
      · show va_up S.R q _ q k = (va_up M.R c _ c k).map _; rw [va_up_at2, va_up_at2]; rfl
      · show va_up S.J q _ q = va_up M.J c _ c; rw [va_up_at2, va_up_at2]
/-- references to nothing of the pool are set aside -/
noncomputable def piC (nA nK d : Nat) : Nat := @ite _ (d ∈ cL nA nK) (Classical.propDecidable _) d (2 * d + 1000001)
noncomputable def piR (nA nK : Nat) (R : RMem) : RMem := fun c k => (R c k).map (piC nA nK)
theorem cL_small (hA : nA ≤ 250) (hK : nK ≤ 20) (h : c ∈ cL nA nK) : c < 3000 := by
  have := mem_cL.mp h
  omega
theorem sR_in (hA : nA ≤ 250) (hc : c ∈ cL nA nK) {d : Nat} (h : sR c k = some d) : d ∈ cL nA nK := by
  unfold sR at h
  have hm := mem_cL.mp hc
  refine mem_cL.mpr ?_
  have small : ∀ (l : List (Option Nat)) k d, (∀ x ∈ l, ∀ y, x = some y → y < 96) → l.getD k none = some d → d < 96 := by
    intro l k d hl he
    by_cases hk : k < l.length
    · rw [List.getD_eq_getElem?_getD, List.getElem?_eq_getElem hk] at he
      exact hl _ (List.getElem_mem hk) d he
    · rw [List.getD_eq_getElem?_getD, List.getElem?_eq_none (by omega)] at he
      cases he
  by_cases e0 : c = 0
  · rw [if_pos e0] at h; exact .inl (small _ k d (by simp) h)
  rw [if_neg e0] at h
  by_cases e1 : c = 1
  · rw [if_pos e1] at h
    by_cases ek : k = 0
    · rw [if_pos ek] at h; cases h; omega
    · rw [if_neg ek] at h; cases h
  rw [if_neg e1] at h
  by_cases e3 : c = 3
  · rw [if_pos e3] at h
    by_cases ek : k = 0
    · rw [if_pos ek] at h; cases h; omega
    · rw [if_neg ek] at h; cases h
  rw [if_neg e3] at h
  by_cases e4 : c = 4
  · rw [if_pos e4] at h; exact .inl (small _ k d (by simp) h)
  rw [if_neg e4] at h
  by_cases e7 : c = 7
  · rw [if_pos e7] at h; exact .inl (small _ k d (by simp) h)
  rw [if_neg e7] at h
  by_cases e17 : c = 17
  · rw [if_pos e17] at h; exact .inl (small _ k d (by simp) h)
  rw [if_neg e17] at h
  by_cases e9 : c = 9
  · rw [if_pos e9] at h
    by_cases ek : k < 6
    · rw [if_pos ek] at h; cases h; omega
    · rw [if_neg ek] at h; cases h
  rw [if_neg e9] at h
  by_cases e11 : c = 11
  · rw [if_pos e11] at h
    by_cases ek : k < 6
    · rw [if_pos ek] at h; cases h; omega
    · rw [if_neg ek] at h; cases h
  rw [if_neg e11] at h
  by_cases e12 : c = 12
  · rw [if_pos e12] at h
    by_cases ek : k < 6
    · rw [if_pos ek] at h; cases h; omega
    · rw [if_neg ek] at h; cases h
  rw [if_neg e12] at h
  by_cases e13 : c = 13
  · rw [if_pos e13] at h
    by_cases ek : k < 6
    · rw [if_pos ek] at h; cases h; omega
    · rw [if_neg ek] at h; cases h
  rw [if_neg e13] at h
  by_cases e14 : c = 14
  · rw [if_pos e14] at h
    by_cases ek : k < 6
    · rw [if_pos ek] at h; cases h; omega
    · rw [if_neg ek] at h; cases h
  rw [if_neg e14] at h
  by_cases e15 : c = 15
  · rw [if_pos e15] at h
    by_cases ek : k < 31
    · rw [if_pos ek] at h; cases h; omega
    · rw [if_neg ek] at h; cases h
  rw [if_neg e15] at h
  by_cases e25 : c = 25
  · rw [if_pos e25] at h
    by_cases ek : k < 8
    · rw [if_pos ek] at h; cases h; omega
    · rw [if_neg ek] at h; cases h
  rw [if_neg e25] at h
  by_cases f1 : c < 2000
  · rw [if_pos f1] at h; cases h
  rw [if_neg f1] at h
  by_cases f2 : (c - 2000) % 8 = 0
  · rw [if_pos f2] at h
    by_cases ek : k = 0
    · rw [if_pos ek] at h; cases h; omega
    · rw [if_neg ek] at h; cases h
  rw [if_neg f2] at h
  by_cases f3 : (c - 2000) % 8 = 1
  · rw [if_pos f3] at h
    by_cases ek : k < 6
    · rw [if_pos ek] at h; cases h; omega
    · rw [if_neg ek] at h; cases h
  rw [if_neg f3] at h
  cases h
noncomputable def piG (g : Nat → Nat) (nA nK x : Nat) : Nat := @ite _ (x ∈ cL nA nK) (Classical.propDecidable _) (g x) (g ((x - 1000001) / 2))
theorem piG_in (h : c ∈ cL nA nK) : piG g nA nK c = g c := if_pos h
theorem CR_pi (hA : nA ≤ 250) (hK : nK ≤ 20) (h : CR g S (cp nA nK R I J)) : CR (piG g nA nK) S (cp nA nK (piR nA nK R) I J) := by
  refine ⟨fun c hc => ?_, fun c d hc hd e => ?_, fun c hc => ?_⟩
  · rw [piG_in hc]; exact h.1 c hc
  · rw [piG_in hc, piG_in hd] at e; exact h.2.1 c d hc hd e
  · rw [piG_in hc]
    obtain ⟨a1, a2, a3, a4, a5⟩ := h.2.2 c hc
    refine ⟨a1, a2, a3, fun k => ?_, a5⟩
    rw [a4 k]
    show (cR R c k).map g = (cR (piR nA nK R) c k).map (piG g nA nK)
    have hgp : ∀ d, piG g nA nK (piC nA nK d) = g d := fun d => by
      unfold piC
      by_cases e : d ∈ cL nA nK
      · rw [if_pos e, piG_in e]
      · rw [if_neg e]
        unfold piG
        rw [if_neg (fun z => by have := cL_small hA hK z; omega)]
        congr 1
        omega
    unfold cR
    by_cases e : dyn c k = true
    · rw [if_pos e, if_pos e]
      unfold piR
      cases R c k with
      | none => rfl
      | some d => show some (g d) = some (piG g nA nK (piC nA nK d)); rw [hgp d]
    · rw [if_neg e, if_neg e]
      cases hs : sR c k with
      | none => rfl
      | some d => show some (g d) = some (piG g nA nK d); rw [piG_in (sR_in hA hc hs)]
theorem piR_in {d : Nat} (h : R c k = some d) (hd : d ∈ cL nA nK) : piR nA nK R c k = some d := by
  unfold piR
  rw [h]
  show some (piC nA nK d) = some d
  rw [show piC nA nK d = d from if_pos hd]
theorem piR_no (hA : nA ≤ 250) {c0 : Nat} (h0 : c0 ∉ cL nA nK) (h1 : c0 < 1000000) {d : Nat} (hd : d ∈ cL nA nK) : cR (piR nA nK R) d k ≠ some c0 := by
  unfold cR
  by_cases e : dyn d k = true
  · rw [if_pos e]
    unfold piR
    cases R d k with
    | none => simp
    | some z =>
      show some (piC nA nK z) ≠ some c0
      by_cases e2 : z ∈ cL nA nK
      · rw [show piC nA nK z = z from if_pos e2]
        intro q
        cases q
        exact h0 e2
      · rw [show piC nA nK z = 2 * z + 1000001 from if_neg e2]
        intro q
        have : 2 * z + 1000001 = c0 := by injection q
        omega
  · rw [if_neg e]
    intro q
    exact h0 (sR_in hA hd q)
theorem CI_pi (hC : CI D nA nQ nE nT nw nc R I) : CI D nA nQ nE nT nw nc (piR nA (nQ + 2) R) I := by
  obtain ⟨⟨⟨a1, a2, a3, a4, a5, a6⟩, ⟨q1, q2, q3, q4, q5, q6, q7⟩, b3, b4, b5⟩, hS, hJ⟩ := hC
  have hA := a1.1
  refine ⟨⟨⟨a1, a2, a3, fun i hi => ?_, fun k hk => ?_, a6⟩, ⟨q1, q2, q3, fun q hq => piR_in (q4 q hq) (mQ0 (by omega)), fun q h1 h2 => ?_, piR_in q6 (mQ0 (by omega)), q7⟩, b3, b4, b5⟩, ⟨hS.1, ?_⟩, hJ⟩
  · obtain ⟨e5, er⟩ := a4 i hi
    exact ⟨piR_in e5 (mA hi), er⟩
  · exact piR_in (a5 k hk) (mA (byT_lt hk))
  · unfold piR; rw [q5 q h1 h2]; rfl
  · refine hS.2.imp id fun ⟨q, h1, h2, h3⟩ => ⟨q, h1, h2, fun z => ?_⟩
    obtain ⟨s1, s2, s3, s4, s5, s6, s7, s8⟩ := h3 z
    exact ⟨s1, s2, s3, piR_in s4 (mQ0 (by omega)), s5, s6, s7, fun j hj => piR_in (s8 j hj) (mA (FL_get hj))⟩
end
