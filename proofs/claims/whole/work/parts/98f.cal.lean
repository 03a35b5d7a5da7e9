def jr (z : Int64) : Nat → Nat → Int64 := fun c k => if c = 95 ∧ k = 0 then z else 0
theorem jr_ne {z : Int64} {c : Nat} (h : c ≠ 95) : jr z c = fun _ => 0 := by funext k; unfold jr; rw [if_neg (fun e => h e.1)]
section
variable {D D' : Mem} {nA nQ nE nT nw nc q a b s p k l ns fb pf m nK c : Nat} {R : RMem} {I I' : Mem} {z : Int64} {t v w u x y : Int32} {post : Int32 → Pool → Prop} {pst : Pool → Prop} {pox : String → Pool → Prop} {g : Nat → Nat} {S : Pool}
def zr (I : Mem) (c : Nat) : Mem := fun d => if d = c then (fun _ => 0) else I d
theorem zr_ne {d : Nat} (h : d ≠ c) : zr I c d = I d := if_neg h
theorem zr_at {j : Nat} : zr I c c j = 0 := by unfold zr; rw [if_pos rfl]
theorem CR_act {q : Nat} (hA : nA < 250) (hK : nK ≤ 20) (h : CR g S (cp nA nK R I (jr z))) (hq : q ∉ S.L) : ∃ g', g' (1000 + nA) = q ∧ (∀ c, c ∈ cL nA nK → g' c = g c) ∧ CR g' (S.add q 0 0) (cp (nA + 1) nK (piR nA nK R) (zr I (1000 + nA)) (jr z)) := by
  have h1 := CR_pi (by omega) hK h
  have hc0 : 1000 + nA ∉ cL nA nK := fun e => by have := mem_cL.mp e; omega
  have h2 := CR_new (kd := 0) (n := 0) h1 hq hc0 (fun c hc k => piR_no (by omega) hc0 (by omega) hc)
  refine ⟨fun c => if c = 1000 + nA then q else piG g nA nK c, if_pos rfl, fun c hc => ?_, CR_L h2 (fun c hc => ?_) (fun c hc => ?_)⟩
  · show (if c = 1000 + nA then q else piG g nA nK c) = g c
    rw [if_neg (fun e : c = 1000 + nA => hc0 (e ▸ hc)), piG_in hc]
  · show c ∈ cL nA nK ++ [1000 + nA]
    have hm := mem_cL.mp hc
    by_cases e : c = 1000 + nA
    · simp [e]
    · refine List.mem_append_left _ (mem_cL.mpr ?_)
      omega
  · by_cases e : c = 1000 + nA
    · subst e
      refine ⟨?_, ?_, ?_, fun k => ?_, ?_⟩
      · show cK (1000 + nA) = va_up cK (1000 + nA) 0 (1000 + nA); rw [va_up_at2, kA (by omega)]
      · show cN (1000 + nA) = va_up cN (1000 + nA) 0 (1000 + nA)
        rw [va_up_at2]
        unfold cN
        rw [if_neg (by omega), if_neg (by omega), if_neg (by omega), if_neg (by omega), if_pos (by omega)]
      · show zr I (1000 + nA) (1000 + nA) = va_up I (1000 + nA) _ (1000 + nA); rw [va_up_at2]; funext j; exact zr_at
      · show cR (piR nA nK R) (1000 + nA) k = va_up (cR (piR nA nK R)) (1000 + nA) _ (1000 + nA) k
        rw [va_up_at2]
        unfold cR
        rw [if_neg (by simp [dyn]; omega)]
        unfold sR
        repeat rw [if_neg (by omega)]
        rw [if_pos (by omega)]
      · show jr z (1000 + nA) = va_up (jr z) (1000 + nA) _ (1000 + nA); rw [va_up_at2, jr_ne (by omega)]
    · refine ⟨?_, ?_, ?_, fun k => ?_, ?_⟩
      · show cK c = va_up cK (1000 + nA) 0 c; rw [va_up_ne2 e]
      · show cN c = va_up cN (1000 + nA) 0 c; rw [va_up_ne2 e]
      · show zr I (1000 + nA) c = va_up I (1000 + nA) _ c; rw [va_up_ne2 e, zr_ne e]
      · show cR (piR nA nK R) c k = va_up (cR (piR nA nK R)) (1000 + nA) _ c k; rw [va_up_ne2 e]
      · show jr z c = va_up (jr z) (1000 + nA) _ c; rw [va_up_ne2 e]
theorem g_pI {J : Nat → Nat → Int64} {ci : Nat} {KP : Pool → Prop} (h : CR g S (cp nA nK R I J)) (hc : c ∈ cL nA nK) (hk : cK c = ci) (hp : ∀ S', CR g S' (cp nA nK R (p2 I c k v) J) → KP S') : xpI S (some (g c)) ci k v KP :=
  cr_pI h (r := some c) (K := fun M => M = cp nA nK R (p2 I c k v) J) (by rw [x1_pI hc hk]) (fun S1 M1 h1 e1 => hp S1 (e1 ▸ h1))
theorem g_I {J : Nat → Nat → Int64} {ci : Nat} {KI : Int32 → Prop} (h : CR g S (cp nA nK R I J)) (hc : c ∈ cL nA nK) (hk : cK c = ci) (hp : KI (I c k)) : xI S (some (g c)) ci k KI :=
  cr_I h (r := some c) (K := KI) (by rw [x1_I hc hk]; exact hp) (fun _ e => e)
theorem g_R {J : Nat → Nat → Int64} {ci : Nat} {KR : Option Nat → Prop} (h : CR g S (cp nA nK R I J)) (hc : c ∈ cL nA nK) (hk : cK c = ci) (hp : KR ((cR R c k).map g)) : xR S (some (g c)) ci k KR :=
  cr_R h (r := some c) (K := fun o => o = cR R c k) (by rw [x1_R hc hk]) (fun o e => by rw [e]; exact hp)
theorem g_rc {J : Nat → Nat → Int64} {ci : Nat} {K : Prop} (h : CR g S (cp nA nK R I J)) (hc : c ∈ cL nA nK) (hk : cK c = ci) (hp : K) : xrc S (some (g c)) ci K :=
  cr_rc h (r := some c) (K := K) (by rw [x1_rc hc hk]; exact hp) id
/-- a told act's own rows -/
def aI (I : Mem) (i : Nat) (n kd w x y u t : Int32) : Mem := p2 (p2 (p2 (p2 (p2 (p2 (p2 (p2 I (1000 + i) 0 n) (1000 + i) 1 kd) (1000 + i) 2 w) (1000 + i) 3 x) (1000 + i) 4 y) (1000 + i) 5 u) (1000 + i) 6 t) (1000 + i) 8 n
theorem g_init0 {J : Nat → Nat → Int64} {n kd : Int32} (hA : nA ≤ 250) (ha : a < nA) (h : CR g S (cp nA nK R I J)) (hp : ∀ S', CR g S' (cp nA nK R (aI I a n kd w x y u t) J) → pst S') : wX0_init pst (some (g (1000 + a))) n kd w x y u t S := by
  have hm : 1000 + a ∈ cL nA nK := mA ha
  have hk : cK (1000 + a) = 0 := kA (by omega)
  unfold wX0_init xnn
  refine ⟨by simp, ?_⟩
  refine g_pI h hm hk fun S1 h1 => g_pI h1 hm hk fun S2 h2 => g_pI h2 hm hk fun S3 h3 => g_pI h3 hm hk fun S4 h4 => g_pI h4 hm hk fun S5 h5 => g_pI h5 hm hk fun S6 h6 => g_pI h6 hm hk fun S7 h7 => g_pI h7 hm hk fun S8 h8 => hp S8 h8
theorem a_act {kd : Int32} (hC : CI D nA nQ nE nT nw nc R I) (h : CR g S (cp nA (nQ + 2) R I (jr z))) (hno : ¬ okA D kd w x y u → pox "java/lang/IllegalArgumentException" S)
    (hd : ∀ a S' I', okA D kd w x y u → a < nA → smA D a kd w x y u → (∀ c, c < a → ¬ smA D c kd w x y u) → CR g S' (cp nA (nQ + 2) R I' (jr z)) → CI (dbM D a) nA nQ nE nT nw nc R I' → post (-1) S')
    (hf : ∀ S', okA D kd w x y u → (∀ a, a < nA → ¬ smA D a kd w x y u) → nA = 250 → CR g S' (cp nA (nQ + 2) R I (jr z)) → pox "java/lang/UnsupportedOperationException" S')
    (hn : ∀ g' S' R' I', okA D kd w x y u → (∀ a, a < nA → ¬ smA D a kd w x y u) → nA < 250 → (∀ c, c < 96 → g' c = g c) → CR g' S' (cp (nA + 1) (nQ + 2) R' I' (jr z)) → CI (acM D nA kd w x y u) (nA + 1) nQ nE nT nw (nc + 1) R' I' → post (nI nA) S') :
    wX8_act pox post (some (g 0)) kd w x y u S := by
  have h8 := hC.1.2.1.1
  have h11 : I 0 11 = D 0 1 := hC.1.2.2.2.2.2.1
  have hA := hC.1.1.1.1
  have e42 : I 4 2 = nI nA := hC.1.1.2.2.2.2.2.1
  have lt8 : ∀ {v : Int32} {n : Int32} {m : Int32}, n.toInt = m.toInt + 1 → ((0 ≤ v ∧ v < n) ↔ (0 ≤ v ∧ v ≤ m)) := fun {v n m} e => by
    rw [Int32.lt_iff_toInt_lt, Int32.le_iff_toInt_le, Int32.le_iff_toInt_le]
    omega
  have c1 : (0 ≤ kd ∧ kd < 8) ↔ (0 ≤ kd ∧ kd ≤ 7) := lt8 (by decide)
  have c2 : (0 ≤ w ∧ w < 31) ↔ (0 ≤ w ∧ w ≤ 30) := lt8 (by decide)
  have c3 : (0 ≤ x ∧ x < 31) ↔ (0 ≤ x ∧ x ≤ 30) := lt8 (by decide)
  have c4 : (0 ≤ y ∧ y < 16) ↔ (0 ≤ y ∧ y ≤ 15) := lt8 (by decide)
  unfold wX8_act wX8_act_37 wX8_act_61
  rw [v_below, bI_br]
  refine brc (fun g1 => ?_) fun g1 => hno fun z => g1 (c1.mpr z.1)
  rw [v_below, bI_br]
  refine brc (fun g2 => ?_) fun g2 => hno fun z => g2 (c2.mpr z.2.1)
  rw [v_below, bI_br]
  refine brc (fun g3 => ?_) fun g3 => hno fun z => g3 (c3.mpr z.2.2.1)
  rw [v_below, bI_br]
  refine brc (fun g4 => ?_) fun g4 => hno fun z => g4 (c4.mpr z.2.2.2.1)
  refine brc (fun g5 => hno fun z => Int32.not_le.mpr g5 z.2.2.2.2.1) fun g5 => ?_
  refine g_I h (mS (by decide)) rfl ?_
  rw [h11]
  refine brc (fun g6 => ?_) fun g6 => hno fun z => g6 z.2.2.2.2.2
  have hok : okA D kd w x y u := ⟨c1.mp g1, c2.mp g2, c3.mp g3, c4.mp g4, Int32.not_lt.mp g5, g6⟩
  refine g_R h (mS (by decide)) rfl ?_
  show xrc S (some (g 4)) 2 _
  refine g_rc h (mS (by decide)) rfl ?_
  refine lX2_tookDouble (v0 := 4) h ?_
  refine v_took hA hC.1.1.2.2.2.1 e42 (fun a ha e1 e2 S' hS' => ?_) (fun hns S' hS' => ?_)
  · rw [brf (by decide)]
    exact hd a S' _ hok ha e1 e2 hS' (CI_dbl hC ha)
  · rw [brt rfl]
    refine g_R hS' (mS (by decide)) rfl ?_
    show xI S' (some (g 4)) 2 2 _
    refine g_I hS' (mS (by decide)) rfl ?_
    rw [e42, show (250 : Int32) = nI 250 from rfl, ilt (by omega) (by decide)]
    refine brc (fun hlt => ?_) fun hlt => hf S' hok hns (by omega) hS'
    refine g_R hS' (mS (by decide)) rfl ?_
    show xI S' (some (g 4)) 2 2 _
    refine g_I hS' (mS (by decide)) rfl ?_
    rw [e42]
    refine g_R hS' (mS (by decide)) rfl ?_
    show xnw S' 0 _
    intro q hq
    obtain ⟨g', rfl, hgg, hCR⟩ := CR_act hlt (by omega) hS' hq
    have hg96 : ∀ c, c < 96 → g' c = g c := fun c hc => hgg c (mS hc)
    rw [← hg96 0 (by decide)]
    have hsg : ((cR R 0 2).map g) = some (g' 4) := by rw [hg96 4 (by decide)]; rfl
    rw [hsg]
    refine g_I hCR (mS (by decide)) rfl ?_
    unfold xnn
    refine ⟨by simp, ?_⟩
    rw [show zr I (1000 + nA) 0 11 = D 0 1 by rw [zr_ne (by omega)]; exact h11]
    refine g_init0 (by omega) (show nA < nA + 1 by omega) hCR fun S2 hS2 => ?_
    refine g_rc hS2 (mS (by decide)) rfl ?_
    refine lX2_add (v0 := 4) (v1 := 1000 + nA) hS2 ?_
    have hCp := CI_pi hC
    have z5 : ∀ j, j ≠ 0 → j ≠ 1 → j ≠ 2 → j ≠ 3 → j ≠ 4 → j ≠ 5 → j ≠ 6 → j ≠ 8 → aI (zr I (1000 + nA)) nA (nI nA) kd w x y u (D 0 1) (1000 + nA) j = 0 := fun j h0 h1 h2 h3 h4 h5 h6 h8 => by
      unfold aI
      rw [p2_row h8, p2_row h6, p2_row h5, p2_row h4, p2_row h3, p2_row h2, p2_row h1, p2_row h0, zr_at]
    have zc : ∀ c, c ≠ 1000 + nA → aI (zr I (1000 + nA)) nA (nI nA) kd w x y u (D 0 1) c = I c := fun c hc => by
      unfold aI
      rw [p2_ne hc, p2_ne hc, p2_ne hc, p2_ne hc, p2_ne hc, p2_ne hc, p2_ne hc, p2_ne hc, zr_ne hc]
    have aclt : ∀ i, i < nA → acM D nA kd w x y u 6 i = D 6 i ∧ (∀ f, f < 3 → acM D nA kd w x y u 7 (3 * i + f) = D 7 (3 * i + f)) ∧ acM D nA kd w x y u 8 i = D 8 i ∧ acM D nA kd w x y u 9 i = D 9 i ∧ acM D nA kd w x y u 10 i = D 10 i := fun i hi => by
      unfold acM
      refine ⟨?_, fun f hf => ?_, ?_, ?_, ?_⟩
      · simp (disch := first | decide | omega) only [p2_ne, p2_row]
      · simp (disch := first | decide | omega) only [p2_ne, p2_row]
      · simp (disch := first | decide | omega) only [p2_ne, p2_row]
      · simp (disch := first | decide | omega) only [p2_ne, p2_row]
      · simp (disch := first | decide | omega) only [p2_ne, p2_row]
    have hfam : ∀ i, i < nA → fam (acM D nA kd w x y u) i = fam D i := fun i hi => by
      have halk : ∀ b, b ≤ i → (alk (acM D nA kd w x y u) i b ↔ alk D i b) := fun b hb => by
        obtain ⟨y1, y2, _⟩ := aclt i hi
        obtain ⟨w1, w2, _⟩ := aclt b (by omega)
        have y20 := y2 0 (by decide)
        have y21 := y2 1 (by decide)
        have w20 := w2 0 (by decide)
        have w21 := w2 1 (by decide)
        rw [Nat.add_zero] at y20 w20
        unfold alk
        rw [y1, w1, y20, y21, w20, w21]
      obtain ⟨a1, a2, a3⟩ := @fam_ok D i
      obtain ⟨b1, b2, b3⟩ := @fam_ok (acM D nA kd w x y u) i
      by_cases e1 : fam (acM D nA kd w x y u) i < fam D i
      · exact absurd ((halk _ b1).mp b2) (a3 _ e1)
      · by_cases e2 : fam D i < fam (acM D nA kd w x y u) i
        · exact absurd ((halk _ a1).mpr a2) (b3 _ e2)
        · omega
    refine v_add (D := acM D nA kd w x y u) hlt (fun i hi => ?_) (fun k hk => ?_) ?_ ?_ ?_ (fun f hf => ?_) ?_ ?_ ?_ fun R' I' r1 r2 r3 r4 r5 r6 r7 S3 hS3 => ?_
    · obtain ⟨e5, f0, f1, f2, f5, f6, f7, f8⟩ := hCp.1.1.2.2.2.1 i hi
      obtain ⟨y1, y2, y3, y4, y5⟩ := aclt i hi
      rw [zc (1000 + i) (by omega), y1, y3, y4, y5, hfam i hi]
      exact ⟨e5, f0, f1, fun f hf => by rw [y2 f hf]; exact f2 f hf, f5, f6, f7, f8⟩
    · rw [byT_cg2 nA fun i hi => (aclt i hi).2.2.1]
      exact hCp.1.1.2.2.2.2.1 k hk
    · rw [zc 4 (by omega)]; exact e42
    · unfold aI; simp (disch := first | decide | omega) only [p2_row, p2_same]
    · unfold aI acM; simp (disch := first | decide | omega) only [p2_ne, p2_row, p2_same]
    · unfold aI acM
      rcases (show f = 0 ∨ f = 1 ∨ f = 2 by omega) with rfl | rfl | rfl
      · simp (disch := first | decide | omega) only [p2_ne, p2_row, p2_same, Nat.add_zero]
      · simp (disch := first | decide | omega) only [p2_ne, p2_row, p2_same]
      · simp (disch := first | decide | omega) only [p2_ne, p2_row, p2_same]
    · unfold aI acM; simp (disch := first | decide | omega) only [p2_ne, p2_row, p2_same]
    · unfold aI acM; simp (disch := first | decide | omega) only [p2_ne, p2_row, p2_same]
    · rw [z5 7 (by decide) (by decide) (by decide) (by decide) (by decide) (by decide) (by decide) (by decide)]
      unfold acM; simp (disch := first | decide | omega) only [p2_ne, p2_row, p2_same]
    · have e14 : I' 0 14 = nI nc := by rw [r6 0 (by decide) (by omega), zc 0 (by omega)]; exact hC.2.2.1
      refine g_I hS3 (mS (by decide)) rfl ?_
      refine g_pI hS3 (mS (by decide)) rfl fun S4 hS4 => ?_
      rw [e14, ix1] at hS4
      have h8' : acM D nA kd w x y u 8 nA = u := by unfold acM; simp (disch := first | decide | omega) only [p2_ne, p2_row, p2_same]
      have h9' : acM D nA kd w x y u 9 nA = D 0 1 := by unfold acM; simp (disch := first | decide | omega) only [p2_ne, p2_row, p2_same]
      have hlast := CI_act (I1 := I) hCp hlt hok (I' := p2 I' 0 14 (nI (nc + 1))) (AC_cg (fun c h1 h2 => p2_ne (by omega)) (by omega) rfl r1) r2 (by rw [p2_ne (by decide)]; exact r3) (by rw [p2_ne (by decide), r4, zc 4 (by omega)]) (by rw [p2_ne (by decide), r5, h8', h9', zc 4 (by omega)]) (fun c h1 h2 h3 => by rw [p2_ne h1, r6 c h2 h3, zc c h3]) (fun k hk => by rw [p2_row hk, r6 0 (by decide) (by omega), zc 0 (by omega)]) p2_same (fun c h1 h2 => r7 c h1 h2)
      exact hn g' S4 R' _ hok hns hlt hg96 hS4 hlast
end
