/-! ===== a new question ===== -/
def CLb (M : Pool) : Prop := ∀ c, c ∈ M.L → ∀ k d, M.R c k = some d → d ∈ M.L ∨ 1000000 < d
section
variable {g : Nat → Nat} {S M : Pool} {c c0 k kd ci b s : Nat} {nA nK : Nat} {R : RMem} {I : Mem} {z : Int64} {pst : Pool → Prop}
theorem CLb_add (h : CLb M) {n : Nat} : CLb (M.add c0 kd n) := by
  intro c hc k d hd
  have hc : c ∈ M.L ++ [c0] := hc
  have hd : va_up M.R c0 (fun _ => none) c k = some d := hd
  by_cases e : c = c0
  · rw [e, va_up_at2] at hd; cases hd
  · rw [va_up_ne2 e] at hd
    rcases List.mem_append.mp hc with h1 | h1
    · exact (h c h1 k d hd).imp (fun z => List.mem_append_left _ z) id
    · exact absurd (by simpa using h1) e
theorem CLb_sr (h : CLb M) {v : Option Nat} (hv : ∀ d, v = some d → d ∈ M.L) : CLb (M.sr c k v) := by
  intro c1 hc k1 d hd
  have hd : p2 M.R c k v c1 k1 = some d := hd
  by_cases e : c1 = c
  · subst e
    rw [p2_at] at hd
    by_cases e2 : k1 = k
    · simp only [if_pos e2] at hd; exact .inl (hv d hd)
    · simp only [if_neg e2] at hd; exact h c1 hc k1 d hd
  · rw [p2_ne e] at hd; exact h c1 hc k1 d hd
theorem gm_new {K : Option Nat → Pool → Prop} (h : CR g S M) (hc : CLb M) (h0 : c0 ∉ M.L) (hs : c0 ≤ 1000000) (hp : ∀ g' S', (∀ c, c ∈ M.L → g' c = g c) → CR g' S' (M.add c0 kd 0) → K (some (g' c0)) S') : xnw S kd K := by
  intro q hq
  have h1 := CR_new (kd := kd) (n := 0) h hq h0 (fun c hc' k e => by
    rcases hc c hc' k c0 e with z | z
    · exact h0 z
    · omega)
  have := hp _ _ (fun c hc' => if_neg (fun e : c = c0 => h0 (e ▸ hc'))) h1
  simp only [if_true] at this
  exact this
theorem gm_na {K : Option Nat → Pool → Prop} {n : Int32} {N : Nat} (hn : ¬ n < 0 ∧ n.toNatClampNeg = N) (h : CR g S M) (hc : CLb M) (h0 : c0 ∉ M.L) (hs : c0 ≤ 1000000) (hp : ∀ g' S', (∀ c, c ∈ M.L → g' c = g c) → CR g' S' (M.add c0 kd N) → K (some (g' c0)) S') : xna S kd n N K := by
  refine ⟨hn.1, hn.2, fun q hq => ?_⟩
  have h1 := CR_new (kd := kd) (n := N) h hq h0 (fun c hc' k e => by
    rcases hc c hc' k c0 e with z | z
    · exact h0 z
    · omega)
  have := hp _ _ (fun c hc' => if_neg (fun e : c = c0 => h0 (e ▸ hc'))) h1
  simp only [if_true] at this
  exact this
theorem gm_pR {KP : Pool → Prop} {v : Option Nat} (h : CR g S M) (hc : c ∈ M.L) (hk : M.K c = ci) (hp : ∀ S', CR g S' (M.sr c k v) → KP S') : xpR S (some (g c)) ci k (v.map g) KP :=
  cr_pR h (r := some c) (K := fun M' => M' = M.sr c k v) ⟨c, rfl, hc, hk, rfl⟩ (fun S1 M1 h1 e1 => hp S1 (e1 ▸ h1))
theorem gm_pI {KP : Pool → Prop} {v : Int32} (h : CR g S M) (hc : c ∈ M.L) (hk : M.K c = ci) (hp : ∀ S', CR g S' (M.si c k v) → KP S') : xpI S (some (g c)) ci k v KP :=
  cr_pI h (r := some c) (K := fun M' => M' = M.si c k v) ⟨c, rfl, hc, hk, rfl⟩ (fun S1 M1 h1 e1 => hp S1 (e1 ▸ h1))
theorem gm_R {KR : Option Nat → Prop} (h : CR g S M) (hc : c ∈ M.L) (hk : M.K c = ci) (hp : KR ((M.R c k).map g)) : xR S (some (g c)) ci k KR :=
  cr_R h (r := some c) (K := fun o => o = M.R c k) ⟨c, rfl, hc, hk, rfl⟩ (fun o e => by rw [e]; exact hp)
theorem gm_sR {KP : Pool → Prop} {v : Option Nat} {kv : Nat} {i : Int32} (h : CR g S M) (hc : c ∈ M.L) (hk : M.K c = ci) (hi : vp_in i (M.len c)) (hv : ∀ b, v = some b → b ∈ M.L ∧ M.K b = kv) (hp : ∀ S', CR g S' (M.sr c i.toNatClampNeg v) → KP S') : xsR S (some (g c)) ci kv i (v.map g) KP :=
  cr_sR h (r := some c) (K := fun M' => M' = M.sr c i.toNatClampNeg v) ⟨c, rfl, hc, hk, hi, hv, rfl⟩ (fun S1 M1 h1 e1 => hp S1 (e1 ▸ h1))
/-- the question b with n of its steps made -/
def QP (M0 M : Pool) (b n : Nat) : Prop := (∀ c, c ∈ M.L ↔ c ∈ M0.L ∨ (b ≤ c ∧ c < b + 2 + n)) ∧ (∀ c, c ∈ M0.L → M.K c = M0.K c ∧ M.len c = M0.len c ∧ M.I c = M0.I c ∧ M.R c = M0.R c ∧ M.J c = M0.J c) ∧ M.K b = 3 ∧ M.len b = 0 ∧ M.K (b + 1) = 14 ∧ M.len (b + 1) = 6 ∧ (∀ k, M.R b k = if k = 0 then some (b + 1) else none) ∧ (∀ k, M.R (b + 1) k = if k < n then some (b + 2 + k) else none) ∧ (∀ s, s < n → M.K (b + 2 + s) = 5 ∧ M.len (b + 2 + s) = 0 ∧ ∀ k, M.R (b + 2 + s) k = none) ∧ ∀ c, b ≤ c → c < b + 2 + n → M.I c = (fun _ => 0) ∧ M.J c = (fun _ => 0)
theorem QP_s {M0 : Pool} {n : Nat} (h0 : ∀ c, c ∈ M0.L → ¬ (b ≤ c ∧ c < b + 8)) (hn : n < 6) (h : QP M0 M b n) : QP M0 ((M.add (b + 2 + n) 5 0).sr (b + 1) n (some (b + 2 + n))) b (n + 1) := by
  obtain ⟨q1, q2, q3, q4, q5, q6, q7, q8, q9, q10⟩ := h
  have hne : ∀ c, c ∈ M0.L → c ≠ b + 2 + n ∧ c ≠ b + 1 := fun c hc => by have := h0 c hc; omega
  have eK : ∀ c, c ≠ b + 2 + n → ((M.add (b + 2 + n) 5 0).sr (b + 1) n (some (b + 2 + n))).K c = M.K c := fun c hc => va_up_ne2 hc
  have el : ∀ c, c ≠ b + 2 + n → ((M.add (b + 2 + n) 5 0).sr (b + 1) n (some (b + 2 + n))).len c = M.len c := fun c hc => va_up_ne2 hc
  have eI : ∀ c, c ≠ b + 2 + n → ((M.add (b + 2 + n) 5 0).sr (b + 1) n (some (b + 2 + n))).I c = M.I c := fun c hc => va_up_ne2 hc
  have eJ : ∀ c, c ≠ b + 2 + n → ((M.add (b + 2 + n) 5 0).sr (b + 1) n (some (b + 2 + n))).J c = M.J c := fun c hc => va_up_ne2 hc
  have eR : ∀ c, c ≠ b + 2 + n → c ≠ b + 1 → ((M.add (b + 2 + n) 5 0).sr (b + 1) n (some (b + 2 + n))).R c = M.R c := fun c hc hc2 => by
    show p2 (va_up M.R (b + 2 + n) _) (b + 1) n _ c = _
    rw [p2_ne hc2, va_up_ne2 hc]
  refine ⟨fun c => ?_, fun c hc => ?_, ?_, ?_, ?_, ?_, fun k => ?_, fun k => ?_, fun s hs => ?_, fun c h1 h2 => ?_⟩
  · show c ∈ M.L ++ [b + 2 + n] ↔ _
    rw [List.mem_append, q1 c, List.mem_singleton]
    constructor
    · rintro ((h | h) | h)
      · exact .inl h
      · exact .inr (by omega)
      · exact .inr (by omega)
    · rintro (h | h)
      · exact .inl (.inl h)
      · by_cases e : c = b + 2 + n
        · exact .inr e
        · exact .inl (.inr (by omega))
  · have := hne c hc
    rw [eK c this.1, el c this.1, eI c this.1, eJ c this.1, eR c this.1 this.2]
    exact q2 c hc
  · rw [eK b (by omega)]; exact q3
  · rw [el b (by omega)]; exact q4
  · rw [eK _ (by omega)]; exact q5
  · rw [el _ (by omega)]; exact q6
  · rw [eR b (by omega) (by omega)]; exact q7 k
  · show p2 (va_up M.R (b + 2 + n) _) (b + 1) n _ (b + 1) k = _
    rw [p2_at, va_up_ne2 (show b + 1 ≠ b + 2 + n by omega)]
    by_cases e : k = n
    · subst e; simp
    · simp only [if_neg e]
      rw [q8 k]
      by_cases e2 : k < n
      · rw [if_pos e2, if_pos (by omega)]
      · rw [if_neg e2, if_neg (by omega)]
  · by_cases e : s = n
    · subst e
      refine ⟨?_, ?_, fun k => ?_⟩
      · show va_up M.K _ _ _ = 5; rw [va_up_at2]
      · show va_up M.len _ _ _ = 0; rw [va_up_at2]
      · show p2 (va_up M.R (b + 2 + s) _) (b + 1) s _ (b + 2 + s) k = none
        rw [p2_ne (by omega), va_up_at2]
    · rw [eK _ (by omega), el _ (by omega)]
      refine ⟨(q9 s (by omega)).1, (q9 s (by omega)).2.1, fun k => ?_⟩
      rw [eR _ (by omega) (by omega)]; exact (q9 s (by omega)).2.2 k
  · by_cases e : c = b + 2 + n
    · subst e
      refine ⟨?_, ?_⟩
      · show va_up M.I _ _ _ = _; rw [va_up_at2]
      · show va_up M.J _ _ _ = _; rw [va_up_at2]
    · rw [eI c e, eJ c e]; exact q10 c h1 (by omega)
theorem g_step {M0 : Pool} {n A : Nat} {i : Int32} {K : Pool → Prop} (hi : i = nI n) (hb : b < 900000) (h0 : ∀ c, c ∈ M0.L → ¬ (b ≤ c ∧ c < b + 8)) (hn : n < 6) (hQ : QP M0 M b n) (hc : CLb M) (h : CR g S M) (hA : g b = A) (hp : ∀ g' S' M', (∀ c, c ∈ M0.L → g' c = g c) → g' b = A → CR g' S' M' → CLb M' → QP M0 M' b (n + 1) → K S') : xR S (some A) 3 0 fun a5 => xnw S 5 fun a6 S7 => xnn a6 (wX5_init (fun S8 => xsR S8 a5 14 5 i a6 K) a6 S7) := by
  obtain ⟨q1, q2, q3, q4, q5, q6, q7, q8, q9, q10⟩ := id hQ
  have hbL : b ∈ M.L := (q1 b).mpr (.inr (by omega))
  have hb1 : b + 1 ∈ M.L := (q1 _).mpr (.inr (by omega))
  have hnew : b + 2 + n ∉ M.L := fun e => by
    rcases (q1 _).mp e with z | z
    · exact h0 _ z (by omega)
    · omega
  rw [← hA]
  refine gm_R h hbL q3 ?_
  rw [q7 0, if_pos rfl]
  refine gm_new h hc hnew (by omega) fun g' S' hg' hCR => ?_
  unfold xnn
  refine ⟨⟨_, rfl⟩, ?_⟩
  unfold wX5_init xnn
  refine ⟨⟨_, rfl⟩, ?_⟩
  have e1 : (some (b + 1)).map g = some (g' (b + 1)) := by rw [hg' _ hb1]; rfl
  rw [e1]
  have hm : ∀ c, c ∈ (M.add (b + 2 + n) 5 0).L ↔ c ∈ M.L ∨ c = b + 2 + n := fun c => by show c ∈ M.L ++ [b + 2 + n] ↔ _; simp
  refine gm_sR (v := some (b + 2 + n)) hCR ((hm _).mpr (.inl hb1)) ?_ ?_ (fun d hd => ?_) fun S2 hS2 => ?_
  · show va_up M.K _ _ _ = 14; rw [va_up_ne2 (by omega)]; exact q5
  · show vp_in i (va_up M.len _ _ _); rw [va_up_ne2 (by omega), q6, hi]; exact vp_in_nI hn (by decide)
  · cases hd
    refine ⟨(hm _).mpr (.inr rfl), ?_⟩
    show va_up M.K _ _ _ = 5; rw [va_up_at2]
  · rw [hi, nI_clamp (by omega)] at hS2
    refine hp g' S2 _ (fun c hc => hg' c ((q1 c).mpr (.inl hc))) (by rw [hg' b hbL]; exact hA) hS2 (CLb_sr (CLb_add hc) fun d hd => ?_) (QP_s h0 hn hQ)
    cases hd
    exact (hm _).mpr (.inr rfl)
theorem g_init3 {A : Nat} (hb : b < 900000) (h0 : ∀ c, c ∈ M.L → ¬ (b ≤ c ∧ c < b + 8)) (hc : CLb M) (h : CR g S (M.add b 3 0)) (hA : g b = A) (hp : ∀ g' S' M', (∀ c, c ∈ M.L → g' c = g c) → g' b = A → CR g' S' M' → CLb M' → QP M M' b 6 → pst S') : wX3_init pst (some A) S := by
  have hm : ∀ c, c ∈ (M.add b 3 0).L ↔ c ∈ M.L ∨ c = b := fun c => by show c ∈ M.L ++ [b] ↔ _; simp
  have hm2 : ∀ c, c ∈ ((M.add b 3 0).add (b + 1) 14 6).L ↔ (c ∈ M.L ∨ c = b) ∨ c = b + 1 := fun c => by show c ∈ (M.L ++ [b]) ++ [b + 1] ↔ _; simp [or_assoc]
  unfold wX3_init xnn
  refine ⟨⟨_, rfl⟩, ?_⟩
  refine gm_na (c0 := b + 1) ⟨by decide, by decide⟩ h (CLb_add hc) (fun e => ?_) (by omega) fun g1 S1 hg1 hCR1 => ?_
  · rcases (hm _).mp e with z | z
    · exact h0 _ z (by omega)
    · omega
  have hA1 : g1 b = A := by rw [hg1 b ((hm b).mpr (.inr rfl))]; exact hA
  have hs1 : some (g1 (b + 1)) = (some (b + 1)).map g1 := rfl
  rw [← hA1, hs1]
  refine gm_pR hCR1 ((hm2 b).mpr (.inl (.inr rfl))) ?_ fun S2 hS2 => ?_
  · show va_up (va_up M.K b 3) (b + 1) 14 b = 3; rw [va_up_ne2 (by omega), va_up_at2]
  have hQ0 : QP M (((M.add b 3 0).add (b + 1) 14 6).sr b 0 (some (b + 1))) b 0 := by
    refine ⟨fun c => ?_, fun c hc => ?_, ?_, ?_, ?_, ?_, fun k => ?_, fun k => ?_, fun s hs => by omega, fun c h1 h2 => ?_⟩
    · rw [show c ∈ (((M.add b 3 0).add (b + 1) 14 6).sr b 0 (some (b + 1))).L ↔ _ from hm2 c]
      constructor
      · rintro ((z | z) | z)
        · exact .inl z
        · exact .inr (by omega)
        · exact .inr (by omega)
      · rintro (z | z)
        · exact .inl (.inl z)
        · by_cases e : c = b
          · exact .inl (.inr e)
          · exact .inr (by omega)
    · have := h0 c hc
      refine ⟨?_, ?_, ?_, ?_, ?_⟩
      · show va_up (va_up M.K b 3) (b + 1) 14 c = _; rw [va_up_ne2 (by omega), va_up_ne2 (by omega)]
      · show va_up (va_up M.len b 0) (b + 1) 6 c = _; rw [va_up_ne2 (by omega), va_up_ne2 (by omega)]
      · show va_up (va_up M.I b _) (b + 1) _ c = _; rw [va_up_ne2 (by omega), va_up_ne2 (by omega)]
      · show p2 (va_up (va_up M.R b _) (b + 1) _) b 0 _ c = _; rw [p2_ne (by omega), va_up_ne2 (by omega), va_up_ne2 (by omega)]
      · show va_up (va_up M.J b _) (b + 1) _ c = _; rw [va_up_ne2 (by omega), va_up_ne2 (by omega)]
    · show va_up (va_up M.K b 3) (b + 1) 14 b = 3; rw [va_up_ne2 (by omega), va_up_at2]
    · show va_up (va_up M.len b 0) (b + 1) 6 b = 0; rw [va_up_ne2 (by omega), va_up_at2]
    · show va_up (va_up M.K b 3) (b + 1) 14 (b + 1) = 14; rw [va_up_at2]
    · show va_up (va_up M.len b 0) (b + 1) 6 (b + 1) = 6; rw [va_up_at2]
    · show p2 (va_up (va_up M.R b _) (b + 1) _) b 0 _ b k = _
      rw [p2_at, va_up_ne2 (show b ≠ b + 1 by omega), va_up_at2]
    · show p2 (va_up (va_up M.R b _) (b + 1) _) b 0 _ (b + 1) k = _
      rw [p2_ne (by omega), va_up_at2, if_neg (by omega)]
    · by_cases e : c = b
      · subst e
        refine ⟨?_, ?_⟩
        · show va_up (va_up M.I c _) (c + 1) _ c = _; rw [va_up_ne2 (by omega), va_up_at2]
        · show va_up (va_up M.J c _) (c + 1) _ c = _; rw [va_up_ne2 (by omega), va_up_at2]
      · have e : c = b + 1 := by omega
        subst e
        refine ⟨?_, ?_⟩
        · show va_up (va_up M.I b _) (b + 1) _ (b + 1) = _; rw [va_up_at2]
        · show va_up (va_up M.J b _) (b + 1) _ (b + 1) = _; rw [va_up_at2]
  have hc0 : CLb (((M.add b 3 0).add (b + 1) 14 6).sr b 0 (some (b + 1))) := CLb_sr (CLb_add (CLb_add hc)) fun d hd => by cases hd; exact (hm2 _).mpr (.inr rfl)
  have hgM : ∀ c, c ∈ M.L → g1 c = g c := fun c hc => hg1 c ((hm c).mpr (.inl hc))
  refine g_step (n := 0) rfl hb h0 (by decide) hQ0 hc0 hS2 rfl fun g2 S3 M3 k1 k2 k3 k4 k5 => ?_
  refine g_step (n := 1) rfl hb h0 (by decide) k5 k4 k3 k2 fun g3 S4 M4 l1 l2 l3 l4 l5 => ?_
  refine g_step (n := 2) rfl hb h0 (by decide) l5 l4 l3 l2 fun g4 S5 M5 m1 m2 m3 m4 m5 => ?_
  refine g_step (n := 3) rfl hb h0 (by decide) m5 m4 m3 m2 fun g5 S6 M6 n1 n2 n3 n4 n5 => ?_
  refine g_step (n := 4) rfl hb h0 (by decide) n5 n4 n3 n2 fun g6 S7 M7 o1 o2 o3 o4 o5 => ?_
  refine g_step (n := 5) rfl hb h0 (by decide) o5 o4 o3 o2 fun g7 S8 M8 p1 p2' p3 p4 p5 => ?_
  exact hp g7 S8 M8 (fun c hc => by rw [p1 c hc, o1 c hc, n1 c hc, m1 c hc, l1 c hc, k1 c hc, hgM c hc]) (p2'.trans hA1) p3 p4 p5
/-- the pool with one question more -/
def zq (I : Mem) (b : Nat) : Mem := fun d => if b ≤ d ∧ d < b + 8 then (fun _ => 0) else I d
theorem QP_cp (hA : nA ≤ 250) (h : QP (cp nA nK R I (jr z)) M (2000 + 8 * nK) 6) (hC : CR g S M) : CR g S (cp nA (nK + 1) R (zq I (2000 + 8 * nK)) (jr z)) := by
  obtain ⟨q1, q2, q3, q4, q5, q6, q7, q8, q9, q10⟩ := h
  refine CR_L hC (fun c hc => ?_) (fun c hc => ?_)
  · have hm := mem_cL.mp hc
    refine (q1 c).mpr ?_
    by_cases e : 2000 + 8 * nK ≤ c ∧ c < 2000 + 8 * nK + 8
    · exact .inr (by omega)
    · refine .inl (mem_cL.mpr ?_)
      omega
  · have hm := mem_cL.mp hc
    have hdyn : ∀ k, 2000 ≤ c → ¬ dyn c k = true := fun k h2 => by simp [dyn]; omega
    by_cases e : 2000 + 8 * nK ≤ c ∧ c < 2000 + 8 * nK + 8
    · have hIJ := q10 c e.1 (by omega)
      have hI : zq I (2000 + 8 * nK) c = M.I c := by rw [hIJ.1]; unfold zq; rw [if_pos e]
      have hJ : jr z c = M.J c := by rw [hIJ.2, jr_ne (by omega)]
      by_cases e0 : c = 2000 + 8 * nK
      · subst e0
        refine ⟨by rw [q3]; exact kQ, ?_, hI, fun k => ?_, hJ⟩
        · rw [q4]; show cN _ = 0; unfold cN; rw [if_neg (by omega), if_neg (by omega), if_neg (by omega), if_neg (by omega), if_neg (by omega), if_neg (by omega)]
        · rw [q7 k]
          show cR R (2000 + 8 * nK) k = _
          unfold cR
          rw [if_neg (hdyn k (by omega))]
          unfold sR
          repeat rw [if_neg (by omega)]
          rw [if_pos (by omega)]
      · by_cases e1 : c = 2000 + 8 * nK + 1
        · subst e1
          refine ⟨by rw [q5]; exact kQ1, by rw [q6]; exact nQ1, hI, fun k => ?_, hJ⟩
          rw [q8 k]
          show cR R (2000 + 8 * nK + 1) k = _
          unfold cR
          rw [if_neg (hdyn k (by omega))]
          unfold sR
          repeat rw [if_neg (by omega)]
          rw [if_pos (by omega)]
        · obtain ⟨s, hs, rfl⟩ : ∃ s, s < 6 ∧ c = 2000 + 8 * nK + 2 + s := ⟨c - (2000 + 8 * nK + 2), by omega, by omega⟩
          obtain ⟨r1, r2, r3⟩ := q9 s hs
          refine ⟨by rw [r1]; exact kQs hs, ?_, hI, fun k => ?_, hJ⟩
          · rw [r2]; show cN _ = 0; unfold cN; rw [if_neg (by omega), if_neg (by omega), if_neg (by omega), if_neg (by omega), if_neg (by omega), if_neg (by omega)]
          · rw [r3 k]
            show cR R _ k = _
            unfold cR
            rw [if_neg (hdyn k (by omega))]
            unfold sR
            repeat rw [if_neg (by omega)]
    · have hc0 : c ∈ cL nA nK := mem_cL.mpr (by omega)
      obtain ⟨r1, r2, r3, r4, r5⟩ := q2 c hc0
      refine ⟨r1.symm, r2.symm, ?_, fun k => by rw [r4]; rfl, r5.symm⟩
      rw [r3]
      show zq I (2000 + 8 * nK) c = I c
      unfold zq
      rw [if_neg e]
end
