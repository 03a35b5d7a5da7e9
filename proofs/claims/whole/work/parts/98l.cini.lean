/-! ===== the beginnings ===== -/
def PPo (Kf Nf : Nat → Nat) (U : List Nat) (R : RMem) (I : Mem) : Pool := (U, Kf, Nf, R, I, fun _ _ => 0)
def FS (S : Pool) : Prop := ∀ b, b ∉ S.L → S.R b = (fun _ => none) ∧ S.J b = (fun _ => 0) ∧ S.I b = (fun _ => 0)
def IR (Kf Nf : Nat → Nat) (g : Nat → Nat) (S : Pool) (U : List Nat) (R : RMem) (I : Mem) : Prop := CR g S (PPo Kf Nf U R I) ∧ FS S ∧ ∀ c, c ∈ U → ∀ k d, R c k = some d → d ∈ U
section
variable {Kf Nf : Nat → Nat} {g : Nat → Nat} {S : Pool} {U : List Nat} {R : RMem} {I : Mem} {c d c0 k kd ci N m r0 b : Nat} {v : Int32} {KP pst : Pool → Prop} {KR : Option Nat → Prop} {KN : Option Nat → Pool → Prop}
theorem IR_new {q : Nat} (h : IR Kf Nf g S U R I) (h0 : c0 ∉ U) (hk : Kf c0 = kd) (hn : Nf c0 = N) (hR : R c0 = fun _ => none) (hI : I c0 = fun _ => 0) (hq : q ∉ S.L) : IR Kf Nf (fun c => if c = c0 then q else g c) (S.add q kd N) (U ++ [c0]) R I := by
  obtain ⟨h1, h2, h3⟩ := h
  have h4 := CR_new (kd := kd) (n := N) h1 hq h0 (fun c hc k e => h0 (h3 c hc k c0 e))
  refine ⟨CR_L h4 (fun c hc => hc) (fun c hc => ?_), fun b hb => ?_, fun c hc k d hd => ?_⟩
  · by_cases e : c = c0
    · subst e
      refine ⟨?_, ?_, ?_, fun k => ?_, ?_⟩
      · show Kf c = va_up Kf c kd c; rw [va_up_at2, hk]
      · show Nf c = va_up Nf c N c; rw [va_up_at2, hn]
      · show I c = va_up I c _ c; rw [va_up_at2, hI]
      · show R c k = va_up R c _ c k; rw [va_up_at2, hR]
      · show _ = va_up (fun _ _ => (0 : Int64)) c _ c; rw [va_up_at2]; rfl
    · refine ⟨?_, ?_, ?_, fun k => ?_, ?_⟩
      · show Kf c = va_up Kf c0 kd c; rw [va_up_ne2 e]
      · show Nf c = va_up Nf c0 N c; rw [va_up_ne2 e]
      · show I c = va_up I c0 _ c; rw [va_up_ne2 e]
      · show R c k = va_up R c0 _ c k; rw [va_up_ne2 e]
      · show _ = va_up (fun _ _ => (0 : Int64)) c0 _ c; rw [va_up_ne2 e]; rfl
  · have hb' : b ∉ S.L ++ [q] := hb
    have e1 : b ∉ S.L := fun x => hb' (List.mem_append_left _ x)
    have e2 : b ≠ q := fun x => hb' (by rw [x]; simp)
    refine ⟨?_, ?_, ?_⟩
    · show va_up S.R q _ b = _; rw [va_up_ne2 e2]; exact (h2 b e1).1
    · show va_up S.J q _ b = _; rw [va_up_ne2 e2]; exact (h2 b e1).2.1
    · show va_up S.I q _ b = _; rw [va_up_ne2 e2]; exact (h2 b e1).2.2
  · rcases List.mem_append.mp hc with x | x
    · exact List.mem_append_left _ (h3 c x k d hd)
    · have : c = c0 := by simpa using x
      rw [this, hR] at hd
      cases hd
theorem i_new (c0 : Nat) (h : IR Kf Nf g S U R I) (h0 : c0 ∉ U) (hk : Kf c0 = kd) (hn : Nf c0 = 0) (hR : R c0 = fun _ => none) (hI : I c0 = fun _ => 0) (hp : ∀ g' S', (∀ c, c ∈ U → g' c = g c) → IR Kf Nf g' S' (U ++ [c0]) R I → KN (some (g' c0)) S') : xnw S kd KN := by
  intro q hq
  have := hp _ _ (fun c hc => if_neg (fun e : c = c0 => h0 (e ▸ hc))) (IR_new h h0 hk hn hR hI hq)
  simp only [if_true] at this
  exact this
theorem i_na (c0 : Nat) {n : Int32} (hN : ¬ n < 0 ∧ n.toNatClampNeg = N) (h : IR Kf Nf g S U R I) (h0 : c0 ∉ U) (hk : Kf c0 = kd) (hn : Nf c0 = N) (hR : R c0 = fun _ => none) (hI : I c0 = fun _ => 0) (hp : ∀ g' S', (∀ c, c ∈ U → g' c = g c) → IR Kf Nf g' S' (U ++ [c0]) R I → KN (some (g' c0)) S') : xna S kd n N KN := by
  refine ⟨hN.1, hN.2, fun q hq => ?_⟩
  have := hp _ _ (fun c hc => if_neg (fun e : c = c0 => h0 (e ▸ hc))) (IR_new h h0 hk hn hR hI hq)
  simp only [if_true] at this
  exact this
theorem i_pR (c d : Nat) (h : IR Kf Nf g S U R I) (hc : c ∈ U) (hd : d ∈ U) (hk : Kf c = ci) (hp : ∀ S', IR Kf Nf g S' U (p2 R c k (some d)) I → KP S') : xpR S (some (g c)) ci k (some (g d)) KP := by
  obtain ⟨h1, h2, h3⟩ := h
  refine ⟨g c, rfl, h1.1 c hc, (h1.2.2 c hc).1.trans hk, hp _ ⟨h1.sr hc k (some d), fun b hb => ?_, fun c1 hc1 k1 d1 hd1 => ?_⟩⟩
  · have hb : b ∉ S.L := hb
    refine ⟨?_, (h2 b hb).2⟩
    show p2 S.R (g c) k _ b = _
    rw [p2_ne (fun e => hb (by rw [e]; exact h1.1 c hc))]
    exact (h2 b hb).1
  · by_cases e : c1 = c
    · subst e
      by_cases e2 : k1 = k
      · subst e2; rw [p2_same] at hd1; cases hd1; exact hd
      · rw [p2_row e2] at hd1; exact h3 c1 hc1 k1 d1 hd1
    · rw [p2_ne e] at hd1; exact h3 c1 hc1 k1 d1 hd1
theorem FS_si {a : Nat} (h2 : FS S) (ha : a ∈ S.L) : FS (S.si a k v) := fun b hb => by
  have hb : b ∉ S.L := hb
  refine ⟨(h2 b hb).1, (h2 b hb).2.1, ?_⟩
  show p2 S.I a k v b = _
  rw [p2_ne (fun e => hb (by rw [e]; exact ha))]
  exact (h2 b hb).2.2
theorem i_pI (c : Nat) (h : IR Kf Nf g S U R I) (hc : c ∈ U) (hk : Kf c = ci) (hp : ∀ S', IR Kf Nf g S' U R (p2 I c k v) → KP S') : xpI S (some (g c)) ci k v KP := by
  obtain ⟨h1, h2, h3⟩ := h
  exact ⟨g c, rfl, h1.1 c hc, (h1.2.2 c hc).1.trans hk, hp _ ⟨h1.si hc k v, FS_si h2 (h1.1 c hc), h3⟩⟩
theorem i_sI (c : Nat) {i : Int32} (h : IR Kf Nf g S U R I) (hc : c ∈ U) (hk : Kf c = 10) (hi : vp_in i (Nf c)) (hp : ∀ S', IR Kf Nf g S' U R (p2 I c i.toNatClampNeg v) → KP S') : xsI S (some (g c)) 10 i v KP := by
  obtain ⟨h1, h2, h3⟩ := h
  refine ⟨g c, rfl, h1.1 c hc, (h1.2.2 c hc).1.trans hk, ?_, hp _ ⟨h1.si hc _ v, FS_si h2 (h1.1 c hc), h3⟩⟩
  have : S.len (g c) = Nf c := (h1.2.2 c hc).2.1
  rw [this]; exact hi
theorem i_sR (c d : Nat) {i : Int32} {kv : Nat} (h : IR Kf Nf g S U R I) (hc : c ∈ U) (hd : d ∈ U) (hk : Kf c = ci) (hkd : Kf d = kv) (hi : vp_in i (Nf c)) (hp : ∀ S', IR Kf Nf g S' U (p2 R c i.toNatClampNeg (some d)) I → KP S') : xsR S (some (g c)) ci kv i (some (g d)) KP := by
  have h0 := h
  obtain ⟨h1, h2, h3⟩ := h
  have hlen : S.len (g c) = Nf c := (h1.2.2 c hc).2.1
  refine ⟨g c, rfl, h1.1 c hc, (h1.2.2 c hc).1.trans hk, by rw [hlen]; exact hi, fun b hb => ?_, ?_⟩
  · cases hb; exact ⟨h1.1 d hd, (h1.2.2 d hd).1.trans hkd⟩
  · obtain ⟨a, e1, e2, e3, e4⟩ := i_pR (k := i.toNatClampNeg) (KP := KP) c d h0 hc hd hk hp
    cases e1
    exact e4
theorem i_R (c : Nat) (h : IR Kf Nf g S U R I) (hc : c ∈ U) (hk : Kf c = ci) (hp : KR ((R c k).map g)) : xR S (some (g c)) ci k KR := by
  obtain ⟨h1, _⟩ := h
  refine ⟨g c, rfl, h1.1 c hc, (h1.2.2 c hc).1.trans hk, ?_⟩
  rw [(h1.2.2 c hc).2.2.2.1 k]
  exact hp
theorem i_aR (c : Nat) {i : Int32} (h : IR Kf Nf g S U R I) (hc : c ∈ U) (hk : Kf c = ci) (hi : vp_in i (Nf c)) (hp : KR ((R c i.toNatClampNeg).map g)) : xaR S (some (g c)) ci i KR := by
  obtain ⟨h1, _⟩ := h
  have hlen : S.len (g c) = Nf c := (h1.2.2 c hc).2.1
  refine ⟨g c, rfl, h1.1 c hc, (h1.2.2 c hc).1.trans hk, by rw [hlen]; exact hi, ?_⟩
  rw [(h1.2.2 c hc).2.2.2.1 _]
  exact hp
theorem i_fill5 (c : Nat) (hc : c ∈ U) (hk : Kf c = 10) (hN : Nf c < 2 ^ 31) (hp : ∀ S' I', IR Kf Nf g S' U R I' → I' = rowF I c (Nf c) v → KP S') : ∀ k i S I', Nf c = i + k → IR Kf Nf g S U R I' → rowG I' c i (Nf c) v = rowF I c (Nf c) v → wJ7_fill_53178_5 KP (k + 1) (some (g c)) v (nI i) (nI (Nf c)) S := by
  intro k
  induction k with
  | zero =>
    intro i S I' hi h he
    unfold wJ7_fill_53178_5
    rw [ile (by omega) (by omega), brt (show Nf c ≤ i by omega)]
    refine hp S I' h ?_
    rw [show i = Nf c by omega, rowG_e] at he
    exact he
  | succ k ih =>
    intro i S I' hi h he
    unfold wJ7_fill_53178_5
    rw [ile (by omega) (by omega), brf (show ¬ Nf c ≤ i by omega)]
    refine i_sI c h hc hk (vp_in_nI (by omega) hN) fun S1 h1 => ?_
    rw [nI_clamp (by omega)] at h1
    rw [ix1]
    refine ih (i + 1) S1 _ (by omega) h1 ?_
    rw [rowG_s (by omega)]
    exact he
theorem i_fill (c : Nat) (h : IR Kf Nf g S U R I) (hc : c ∈ U) (hk : Kf c = 10) (hN : Nf c < 2 ^ 31) (hp : ∀ S', IR Kf Nf g S' U R (rowF I c (Nf c) v) → KP S') : wJ7_fill_53178 KP (some (g c)) v S := by
  unfold wJ7_fill_53178
  refine ⟨g c, rfl, h.1.1 c hc, (h.1.2.2 c hc).1.trans hk, ?_⟩
  have hlen : S.len (g c) = Nf c := (h.1.2.2 c hc).2.1
  rw [hlen]
  exact ⟨_, i_fill5 c hc hk hN (fun S' I' a1 a2 => hp S' (a2 ▸ a1)) (Nf c) 0 S I (by omega) h rowG_0⟩
def rws (r0 N : Nat) : List Nat := (List.range N).map (r0 + ·)
theorem mem_rws : c ∈ rws r0 N ↔ r0 ≤ c ∧ c < r0 + N := by
  unfold rws
  rw [List.mem_map]
  constructor
  · rintro ⟨i, hi, rfl⟩; have := List.mem_range.mp hi; omega
  · intro h; exact ⟨c - r0, List.mem_range.mpr (by omega), by omega⟩
theorem i_mn (c0 r0 : Nat) {n n' : Int32} (hN : ¬ n < 0 ∧ ¬ n' < 0 ∧ n.toNatClampNeg = N ∧ n'.toNatClampNeg = m) (h : IR Kf Nf g S U R I) (h0 : c0 ∉ U) (h00 : ¬ (r0 ≤ c0 ∧ c0 < r0 + N)) (hr : ∀ c, c ∈ rws r0 N → c ∉ U ∧ Kf c = 10 ∧ Nf c = m) (hk : Kf c0 = 15) (hn : Nf c0 = N) (hR : ∀ c, c ∈ rws r0 N → R c = fun _ => none) (hR0 : R c0 = fun _ => none) (hI : ∀ c, c ∈ rws r0 N → I c = fun _ => 0) (hI0 : I c0 = fun _ => 0) (hp : ∀ g' S', (∀ c, c ∈ U → g' c = g c) → IR Kf Nf g' S' (U ++ c0 :: rws r0 N) (va_up R c0 (fun i => if i < N then some (r0 + i) else none)) I → KN (some (g' c0)) S') : xmn S n n' N m KN := by
  refine ⟨hN.1, hN.2.1, hN.2.2.1, hN.2.2.2, fun q r hq hinj hrr => ?_⟩
  obtain ⟨h1, h2, h3⟩ := h
  generalize hg' : (fun c => if c = c0 then q else if r0 ≤ c ∧ c < r0 + N then r (c - r0) else g c) = g'
  have g0 : g' c0 = q := by rw [← hg']; exact if_pos rfl
  have gU : ∀ c, c ∈ U → g' c = g c := fun c hc => by
    rw [← hg']
    show (if c = c0 then _ else _) = _
    rw [if_neg (fun e : c = c0 => h0 (e ▸ hc)), if_neg (fun e => (hr c (mem_rws.mpr e)).1 hc)]
  have gr : ∀ i, i < N → g' (r0 + i) = r i := fun i hi => by
    rw [← hg']
    show (if r0 + i = c0 then _ else _) = _
    rw [if_neg (fun e => h00 (by omega)), if_pos ⟨by omega, by omega⟩, Nat.add_sub_cancel_left]
  have memr : ∀ b, b ∈ (List.range N).map r ↔ ∃ i, i < N ∧ r i = b := fun b => by rw [List.mem_map]; exact ⟨fun ⟨i, a, e⟩ => ⟨i, List.mem_range.mp a, e⟩, fun ⟨i, a, e⟩ => ⟨i, List.mem_range.mpr a, e⟩⟩
  have hgU : ∀ c, c ∈ U → g c ∈ S.L := fun c hc => h1.1 c hc
  have nr : ∀ b, b ∈ S.L → ¬ b ∈ (List.range N).map r := fun b hb e => by
    obtain ⟨i, hi, rfl⟩ := (memr b).mp e
    exact (hrr i hi).1 hb
  have nq : ¬ q ∈ (List.range N).map r := fun e => by
    obtain ⟨i, hi, e⟩ := (memr q).mp e
    exact (hrr i hi).2 e
  have memU : ∀ c, c ∈ U ++ c0 :: rws r0 N ↔ c ∈ U ∨ c = c0 ∨ ∃ i, i < N ∧ c = r0 + i := fun c => by
    rw [List.mem_append, List.mem_cons, mem_rws]
    exact or_congr Iff.rfl (or_congr Iff.rfl ⟨fun e => ⟨c - r0, by omega, by omega⟩, fun ⟨i, a, e⟩ => by omega⟩)
  have key : IR Kf Nf g' (S.mul q N m r) (U ++ c0 :: rws r0 N) (va_up R c0 (fun i => if i < N then some (r0 + i) else none)) I := by
    have LL : ∀ b, b ∈ (S.mul q N m r).L ↔ b = q ∨ b ∈ S.L ∨ b ∈ (List.range N).map r := fun b => by
      show b ∈ q :: (S.L ++ (List.range N).map r) ↔ _
      rw [List.mem_cons, List.mem_append]
    refine ⟨⟨fun c hc => ?_, fun c d hc hd e => ?_, fun c hc => ?_⟩, fun b hb => ?_, fun c hc k d hd => ?_⟩
    · rcases (memU c).mp hc with x | rfl | ⟨i, hi, rfl⟩
      · rw [gU c x]; exact (LL _).mpr (.inr (.inl (hgU c x)))
      · rw [g0]; exact (LL _).mpr (.inl rfl)
      · rw [gr i hi]; exact (LL _).mpr (.inr (.inr ((memr _).mpr ⟨i, hi, rfl⟩)))
    · rcases (memU c).mp hc with x | rfl | ⟨i, hi, rfl⟩
      · rw [gU c x] at e
        rcases (memU d).mp hd with y | rfl | ⟨j, hj, rfl⟩
        · rw [gU d y] at e; exact h1.2.1 c d x y e
        · rw [g0] at e; exact absurd (e ▸ hgU c x) hq
        · rw [gr j hj] at e; exact absurd (e ▸ hgU c x) (hrr j hj).1
      · rw [g0] at e
        rcases (memU d).mp hd with y | rfl | ⟨j, hj, rfl⟩
        · rw [gU d y] at e; exact absurd (e ▸ hgU d y) hq
        · rfl
        · rw [gr j hj] at e; exact absurd e.symm (hrr j hj).2
      · rw [gr i hi] at e
        rcases (memU d).mp hd with y | rfl | ⟨j, hj, rfl⟩
        · rw [gU d y] at e; exact absurd (e ▸ hgU d y) (hrr i hi).1
        · rw [g0] at e; exact absurd e (hrr i hi).2
        · rw [gr j hj] at e; rw [hinj i j hi hj e]
    · rcases (memU c).mp hc with x | rfl | ⟨i, hi, rfl⟩
      · have hne : c ≠ c0 := fun e => h0 (e ▸ x)
        have hgq : g c ≠ q := fun e => hq (e ▸ hgU c x)
        obtain ⟨a1, a2, a3, a4, a5⟩ := h1.2.2 c x
        rw [gU c x]
        refine ⟨?_, ?_, ?_, fun k => ?_, a5⟩
        · show (if g c ∈ (List.range N).map r then 10 else va_up S.K q 15 (g c)) = Kf c
          rw [if_neg (nr _ (hgU c x)), va_up_ne2 hgq]; exact a1
        · show (if g c ∈ (List.range N).map r then m else va_up S.len q N (g c)) = Nf c
          rw [if_neg (nr _ (hgU c x)), va_up_ne2 hgq]; exact a2
        · show (if g c ∈ (List.range N).map r then (fun _ => 0) else S.I (g c)) = I c
          rw [if_neg (nr _ (hgU c x))]; exact a3
        · show va_up S.R q _ (g c) k = (va_up R c0 _ c k).map g'
          rw [va_up_ne2 hgq, va_up_ne2 hne, a4 k]
          show (R c k).map g = (R c k).map g'
          cases hrc : R c k with
          | none => rfl
          | some d => show some (g d) = some (g' d); rw [gU d (h3 c x k d hrc)]
      · rw [g0]
        refine ⟨?_, ?_, ?_, fun k => ?_, ?_⟩
        · show (if q ∈ (List.range N).map r then 10 else va_up S.K q 15 q) = Kf c
          rw [if_neg nq, va_up_at2, hk]
        · show (if q ∈ (List.range N).map r then m else va_up S.len q N q) = Nf c
          rw [if_neg nq, va_up_at2, hn]
        · show (if q ∈ (List.range N).map r then (fun _ => 0) else S.I q) = I c
          rw [if_neg nq, hI0]
          exact (h2 q hq).2.2
        · show va_up S.R q _ q k = (va_up R c _ c k).map g'
          rw [va_up_at2, va_up_at2]
          by_cases e : k < N
          · rw [if_pos e, if_pos e]
            show some (r k) = some (g' (r0 + k))
            rw [gr k e]
          · rw [if_neg e, if_neg e]; rfl
        · show S.J q = _
          rw [(h2 q hq).2.1]
          rfl
      · have hbr : r i ∈ (List.range N).map r := (memr _).mpr ⟨i, hi, rfl⟩
        have hcr : r0 + i ∈ rws r0 N := mem_rws.mpr ⟨by omega, by omega⟩
        have hiq : r i ≠ q := (hrr i hi).2
        have hne : r0 + i ≠ c0 := fun e => h00 (by omega)
        rw [gr i hi]
        refine ⟨?_, ?_, ?_, fun k => ?_, ?_⟩
        · show (if r i ∈ (List.range N).map r then 10 else _) = Kf (r0 + i)
          rw [if_pos hbr, (hr _ hcr).2.1]
        · show (if r i ∈ (List.range N).map r then m else _) = Nf (r0 + i)
          rw [if_pos hbr, (hr _ hcr).2.2]
        · show (if r i ∈ (List.range N).map r then (fun _ => 0) else _) = I (r0 + i)
          rw [if_pos hbr, hI _ hcr]
        · show va_up S.R q _ (r i) k = (va_up R c0 _ (r0 + i) k).map g'
          rw [va_up_ne2 hiq, va_up_ne2 hne, (h2 (r i) (hrr i hi).1).1, hR _ hcr]
          rfl
        · show S.J (r i) = _
          rw [(h2 (r i) (hrr i hi).1).2.1]
          rfl
    · have hb : b ∉ (S.mul q N m r).L := hb
      have e1 : b ∉ S.L := fun x => hb ((LL b).mpr (.inr (.inl x)))
      have e2 : b ≠ q := fun x => hb ((LL b).mpr (.inl x))
      refine ⟨?_, (h2 b e1).2.1, ?_⟩
      rotate_left
      · show (if b ∈ (List.range N).map r then (fun _ => 0) else S.I b) = _
        rw [if_neg (fun x => hb ((LL b).mpr (.inr (.inr x))))]
        exact (h2 b e1).2.2
      show va_up S.R q _ b = _
      rw [va_up_ne2 e2]; exact (h2 b e1).1
    · by_cases e : c = c0
      · subst e
        rw [va_up_at2] at hd
        by_cases ek : k < N
        · rw [if_pos ek] at hd; cases hd; exact (memU _).mpr (.inr (.inr ⟨k, ek, rfl⟩))
        · rw [if_neg ek] at hd; cases hd
      · rw [va_up_ne2 e] at hd
        rcases (memU c).mp hc with x | x | ⟨i, hi, rfl⟩
        · exact (memU d).mpr (.inl (h3 c x k d hd))
        · exact absurd x e
        · rw [hR _ (mem_rws.mpr ⟨by omega, by omega⟩)] at hd; cases hd
  have := hp g' _ gU key
  rw [g0] at this
  exact this
end
