/-! ===== a pool S as the image of a pool M of codes, by g ===== -/
def CR (g : Nat → Nat) (S M : Pool) : Prop :=
  (∀ c, c ∈ M.L → g c ∈ S.L) ∧ (∀ c d, c ∈ M.L → d ∈ M.L → g c = g d → c = d) ∧ ∀ c, c ∈ M.L → S.K (g c) = M.K c ∧ S.len (g c) = M.len c ∧ S.I (g c) = M.I c ∧ (∀ k, S.R (g c) k = (M.R c k).map g) ∧ S.J (g c) = M.J c
section CRS
variable {g : Nat → Nat} {S M : Pool} {r : Option Nat} {ci k : Nat}
theorem CR.si (h : CR g S M) {c : Nat} (hc : c ∈ M.L) (k : Nat) (v : Int32) : CR g (S.si (g c) k v) (M.si c k v) := by
  refine ⟨h.1, h.2.1, fun d hd => ?_⟩
  obtain ⟨a1, a2, a3, a4, a5⟩ := h.2.2 d hd
  refine ⟨a1, a2, ?_, a4, a5⟩
  show p2 S.I (g c) k v (g d) = p2 M.I c k v d
  by_cases e : d = c
  · subst e
    rw [p2_at, p2_at, a3]
  · rw [p2_ne e, p2_ne (fun z => e (h.2.1 d c hd hc z)), a3]
theorem CR.sj (h : CR g S M) {c : Nat} (hc : c ∈ M.L) (k : Nat) (v : Int64) : CR g (S.sj (g c) k v) (M.sj c k v) := by
  refine ⟨h.1, h.2.1, fun d hd => ?_⟩
  obtain ⟨a1, a2, a3, a4, a5⟩ := h.2.2 d hd
  refine ⟨a1, a2, a3, a4, ?_⟩
  show p2 S.J (g c) k v (g d) = p2 M.J c k v d
  by_cases e : d = c
  · subst e
    rw [p2_at, p2_at, a5]
  · rw [p2_ne e, p2_ne (fun z => e (h.2.1 d c hd hc z)), a5]
theorem CR.sr (h : CR g S M) {c : Nat} (hc : c ∈ M.L) (k : Nat) (v : Option Nat) : CR g (S.sr (g c) k (v.map g)) (M.sr c k v) := by
  refine ⟨h.1, h.2.1, fun d hd => ?_⟩
  obtain ⟨a1, a2, a3, a4, a5⟩ := h.2.2 d hd
  refine ⟨a1, a2, a3, fun j => ?_, a5⟩
  show p2 S.R (g c) k (v.map g) (g d) j = (p2 M.R c k v d j).map g
  by_cases e : d = c
  · subst e
    rw [p2_at, p2_at]
    by_cases e2 : j = k
    · simp [e2]
    · simp only [if_neg e2]; exact a4 j
  · rw [p2_ne e, p2_ne (fun z => e (h.2.1 d c hd hc z)), a4]
theorem cr_I (h : CR g S M) {K K' : Int32 → Prop} (hw : xI M r ci k K) (hk : ∀ v, K v → K' v) : xI S (r.map g) ci k K' := by
  obtain ⟨c, rfl, hL, hK, hw⟩ := hw
  exact ⟨g c, rfl, h.1 c hL, (h.2.2 c hL).1.trans hK, by rw [(h.2.2 c hL).2.2.1]; exact hk _ hw⟩
theorem cr_R (h : CR g S M) {K K' : Option Nat → Prop} (hw : xR M r ci k K) (hk : ∀ v, K v → K' (v.map g)) : xR S (r.map g) ci k K' := by
  obtain ⟨c, rfl, hL, hK, hw⟩ := hw
  exact ⟨g c, rfl, h.1 c hL, (h.2.2 c hL).1.trans hK, by rw [(h.2.2 c hL).2.2.2.1]; exact hk _ hw⟩
theorem cr_pI (h : CR g S M) {v : Int32} {K K' : Pool → Prop} (hw : xpI M r ci k v K) (hk : ∀ S M, CR g S M → K M → K' S) : xpI S (r.map g) ci k v K' := by
  obtain ⟨c, rfl, hL, hK, hw⟩ := hw
  exact ⟨g c, rfl, h.1 c hL, (h.2.2 c hL).1.trans hK, hk _ _ (h.si hL k v) hw⟩
theorem cr_pZ (h : CR g S M) {v : Int32} {K K' : Pool → Prop} (hw : xpZ M r ci k v K) (hk : ∀ S M, CR g S M → K M → K' S) : xpZ S (r.map g) ci k v K' := by
  obtain ⟨c, rfl, hL, hK, hz, hw⟩ := hw
  exact ⟨g c, rfl, h.1 c hL, (h.2.2 c hL).1.trans hK, hz, hk _ _ (h.si hL k v) hw⟩
theorem cr_pR (h : CR g S M) {v : Option Nat} {K K' : Pool → Prop} (hw : xpR M r ci k v K) (hk : ∀ S M, CR g S M → K M → K' S) : xpR S (r.map g) ci k (v.map g) K' := by
  obtain ⟨c, rfl, hL, hK, hw⟩ := hw
  exact ⟨g c, rfl, h.1 c hL, (h.2.2 c hL).1.trans hK, hk _ _ (h.sr hL k v) hw⟩
theorem cr_aI (h : CR g S M) {i : Int32} {K K' : Int32 → Prop} (hw : xaI M r ci i K) (hk : ∀ v, K v → K' v) : xaI S (r.map g) ci i K' := by
  obtain ⟨c, rfl, hL, hK, hin, hw⟩ := hw
  exact ⟨g c, rfl, h.1 c hL, (h.2.2 c hL).1.trans hK, by rw [(h.2.2 c hL).2.1]; exact hin, by rw [(h.2.2 c hL).2.2.1]; exact hk _ hw⟩
theorem cr_aJ (h : CR g S M) {i : Int32} {K K' : Int64 → Prop} (hw : xaJ M r i K) (hk : ∀ v, K v → K' v) : xaJ S (r.map g) i K' := by
  obtain ⟨c, rfl, hL, hK, hin, hw⟩ := hw
  exact ⟨g c, rfl, h.1 c hL, (h.2.2 c hL).1.trans hK, by rw [(h.2.2 c hL).2.1]; exact hin, by rw [(h.2.2 c hL).2.2.2.2]; exact hk _ hw⟩
theorem cr_aR (h : CR g S M) {i : Int32} {K K' : Option Nat → Prop} (hw : xaR M r ci i K) (hk : ∀ v, K v → K' (v.map g)) : xaR S (r.map g) ci i K' := by
  obtain ⟨c, rfl, hL, hK, hin, hw⟩ := hw
  exact ⟨g c, rfl, h.1 c hL, (h.2.2 c hL).1.trans hK, by rw [(h.2.2 c hL).2.1]; exact hin, by rw [(h.2.2 c hL).2.2.2.1]; exact hk _ hw⟩
theorem cr_sI (h : CR g S M) {i v : Int32} {K K' : Pool → Prop} (hw : xsI M r ci i v K) (hk : ∀ S M, CR g S M → K M → K' S) : xsI S (r.map g) ci i v K' := by
  obtain ⟨c, rfl, hL, hK, hin, hw⟩ := hw
  exact ⟨g c, rfl, h.1 c hL, (h.2.2 c hL).1.trans hK, by rw [(h.2.2 c hL).2.1]; exact hin, hk _ _ (h.si hL _ v) hw⟩
theorem cr_sZ (h : CR g S M) {i v : Int32} {K K' : Pool → Prop} (hw : xsZ M r ci i v K) (hk : ∀ S M, CR g S M → K M → K' S) : xsZ S (r.map g) ci i v K' := by
  obtain ⟨c, rfl, hL, hK, hin, hz, hw⟩ := hw
  exact ⟨g c, rfl, h.1 c hL, (h.2.2 c hL).1.trans hK, by rw [(h.2.2 c hL).2.1]; exact hin, hz, hk _ _ (h.si hL _ v) hw⟩
theorem cr_sJ (h : CR g S M) {i : Int32} {v : Int64} {K K' : Pool → Prop} (hw : xsJ M r i v K) (hk : ∀ S M, CR g S M → K M → K' S) : xsJ S (r.map g) i v K' := by
  obtain ⟨c, rfl, hL, hK, hin, hw⟩ := hw
  exact ⟨g c, rfl, h.1 c hL, (h.2.2 c hL).1.trans hK, by rw [(h.2.2 c hL).2.1]; exact hin, hk _ _ (h.sj hL _ v) hw⟩
theorem cr_sR (h : CR g S M) {kv : Nat} {i : Int32} {v : Option Nat} {K K' : Pool → Prop} (hw : xsR M r ci kv i v K) (hk : ∀ S M, CR g S M → K M → K' S) : xsR S (r.map g) ci kv i (v.map g) K' := by
  obtain ⟨c, rfl, hL, hK, hin, hv, hw⟩ := hw
  refine ⟨g c, rfl, h.1 c hL, (h.2.2 c hL).1.trans hK, by rw [(h.2.2 c hL).2.1]; exact hin, fun b hb => ?_, hk _ _ (h.sr hL _ v) hw⟩
  obtain ⟨d, hd, rfl⟩ := Option.map_eq_some_iff.mp hb
  obtain ⟨h1, h2⟩ := hv d hd
  exact ⟨h.1 d h1, (h.2.2 d h1).1.trans h2⟩
theorem cr_ln (h : CR g S M) {K K' : Int32 → Prop} (hw : xln M r ci K) (hk : ∀ v, K v → K' v) : xln S (r.map g) ci K' := by
  obtain ⟨c, rfl, hL, hK, hw⟩ := hw
  exact ⟨g c, rfl, h.1 c hL, (h.2.2 c hL).1.trans hK, by rw [(h.2.2 c hL).2.1]; exact hk _ hw⟩
theorem cr_rc (h : CR g S M) {K K' : Prop} (hw : xrc M r ci K) (hk : K → K') : xrc S (r.map g) ci K' := by
  obtain ⟨c, rfl, hL, hK, hw⟩ := hw
  exact ⟨g c, rfl, h.1 c hL, (h.2.2 c hL).1.trans hK, hk hw⟩
theorem cr_n {A B : Prop} (f : r = none → A) (e : r.map g = none) : A := f (Option.map_eq_none_iff.mp e)
theorem cr_nn {A : Prop} (f : ¬ r = none → A) (e : ¬ r.map g = none) : A := f (fun z => e (by rw [z]; rfl))
theorem xsl_m {w : Nat} {K K' : Int32 → Prop} (hw : xsl w K) (hk : ∀ v, K v → K' v) : xsl w K' := ⟨hw.1, hk _ hw.2⟩
theorem xsc_m {w : Nat} {i : Int32} {K K' : Int32 → Prop} (hw : xsc w i K) (hk : ∀ v, K v → K' v) : xsc w i K' := ⟨hw.1, hw.2.1, hk _ hw.2.2⟩
end CRS
