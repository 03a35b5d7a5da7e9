/-! ===== cases counted over finds and over acts ===== -/
theorem cnt_pos {p : Nat → Prop} : ∀ {n : Nat}, 0 < cnt p n ↔ ∃ k, k < n ∧ p k := by
  intro n
  induction n with
  | zero => exact ⟨fun h => absurd h (Nat.lt_irrefl _), fun ⟨k, h, _⟩ => by omega⟩
  | succ n ih =>
    by_cases e : p n
    · rw [cnt_t e]
      exact ⟨fun _ => ⟨n, by omega, e⟩, fun _ => by omega⟩
    · rw [cnt_f e, ih]
      constructor
      · rintro ⟨k, h1, h2⟩; exact ⟨k, by omega, h2⟩
      · rintro ⟨k, h1, h2⟩
        by_cases e2 : k = n
        · rw [e2] at h2; exact absurd h2 e
        · exact ⟨k, by omega, h2⟩
theorem cnt_inj {p : Nat → Prop} {f : Nat → Nat} {m : Nat} : ∀ {n : Nat} {r : Nat → Prop}, (∀ i, i < n → p i → f i < m ∧ r (f i)) → (∀ i j, i < n → j < n → p i → p j → f i = f j → i = j) → cnt p n ≤ cnt r m := by
  intro n
  induction n with
  | zero => intro r _ _; exact Nat.zero_le _
  | succ n ih =>
    intro r h1 h2
    by_cases e : p n
    · rw [cnt_t e]
      obtain ⟨a1, a2⟩ := h1 n (by omega) e
      have hr : cnt r m = cnt (fun x => (r x ∧ x ≠ f n) ∨ x = f n) m := cnt_cong fun k _ => by
        by_cases e2 : k = f n
        · rw [e2]; exact ⟨fun _ => .inr rfl, fun _ => a2⟩
        · exact ⟨fun z => .inl ⟨z, e2⟩, fun z => z.elim And.left (fun y => absurd y e2)⟩
      rw [hr, cnt_ins (p := fun x => r x ∧ x ≠ f n) (fun z => z.2 rfl) a1]
      have := ih (r := fun x => r x ∧ x ≠ f n) (fun i hi hp => ⟨(h1 i (by omega) hp).1, (h1 i (by omega) hp).2, fun z => by have := h2 i n (by omega) (by omega) hp e z; omega⟩) (fun i j hi hj => h2 i j (by omega) (by omega))
      omega
    · rw [cnt_f e]
      exact ih (fun i hi => h1 i (by omega)) (fun i j hi hj => h2 i j (by omega) (by omega))
section
variable {D : Mem} {nA nE nQ nw q a x y i j m : Nat} {t g : Int32} {wt rt : Nat → Nat} {L : List (Nat × Nat)}
noncomputable def wtf (D : Mem) (nA nE : Nat) (t : Int32) (nQ a : Nat) : Nat := if a < nA then cnt (fun q => FD D nA t q a ∧ ¬ EXQ D nE q a) nQ else 0
theorem FL_mem : a ∈ FL D nA t q nA ↔ a < nA ∧ FD D nA t q a := by
  unfold FL
  rw [flt_mem, byT_mem]
theorem AL_mem : ∀ {n : Nat}, (q, a) ∈ AL D D nA nE t n ↔ q < n ∧ a < nA ∧ FD D nA t q a ∧ ¬ EXQ D nE q a := by
  intro n
  induction n with
  | zero => unfold AL; exact ⟨fun h => (by cases h), fun h => by omega⟩
  | succ n ih =>
    unfold AL
    rw [List.mem_append, ih]
    have hq : (q, a) ∈ ALq D D nA nE t n (FL D nA t n nA).length ↔ q = n ∧ a < nA ∧ FD D nA t q a ∧ ¬ EXQ D nE q a := by
      unfold ALq
      rw [List.take_of_length_le (Nat.le_refl _), List.mem_map]
      constructor
      · rintro ⟨b, h1, h2⟩
        cases h2
        have h3 := List.mem_filter.mp h1
        have h4 := FL_mem.mp h3.1
        exact ⟨rfl, h4.1, h4.2, by simpa using h3.2⟩
      · rintro ⟨rfl, h1, h2, h3⟩
        exact ⟨a, List.mem_filter.mpr ⟨FL_mem.mpr ⟨h1, h2⟩, by simpa using h3⟩, rfl⟩
    rw [hq]
    constructor
    · rintro (h | h)
      · exact ⟨by omega, h.2⟩
      · exact ⟨by omega, h.2⟩
    · intro h
      by_cases e : q = n
      · exact .inr ⟨e, h.2⟩
      · exact .inl ⟨by omega, h.2⟩
theorem L_at (h : i < L.length) : L.getD i (0, 0) ∈ L := by
  rw [List.getD_eq_getElem?_getD, List.getElem?_eq_getElem h]
  exact List.getElem_mem h
theorem L_ix {z : Nat × Nat} (h : z ∈ L) : ∃ i, i < L.length ∧ L.getD i (0, 0) = z := by
  obtain ⟨i, hi, e⟩ := List.getElem_of_mem h
  refine ⟨i, hi, ?_⟩
  rw [List.getD_eq_getElem?_getD, List.getElem?_eq_getElem hi]
  exact e
theorem wt_pos (ha : a < nA) : 0 < wtf D nA nE t nQ a ↔ ∃ i, i < (AL D D nA nE t nQ).length ∧ ((AL D D nA nE t nQ).getD i (0, 0)).2 = a := by
  unfold wtf
  rw [if_pos ha, cnt_pos]
  constructor
  · rintro ⟨q, h1, h2, h3⟩
    obtain ⟨i, hi, e⟩ := L_ix (AL_mem.mpr ⟨h1, ha, h2, h3⟩)
    exact ⟨i, hi, by rw [e]⟩
  · rintro ⟨i, hi, e⟩
    have := L_at hi
    generalize he : (AL D D nA nE t nQ).getD i (0, 0) = z at this e
    obtain ⟨q, b⟩ := z
    have e : b = a := e
    subst e
    obtain ⟨h1, _, h2, h3⟩ := AL_mem.mp this
    exact ⟨q, h1, h2, h3⟩
theorem L_lt (hi : i < (AL D D nA nE t nQ).length) : ((AL D D nA nE t nQ).getD i (0, 0)).2 < nA ∧ 0 < wtf D nA nE t nQ ((AL D D nA nE t nQ).getD i (0, 0)).2 := by
  have h := (AL_lt (L_at hi)).2.1
  exact ⟨h, (wt_pos h).mpr ⟨i, hi, rfl⟩⟩
theorem COMP_a (hW : WA D nA nw) (hg : D 0 2 = g) (hC : CMP D nA g wt rt nA) (ha : a < nA) (hb : x < nA) (wa : 0 < wt a) (wb : 0 < wt x) (h : MT D a x) : rt a = rt x := by
  have key : ∀ j k, j < k → k < nA → 0 < wt (bt D nA j) → 0 < wt (bt D nA k) → MT D (bt D nA j) (bt D nA k) → rt (bt D nA j) = rt (bt D nA k) := by
    intro j k h1 h2 h3 h4 h5
    refine hC j k h1 h2 h3 h4 ?_ ?_
    · have := h5.1
      rw [if_pos (bt_le (show j ≤ k by omega) h2), hg] at this
      exact this
    · rcases h5.2 with h | h
      · exact .inl (congrArg Int32.toNatClampNeg h)
      · exact .inr (congrArg Int32.toNatClampNeg h)
  obtain ⟨j, hj, rfl⟩ := bt_at (D := D) ha
  obtain ⟨k, hk, rfl⟩ := bt_at (D := D) hb
  by_cases e : j = k
  · rw [e]
  · by_cases e2 : j < k
    · exact key j k e2 hk wa wb h
    · exact (key k j (by omega) hj wb wa (MT_sym h)).symm
theorem MT_rfl (hg : ¬ D 0 2 < 0) : MT D a a := by
  refine ⟨?_, .inl rfl⟩
  rw [if_pos (Int32.le_refl _), Int32.sub_self]
  exact hg
theorem con_rt (hW : WA D nA nw) (hg : D 0 2 = g) (hg0 : ¬ D 0 2 < 0) (hS : SND D nA (wtf D nA nE t nQ) rt) (hC : CMP D nA g (wtf D nA nE t nQ) rt nA) (hi : i < (AL D D nA nE t nQ).length) (hj : j < (AL D D nA nE t nQ).length) : con (EL D (AL D D nA nE t nQ)) (AL D D nA nE t nQ).length i j ↔ rt ((AL D D nA nE t nQ).getD i (0, 0)).2 = rt ((AL D D nA nE t nQ).getD j (0, 0)).2 := by
  have hA := hW.1
  have hLl : ∀ i, i < (AL D D nA nE t nQ).length → ((AL D D nA nE t nQ).getD i (0, 0)).2 < nA ∧ 0 < wtf D nA nE t nQ ((AL D D nA nE t nQ).getD i (0, 0)).2 := fun i hi => L_lt hi
  constructor
  · intro h
    refine h (fun i j => rt ((AL D D nA nE t nQ).getD i (0, 0)).2 = rt ((AL D D nA nE t nQ).getD j (0, 0)).2) (fun _ => rfl) (fun _ _ => Eq.symm) (fun _ _ _ => Eq.trans) fun x y hx hy he => ?_
    exact COMP_a hW hg hC (hLl x hx).1 (hLl y hy).1 (hLl x hx).2 (hLl y hy).2 he
  · intro h
    have same : ∀ i j, i < (AL D D nA nE t nQ).length → j < (AL D D nA nE t nQ).length → ((AL D D nA nE t nQ).getD i (0, 0)).2 = ((AL D D nA nE t nQ).getD j (0, 0)).2 → con (EL D (AL D D nA nE t nQ)) (AL D D nA nE t nQ).length i j := fun i j h1 h2 e => con_e h1 h2 (by unfold EL; rw [e]; exact MT_rfl hg0)
    have := hS _ _ (by have := (hLl i hi).1; omega) (by have := (hLl j hj).1; omega) h (fun x y => x = y ∨ ∃ i j, i < (AL D D nA nE t nQ).length ∧ j < (AL D D nA nE t nQ).length ∧ ((AL D D nA nE t nQ).getD i (0, 0)).2 = x ∧ ((AL D D nA nE t nQ).getD j (0, 0)).2 = y ∧ con (EL D (AL D D nA nE t nQ)) (AL D D nA nE t nQ).length i j) (fun _ => .inl rfl) (fun x y h => h.elim (fun e => .inl e.symm) (fun ⟨i, j, h1, h2, h3, h4, h5⟩ => .inr ⟨j, i, h2, h1, h4, h3, con_sym h5⟩)) (fun x y z h h' => ?_) (fun a b ha hb wa wb hm => ?_)
    · rcases this with e | ⟨i', j', h1, h2, h3, h4, h5⟩
      · exact same i j hi hj e
      · exact con_trans (same i i' hi h1 h3.symm) (con_trans h5 (same j' j h2 hj h4))
    · rcases h with rfl | ⟨i, j, h1, h2, h3, h4, h5⟩
      · exact h'
      · rcases h' with rfl | ⟨i', j', k1, k2, k3, k4, k5⟩
        · exact .inr ⟨i, j, h1, h2, h3, h4, h5⟩
        · exact .inr ⟨i, j', h1, k2, h3, k4, con_trans h5 (con_trans (same j i' h2 k1 (h4.trans k3.symm)) k5)⟩
    · obtain ⟨i, hi, e1⟩ := (wt_pos ha).mp wa
      obtain ⟨j, hj, e2⟩ := (wt_pos hb).mp wb
      exact .inr ⟨i, j, hi, hj, e1, e2, con_e hi hj (by unfold EL; rw [e1, e2]; exact hm)⟩
theorem csn_rt (hW : WA D nA nw) (hg : D 0 2 = g) (hg0 : ¬ D 0 2 < 0) (hS : SND D nA (wtf D nA nE t nQ) rt) (hC : CMP D nA g (wtf D nA nE t nQ) rt nA) (hr : ∀ x, x < 250 → 0 < wtf D nA nE t nQ x → 0 < wtf D nA nE t nQ (rt x)) (hrr : ∀ x, x < 250 → rt (rt x) = rt x) : csn (EL D (AL D D nA nE t nQ)) (AL D D nA nE t nQ).length = cnt (fun n => 0 < wtf D nA nE t nQ n ∧ rt n = n) nA := by
  have hA := hW.1
  have wlt : ∀ x, 0 < wtf D nA nE t nQ x → x < nA := fun x h => by
    apply Decidable.byContradiction
    intro hc
    unfold wtf at h
    rw [if_neg hc] at h
    exact absurd h (Nat.lt_irrefl _)
  have hc : ∀ i j, i < (AL D D nA nE t nQ).length → j < (AL D D nA nE t nQ).length → (con (EL D (AL D D nA nE t nQ)) (AL D D nA nE t nQ).length i j ↔ rt ((AL D D nA nE t nQ).getD i (0, 0)).2 = rt ((AL D D nA nE t nQ).getD j (0, 0)).2) := fun i j hi hj => con_rt hW hg hg0 hS hC hi hj
  have hLl : ∀ i, i < (AL D D nA nE t nQ).length → ((AL D D nA nE t nQ).getD i (0, 0)).2 < nA ∧ 0 < wtf D nA nE t nQ ((AL D D nA nE t nQ).getD i (0, 0)).2 := fun i hi => L_lt hi
  unfold csn
  apply Nat.le_antisymm
  · refine cnt_inj (f := fun i => rt ((AL D D nA nE t nQ).getD i (0, 0)).2) (fun i hi _ => ?_) (fun i j hi hj pi pj e => ?_)
    · obtain ⟨l1, l2⟩ := hLl i hi
      have w := hr _ (by omega) l2
      exact ⟨wlt _ w, w, hrr _ (by omega)⟩
    · have h1 := (hc i j hi hj).mpr e
      apply Decidable.byContradiction
      intro hne
      by_cases e2 : i < j
      · exact pj i e2 h1
      · exact pi j (by omega) (con_sym h1)
  · -- the least find of a root's case
    have hex : ∀ n, n < nA → 0 < wtf D nA nE t nQ n ∧ rt n = n → ∃ i, i < (AL D D nA nE t nQ).length ∧ rt ((AL D D nA nE t nQ).getD i (0, 0)).2 = n ∧ ∀ j, j < i → rt ((AL D D nA nE t nQ).getD j (0, 0)).2 ≠ n := by
      intro n hn ⟨h1, h2⟩
      obtain ⟨i, hi, e⟩ := (wt_pos hn).mp h1
      obtain ⟨a1, a2, a3, a4⟩ := @lst1_ok (fun i => rt ((AL D D nA nE t nQ).getD i (0, 0)).2 = n) (AL D D nA nE t nQ).length 0
      have hlt : lst1 (fun i => rt ((AL D D nA nE t nQ).getD i (0, 0)).2 = n) (AL D D nA nE t nQ).length 0 < 0 + (AL D D nA nE t nQ).length := by
        apply Decidable.byContradiction
        intro hcn
        exact a3 i (by omega) (by omega) (by rw [e]; exact h2)
      exact ⟨_, by omega, a4 hlt, fun j hj => a3 j (by omega) hj⟩
    refine cnt_inj (f := fun n => lst1 (fun i => rt ((AL D D nA nE t nQ).getD i (0, 0)).2 = n) (AL D D nA nE t nQ).length 0) (fun n hn pn => ?_) (fun n n' hn hn' pn pn' e => ?_)
    · obtain ⟨i, hi, e1, e2⟩ := hex n hn pn
      obtain ⟨a1, a2, a3, a4⟩ := @lst1_ok (fun i => rt ((AL D D nA nE t nQ).getD i (0, 0)).2 = n) (AL D D nA nE t nQ).length 0
      have hlt : lst1 (fun i => rt ((AL D D nA nE t nQ).getD i (0, 0)).2 = n) (AL D D nA nE t nQ).length 0 < 0 + (AL D D nA nE t nQ).length := by
        apply Decidable.byContradiction
        intro hcn
        exact a3 i (by omega) (by omega) e1
      have h4 := a4 hlt
      refine ⟨by omega, fun j hj hcon => ?_⟩
      have h5 := (hc j _ (by omega) (by omega)).mp hcon
      exact a3 j (by omega) hj (h5.trans h4)
    · have w : ∀ n, n < nA → 0 < wtf D nA nE t nQ n ∧ rt n = n → rt ((AL D D nA nE t nQ).getD (lst1 (fun i => rt ((AL D D nA nE t nQ).getD i (0, 0)).2 = n) (AL D D nA nE t nQ).length 0) (0, 0)).2 = n := fun n hn pn => by
        obtain ⟨i, hi, e1, e2⟩ := hex n hn pn
        obtain ⟨a1, a2, a3, a4⟩ := @lst1_ok (fun i => rt ((AL D D nA nE t nQ).getD i (0, 0)).2 = n) (AL D D nA nE t nQ).length 0
        refine a4 ?_
        apply Decidable.byContradiction
        intro hcn
        exact a3 i (by omega) (by omega) e1
      have w1 := w n hn pn
      have w2 := w n' hn' pn'
      have e : lst1 (fun i => rt ((AL D D nA nE t nQ).getD i (0, 0)).2 = n) (AL D D nA nE t nQ).length 0 = lst1 (fun i => rt ((AL D D nA nE t nQ).getD i (0, 0)).2 = n') (AL D D nA nE t nQ).length 0 := e
      rw [e] at w1
      exact w1.symm.trans w2
end
