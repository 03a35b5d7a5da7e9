section
variable {D : Mem} {nA nE nQ nw q a x y i j m : Nat} {t g : Int32} {wt rt : Nat → Nat} {L : List (Nat × Nat)} {S : Nat → Prop}
theorem wtf_8 (h8 : nQ ≤ 8) : wtf D nA nE t nQ x ≤ 8 := by
  unfold wtf
  split
  · exact Nat.le_trans (cnt_le _ _) h8
  · omega
theorem cntL : ∀ k, k ≤ L.length → cnt (fun j => S (L.getD j (0, 0)).2) k = ((L.take k).filter (fun z => @decide (S z.2) (Classical.propDecidable _))).length := by
  intro k
  induction k with
  | zero => intro _; rfl
  | succ k ih =>
    intro hk
    have e : L.getD k (0, 0) = L[k] := by rw [List.getD_eq_getElem?_getD, List.getElem?_eq_getElem (by omega)]; rfl
    rw [List.take_succ_eq_append_getElem (by omega), List.filter_append, List.length_append, ← ih (by omega)]
    by_cases h : S (L[k]).2
    · rw [cnt_t (p := fun j => S (L.getD j (0, 0)).2) (by rw [e]; exact h)]
      simp [h]
    · rw [cnt_f (p := fun j => S (L.getD j (0, 0)).2) (by rw [e]; exact h)]
      simp [h]
theorem smf_add {f f' : Nat → Nat} : ∀ n, smf (fun x => f x + f' x) n = smf f n + smf f' n := by
  intro n
  induction n with
  | zero => rfl
  | succ n ih => unfold smf; rw [ih]; omega
theorem smf_cong {f f' : Nat → Nat} : ∀ {n}, (∀ x, x < n → f x = f' x) → smf f n = smf f' n := by
  intro n
  induction n with
  | zero => intro _; rfl
  | succ n ih => intro h; unfold smf; rw [ih fun x hx => h x (by omega), h n (by omega)]
theorem smf_ind {p : Nat → Prop} : ∀ n, smf (fun x => @ite _ (p x) (Classical.propDecidable _) 1 0) n = cnt p n := by
  intro n
  induction n with
  | zero => rfl
  | succ n ih => unfold smf cnt; rw [ih]
theorem smf_0 : ∀ n, smf (fun _ => 0) n = 0 := by
  intro n
  induction n with
  | zero => rfl
  | succ n ih => unfold smf; rw [ih]
theorem sumL : ∀ n, ((AL D D nA nE t n).filter (fun z => @decide (S z.2) (Classical.propDecidable _))).length = smf (fun x => @ite _ (S x) (Classical.propDecidable _) (cnt (fun q => FD D nA t q x ∧ ¬ EXQ D nE q x) n) 0) nA := by
  intro n
  induction n with
  | zero =>
    unfold AL
    rw [show smf (fun x => @ite _ (S x) (Classical.propDecidable _) (cnt (fun q => FD D nA t q x ∧ ¬ EXQ D nE q x) 0) 0) nA = smf (fun _ => 0) nA from smf_cong fun x _ => by
      show (@ite _ (S x) (Classical.propDecidable _) 0 0) = 0
      split <;> rfl, smf_0]
    rfl
  | succ n ih =>
    have hq : ((ALq D D nA nE t n (FL D nA t n nA).length).filter (fun z => @decide (S z.2) (Classical.propDecidable _))).length = cnt (fun a => (FD D nA t n a ∧ ¬ EXQ D nE n a) ∧ S a) nA := by
      unfold ALq
      rw [List.take_of_length_le (Nat.le_refl _), List.filter_map, List.length_map, ← flt_cnt (D := D)]
      have e : List.filter ((fun z : Nat × Nat => @decide (S z.2) (Classical.propDecidable _)) ∘ fun a => (n, a)) (List.filter (fun a => @decide (¬ EXQ D nE n a) (Classical.propDecidable _)) (FL D nA t n nA)) = flt S (flt (fun a => ¬ EXQ D nE n a) (flt (FD D nA t n) (byT D nA))) := rfl
      rw [e, flt_flt, flt_flt]
      congr 2
      funext a
      exact propext ⟨fun ⟨h1, h2, h3⟩ => ⟨⟨h1, h2⟩, h3⟩, fun ⟨⟨h1, h2⟩, h3⟩ => ⟨h1, h2, h3⟩⟩
    unfold AL
    rw [List.filter_append, List.length_append, ih, hq, ← smf_ind, ← smf_add]
    refine smf_cong fun x _ => ?_
    by_cases hS : S x
    · rw [if_pos hS, if_pos hS]
      by_cases hP : FD D nA t n x ∧ ¬ EXQ D nE n x
      · rw [if_pos ⟨hP, hS⟩, cnt_t (p := fun q => FD D nA t q x ∧ ¬ EXQ D nE q x) hP]
      · rw [if_neg (fun z => hP z.1), cnt_f (p := fun q => FD D nA t q x ∧ ¬ EXQ D nE q x) hP, Nat.add_zero]
    · rw [if_neg hS, if_neg hS, if_neg (fun z => hS z.2)]
theorem jw (hW : WA D nA nw) (hg : D 0 2 = g) (hg0 : ¬ D 0 2 < 0) (hS : SND D nA (wtf D nA nE t nQ) rt) (hC : CMP D nA g (wtf D nA nE t nQ) rt nA) (hi : i < (AL D D nA nE t nQ).length) : cnt (fun j => con (EL D (AL D D nA nE t nQ)) (AL D D nA nE t nQ).length j i) (AL D D nA nE t nQ).length = smf (fun x => if rt x = rt ((AL D D nA nE t nQ).getD i (0, 0)).2 then wtf D nA nE t nQ x else 0) nA := by
  have h1 : cnt (fun j => con (EL D (AL D D nA nE t nQ)) (AL D D nA nE t nQ).length j i) (AL D D nA nE t nQ).length = cnt (fun j => rt ((AL D D nA nE t nQ).getD j (0, 0)).2 = rt ((AL D D nA nE t nQ).getD i (0, 0)).2) (AL D D nA nE t nQ).length := cnt_cong fun j hj => con_rt hW hg hg0 hS hC hj hi
  rw [h1, cntL (S := fun x => rt x = rt ((AL D D nA nE t nQ).getD i (0, 0)).2) _ (Nat.le_refl _), List.take_of_length_le (Nat.le_refl _)]
  refine (sumL (S := fun x => rt x = rt ((AL D D nA nE t nQ).getD i (0, 0)).2) nQ).trans (smf_cong fun x hx => ?_)
  unfold wtf
  rw [if_pos hx]
  by_cases h : rt x = rt ((AL D D nA nE t nQ).getD i (0, 0)).2
  · rw [if_pos h, if_pos h]
  · rw [if_neg h, if_neg h]
theorem AL_nd : ∀ n, (AL D D nA nE t n).Nodup := by
  intro n
  induction n with
  | zero => unfold AL; exact List.nodup_nil
  | succ n ih =>
    unfold AL
    rw [List.nodup_append]
    refine ⟨ih, ?_, fun x hx y hy e => ?_⟩
    · unfold ALq
      have hb : (byT D nA).Nodup := (byT_bef nA).imp fun h e => by
        rw [e] at h
        rcases h with h | h
        · exact Int32.lt_irrefl h
        · exact Nat.lt_irrefl _ h.2
      have hf : ((List.take (FL D nA t n nA).length (FL D nA t n nA)).filter (fun a => @decide (¬ EXQ D nE n a) (Classical.propDecidable _))).Nodup := by
        rw [List.take_of_length_le (Nat.le_refl _)]
        exact (hb.sublist List.filter_sublist).sublist List.filter_sublist
      unfold List.Nodup at hf ⊢
      rw [List.pairwise_map]
      exact hf.imp fun h e => h (by cases e; rfl)
    · have h1 := (AL_lt hx).1
      unfold ALq at hy
      obtain ⟨b, _, rfl⟩ := List.mem_map.mp hy
      rw [e] at h1
      exact absurd h1 (Nat.lt_irrefl _)
theorem L_inj (hL : L.Nodup) (hi : i < L.length) (hj : j < L.length) (e : L.getD i (0, 0) = L.getD j (0, 0)) : i = j := by
  rw [List.getD_eq_getElem?_getD, List.getElem?_eq_getElem hi, List.getD_eq_getElem?_getD, List.getElem?_eq_getElem hj] at e
  have e : L[i] = L[j] := e
  apply Decidable.byContradiction
  intro hne
  by_cases h : i < j
  · exact List.pairwise_iff_getElem.mp hL i j hi hj h e
  · exact List.pairwise_iff_getElem.mp hL j i hj hi (by omega) e.symm
theorem jsm_in {E : Nat → Nat → Prop} (hL : L.Nodup) (hi : i < L.length) (e : L.getD i (0, 0) = (q, a)) : ∀ n, n ≤ L.length → jsm E L q a n = if i < n then cnt (fun j => con E L.length j i) L.length else 0 := by
  intro n
  induction n with
  | zero => intro _; rfl
  | succ n ih =>
    intro hn
    rw [jsm, ih (by omega)]
    by_cases h : n = i
    · subst h
      rw [if_pos e, if_neg (by omega), if_pos (by omega), Nat.zero_add]
    · have : ¬ L.getD n (0, 0) = (q, a) := fun z => h (L_inj hL (by omega) hi (z.trans e.symm))
      rw [if_neg this, Nat.add_zero]
      by_cases h2 : i < n
      · rw [if_pos h2, if_pos (by omega)]
      · rw [if_neg h2, if_neg (by omega)]
theorem jsm_out {E : Nat → Nat → Prop} (h : (q, a) ∉ L) : ∀ n, n ≤ L.length → jsm E L q a n = 0 := by
  intro n
  induction n with
  | zero => intro _; rfl
  | succ n ih =>
    intro hn
    have : ¬ L.getD n (0, 0) = (q, a) := fun z => h (z ▸ L_at (by omega))
    rw [jsm, ih (by omega), if_neg this]
/-- the joins are those of D now -/
def JVd (D : Mem) (nA nE nQ : Nat) (I : Mem) : Prop := I 17 6 = nI (sfl D nA (D 0 1) nQ) ∧ I 17 7 = nI (csn (EL D (AL D D nA nE (D 0 1) nQ)) (AL D D nA nE (D 0 1) nQ).length) ∧ ∃ P d rt H, H ≤ 500 ∧ PR19 I P ∧ UF P d rt H ∧ ∀ i, i < (AL D D nA nE (D 0 1) nQ).length → I 20 (rt ((AL D D nA nE (D 0 1) nQ).getD i (0, 0)).2) = nI (cnt (fun j => con (EL D (AL D D nA nE (D 0 1) nQ)) (AL D D nA nE (D 0 1) nQ).length j i) (AL D D nA nE (D 0 1) nQ).length)
end
