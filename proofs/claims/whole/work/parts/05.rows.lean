def va_AOA (ty : FieldType) (U : State) : Prop := (Cond.arrayOver (.array ty)).before #[] U = true
theorem va_AOA.use {ty : FieldType} {A : Array Value} {U : State} (h : va_AOA ty U) : (Cond.arrayOver (.array ty)).before A U = true := h
theorem va_AOA.moved {ty : FieldType} {u U : State} (hvm : u.vm.Alike U.vm) (h : va_AOA ty u) : va_AOA ty U := Jvm.Stand.arrayOver_alikeB hvm h

/-! ===== BEGIN new T[n][m]: the outer array a place, the inner ones among the pooled ===== -/
/-- f, but v at every address of l -/
def vr_up {α : Type} (f : Nat → α) (l : List Nat) (v : α) : Nat → α := fun a => if a ∈ l then v else f a
theorem vr_up_in {α : Type} {f : Nat → α} {l : List Nat} {v : α} {a : Nat} (h : a ∈ l) : vr_up f l v a = v := if_pos h
theorem vr_up_ne {α : Type} {f : Nat → α} {l : List Nat} {v : α} {a : Nat} (h : a ∉ l) : vr_up f l v a = f a := if_neg h
theorem vr_rows {L l : List Nat} {f : Nat → va_E} {e : va_E} (h : ∀ a, a ∈ l → a ∉ L) : va_pl L f ++ l.map (fun a => (a, e)) = va_pl (L ++ l) (vr_up f l e) := by
  unfold va_pl
  rw [List.map_append]
  congr 1
  · apply List.map_congr_left
    intro a ha
    rw [vr_up_ne (fun q => h a q ha)]
  · apply List.map_congr_left
    intro a ha
    rw [vr_up_in ha]
theorem vr_lay {X rows : va_W} {x : Nat × va_E} {pl : va_W} {D : va_G} {cl : List vw_C} {H : Heap} (hP : va_P D cl (((X ++ pl) ++ [x]) ++ rows) H) : va_P D cl ((X ++ [x]) ++ (pl ++ rows)) H := by
  rw [List.append_assoc (X ++ pl)] at hP
  have h := va_P.swap hP
  rw [← List.append_assoc X] at h
  have h2 := va_P.swap h
  rw [List.append_assoc (X ++ [x])] at h2
  exact h2
theorem vr_layD {X rows : va_W} {x : Nat × va_E} {pl : va_W} {A : Nat → Prop} (hD : va_D A (((X ++ pl) ++ [x]) ++ rows)) : va_D A ((X ++ [x]) ++ (pl ++ rows)) := by
  rw [List.append_assoc (X ++ pl)] at hD
  have h := va_D.swap hD
  rw [← List.append_assoc X] at h
  have h2 := va_D.swap h
  rw [List.append_assoc (X ++ [x])] at h2
  exact h2
theorem vr_outer (c : ClassId) (N h0 : Nat) : ∀ i : Nat, Jvm.Free.Multi.outerC c N h0 i = arrV c N (fun j => va_rf (if j < i then some (h0 + 1 + j) else none))
  | 0 => by
    show ({ cls := c, slots := Array.replicate N .null, vm := .none } : Cell) = _
    rw [arrV_new]
    refine congrArg (arrV c N) (funext fun j => ?_)
    simp [va_rf]
  | i + 1 => by
    show (Jvm.Free.Multi.outerC c N h0 i).setSlot i (.ref (h0 + 1 + i)) = _
    rw [vr_outer c N h0 i, arrV_store]
    refine congrArg (arrV c N) (funext fun j => ?_)
    by_cases e : j = i
    · subst e
      simp [updV, va_rf]
    · by_cases h : j < i
      · simp [updV, e, h, Nat.lt_succ_of_lt h]
      · simp [updV, e, h, show ¬ j < i + 1 by omega]
section VGM
variable {p : Program} {l : Launch} {e : Env} {R : Room} {s : State} {m : MethodId} {args : Array Value} {below : List Frame} {meth : Method} {c : Code} {H : Heap} {locs : List Loc} {cells slots : Nat} {Q : State → Prop}
variable {cc : ByteArray} {pc : Nat} {ls : Array Slot} {rest : List Value} {D : va_G} {cl : List vw_C} {A : Nat → Prop} {a : Nat} {tys : List (ClassId × FieldType)} {ws : va_W} {H0 : Heap}
theorem va_mna {X : va_W} {L : List Nat} {f : Nat → va_E} {cc : ByteArray} (hexec : p.tables.exec = Jvm.exec) (hb : c.code = cc) {own : String} {index : Nat} {ty : FieldType} {cy : ClassId} (hown : s.vm.findClass own = some m.cls) (hclink : (Cond.classLink own index ("[" ++ (FieldType.array ty).toString)).before args s = true) (hover : va_AOA ty s) (harr : (Cond.arrayClass ty).before args s = true) (hcy : s.vm.findClass (FieldType.array ty).toString = some cy)
    (hK : va_K D cl tys s) (hP : va_P D cl (X ++ va_pl L f) H) (hD : va_D A (X ++ va_pl L f)) (hS : va_S A H0 H locs) (hA : ∀ q, H0.size ≤ q → A q) {n k : Int32} {N' K' : Nat} {z : vp_A} (hn : ¬ n < 0) (hk : ¬ k < 0) (hN : n.toNatClampNeg = N') (hM : k.toNatClampNeg = K')
    (hb1 : N' * 4 ≤ 536870912) (hb2 : K' * componentBytes ty ≤ 536870912) (hb3 : K' ≤ 536870912) (hdf : fits ty (defaultValue ty) = true) (hdd : (defaultValue ty).isDefault = true) (hcells : cells + (1 + N') ≤ R.cells) (hslots : slots + (N' + N' * K') ≤ R.slots) (hz : ∀ c : ClassId, Jvm.Free.Multi.innerC c K' (defaultValue ty) = vp_cell c z) (hdg : decode cc pc = .ok (.multianewarray index 2, 4))
    (kk : ∀ (q : Nat) (r : Nat → Nat) (cA : ClassId) (H1 : Heap), (∀ i j : Nat, i < N' → j < N' → r i = r j → i = j) → (∀ i : Nat, i < N' → r i ∉ L) → va_K D cl (tys ++ [(cA, .array ty)]) s →
      va_P D cl ((X ++ [(q, .inl (cA, N', .inr (.inr (.inr (.inr (fun i => if i < N' then some (r i) else none))))))]) ++ va_pl (L ++ (List.range N').map r) (vr_up f ((List.range N').map r) (.inl (cy, z)))) H1 → va_D A ((X ++ [(q, .inl (cA, N', .inr (.inr (.inr (.inr (fun i => if i < N' then some (r i) else none))))))]) ++ va_pl (L ++ (List.range N').map r) (vr_up f ((List.range N').map r) (.inl (cy, z)))) → va_S A H0 H1 locs →
      W p l e R s m args below meth c H1 locs (cells + 1 + N') (slots + N' + N' * K') Q (F0 m (pc + 4) ls (.ref q :: rest))) : W p l e R s m args below meth c H locs cells slots Q (F0 m pc ls (.int k :: .int n :: rest)) := by
  subst hN
  subst hM
  intro T hT Xs
  obtain ⟨vm₁, cA, comp, -, fA, fC, hO, -, X', step⟩ := Xs.multianewarray2F hexec hown hclink (va_AOA.use hover) harr (g := F0 m pc ls (.int k :: .int n :: rest)) rfl (by rw [hb]; exact hdg) rfl hn hk hb1 hb2 hb3 hdf hdd hcells hslots
  have ec : some cy = some comp := hcy.symm.trans fC
  cases ec
  generalize hF : Jvm.Free.Multi.fill (T.setVm vm₁) cA cy n.toNatClampNeg k.toNatClampNeg (defaultValue ty) n.toNatClampNeg = F at X' step
  have hTh : (T.setVm vm₁).heap = H := hT
  obtain ⟨f1, f2, -, -⟩ := Jvm.Free.Multi.fill_facts (T.setVm vm₁) cA cy n.toNatClampNeg k.toNatClampNeg (defaultValue ty) n.toNatClampNeg
  rw [hF, hTh] at f1 f2
  have hold : ∀ x : Nat, x < H.size → F.heap[x]? = H[x]? := fun x hx => by
    have := Jvm.Free.Multi.fill_old (T.setVm vm₁) cA cy n.toNatClampNeg k.toNatClampNeg (defaultValue ty) (a := x) (by rw [hTh]; exact hx) n.toNatClampNeg
    rw [hF, hTh] at this
    exact this
  have hrow : ∀ j : Nat, j < n.toNatClampNeg → F.heap[H.size + 1 + j]? = some (vp_cell cy z) := fun j hj => by
    have := Jvm.Free.Multi.fill_inner (T.setVm vm₁) cA cy n.toNatClampNeg k.toNatClampNeg (defaultValue ty) n.toNatClampNeg j hj
    rw [hF, hTh, hz] at this
    exact this
  have hout : Jvm.Free.Multi.outerC cA n.toNatClampNeg H.size n.toNatClampNeg = vp_cell cA (n.toNatClampNeg, .inr (.inr (.inr (.inr (fun i => if i < n.toNatClampNeg then some (H.size + 1 + i) else none))))) := by
    rw [vp_cell_q]
    exact vr_outer cA n.toNatClampNeg H.size n.toNatClampNeg
  rw [hout] at f2
  have hlt : ∀ a, a ∈ L → a < H.size := fun a ha => by
    obtain ⟨k9, hk9⟩ := va_pl_get (X := X) (f := f) ha
    exact (hP k9 _ hk9).lt
  have hnl : ∀ i : Nat, i < n.toNatClampNeg → H.size + 1 + i ∉ L := fun i _ h => by
    have := hlt _ h
    omega
  have hnm : ∀ a, a ∈ (List.range n.toNatClampNeg).map (fun i => H.size + 1 + i) → a ∉ L := fun a ha h => by
    obtain ⟨i, -, rfl⟩ := List.mem_map.mp ha
    have := hlt _ h
    omega
  have hP0 : va_P D cl (X ++ va_pl L f) F.heap := hP.kept (fun k9 x hx => hold x.1 ((hP k9 x hx).lt))
  have hP1 : va_P D cl ((X ++ va_pl L f) ++ [(H.size, .inl (cA, n.toNatClampNeg, .inr (.inr (.inr (.inr (fun i => if i < n.toNatClampNeg then some (H.size + 1 + i) else none))))))]) F.heap := hP0.app (fun k9 x hx => by
    have h0 : k9 < 1 := (List.getElem?_eq_some_iff.mp hx).1
    rw [show k9 = 0 by omega] at hx
    cases hx
    exact f2)
  have hP2 : va_P D cl (((X ++ va_pl L f) ++ [(H.size, .inl (cA, n.toNatClampNeg, .inr (.inr (.inr (.inr (fun i => if i < n.toNatClampNeg then some (H.size + 1 + i) else none))))))]) ++ ((List.range n.toNatClampNeg).map (fun i => H.size + 1 + i)).map (fun a => (a, .inl (cy, z)))) F.heap := hP1.app (fun k9 x hx => by
    obtain ⟨a, ha, rfl⟩ := List.mem_map.mp (List.mem_of_getElem? hx)
    obtain ⟨i, hi, rfl⟩ := List.mem_map.mp ha
    exact hrow i (List.mem_range.mp hi))
  have hD2 : va_D A (((X ++ va_pl L f) ++ [(H.size, .inl (cA, n.toNatClampNeg, .inr (.inr (.inr (.inr (fun i => if i < n.toNatClampNeg then some (H.size + 1 + i) else none))))))]) ++ ((List.range n.toNatClampNeg).map (fun i => H.size + 1 + i)).map (fun a => (a, .inl (cy, z)))) := by
    have hD1 := hD.push (e := .inl (cA, n.toNatClampNeg, .inr (.inr (.inr (.inr (fun i => if i < n.toNatClampNeg then some (H.size + 1 + i) else none)))))) hP rfl (hA _ hS.1)
    generalize hW1 : (X ++ va_pl L f) ++ [(H.size, .inl (cA, n.toNatClampNeg, .inr (.inr (.inr (.inr (fun i => if i < n.toNatClampNeg then some (H.size + 1 + i) else none))))))] = W1 at hD1 hP1 ⊢
    have hle : ∀ (k9 : Nat) (x : Nat × va_E), W1[k9]? = some x → x.1 ≤ H.size := fun k9 x hx => by
      rw [← hW1] at hx
      by_cases hl : k9 < (X ++ va_pl L f).length
      · rw [List.getElem?_append_left hl] at hx
        exact Nat.le_of_lt ((hP k9 x hx).lt)
      · rw [List.getElem?_append_right (by omega)] at hx
        have h0 : k9 - (X ++ va_pl L f).length < 1 := (List.getElem?_eq_some_iff.mp hx).1
        rw [show k9 - (X ++ va_pl L f).length = 0 by omega] at hx
        cases hx
        exact Nat.le_refl _
    have hr : ∀ (k9 : Nat) (x : Nat × va_E), (((List.range n.toNatClampNeg).map (fun i => H.size + 1 + i)).map (fun a => ((a, .inl (cy, z)) : Nat × va_E)))[k9]? = some x → x.1 = H.size + 1 + k9 := fun k9 x hx => by
      rw [List.getElem?_map, List.getElem?_map] at hx
      by_cases h9 : k9 < n.toNatClampNeg
      · rw [List.getElem?_range h9] at hx
        cases hx
        rfl
      · have hn0 : (List.range n.toNatClampNeg)[k9]? = none := List.getElem?_eq_none (by rw [List.length_range]; omega)
        rw [hn0] at hx
        cases hx
    refine ⟨fun i j x y hi hj hxy => ?_, fun k9 x hx => ?_⟩
    · by_cases h1 : i < W1.length <;> by_cases h2 : j < W1.length
      · rw [List.getElem?_append_left h1] at hi
        rw [List.getElem?_append_left h2] at hj
        exact hD1.1 i j x y hi hj hxy
      · rw [List.getElem?_append_left h1] at hi
        rw [List.getElem?_append_right (by omega)] at hj
        have := hle _ _ hi
        have := hr _ _ hj
        omega
      · rw [List.getElem?_append_right (by omega)] at hi
        rw [List.getElem?_append_left h2] at hj
        have := hle _ _ hj
        have := hr _ _ hi
        omega
      · rw [List.getElem?_append_right (by omega)] at hi hj
        have := hr _ _ hi
        have := hr _ _ hj
        omega
    · by_cases h1 : k9 < W1.length
      · rw [List.getElem?_append_left h1] at hx
        exact hD1.2 k9 x hx
      · rw [List.getElem?_append_right (by omega)] at hx
        have := hr _ _ hx
        exact hA _ (by have := hS.1; omega)
  have hAr : ArrOfT s cA (.array ty) := fun N9 z9 => by
    obtain ⟨-, k9, hk9, cm9, hkk9⟩ := (hO 0 0 0).1
    exact ⟨(fun q hq => by cases hq), k9, hk9, cm9, hkk9⟩
  have hK2 : va_K D cl (tys ++ [(cA, .array ty)]) s := ⟨hK.1, fun k9 x hx => by
    by_cases hl : k9 < tys.length
    · rw [List.getElem?_append_left hl] at hx
      exact hK.2 k9 x hx
    · rw [List.getElem?_append_right (by omega)] at hx
      have h0 : k9 - tys.length < 1 := (List.getElem?_eq_some_iff.mp hx).1
      rw [show k9 - tys.length = 0 by omega] at hx
      cases hx
      exact ⟨hAr, fA⟩⟩
  obtain ⟨t, a1, b1⟩ := kk H.size (fun i => H.size + 1 + i) cA F.heap (fun i j _ _ h => by have h9 : H.size + 1 + i = H.size + 1 + j := h; omega) hnl hK2 (by rw [← vr_rows hnm]; exact vr_lay hP2) (by rw [← vr_rows hnm]; exact vr_layD hD2) ⟨by rw [f1]; have := hS.1; omega, fun x h1 h2 => (hold x (Nat.lt_of_lt_of_le h1 hS.1)).trans (hS.2.1 x h1 h2), hS.2.2⟩ F rfl X'
  refine ⟨t, step t ?_, b1⟩
  have e : T.heap.size = H.size := by rw [hT]
  rw [e]
  exact a1
end VGM
/-! ===== END ===== -/


/-- the words that aren't good ones, as premises: links to nest mates' private members, array classes over classes -/
def EV (U : State) : Prop := va_Nw (.fieldLinkNest RX8 186 "LogHunt$Reader" "begin" "I" "LogHunt") U ∧ va_Nw (.fieldLinkNest RX8 208 "LogHunt$Sweep" "findCount" "I" "LogHunt") U ∧ va_Nw (.fieldLinkNest RX8 263 "LogHunt$Cases" "findCount" "I" "LogHunt") U ∧ va_Nw (.fieldLinkNest RX8 241 "LogHunt$Cases" "caseCount" "I" "LogHunt") U ∧ va_Nw (.methodLinkNest RX8 9 yX7_init "LogHunt") U ∧ va_Nw (.methodLinkNest RX8 27 yX2_init "LogHunt") U ∧ va_Nw (.methodLinkNest RX3 17 yX5_init "LogHunt") U ∧ va_AO RX0 U ∧ va_AO RX3 U ∧ va_AO RX5 U ∧ va_AOA .int U
theorem EV.warm {s U : State} (hW : s.WarmedH U.vm) (h : EV s) : EV U := by
  obtain ⟨h1, h2, h3, h4, h5, h6, h7, h8, h9, h10, h11⟩ := h
  exact ⟨h1.warmF hW, h2.warmF hW, h3.warmF hW, h4.warmF hW, h5.warmM hW, h6.warmM hW, h7.warmM hW, h8.moved hW.alike, h9.moved hW.alike, h10.moved hW.alike, h11.moved hW.alike⟩
theorem EV.same {s U : State} (hvm : s.vm = U.vm) (h : EV s) : EV U := by
  obtain ⟨h1, h2, h3, h4, h5, h6, h7, h8, h9, h10, h11⟩ := h
  exact ⟨h1.same rfl hvm, h2.same rfl hvm, h3.same rfl hvm, h4.same rfl hvm, h5.same rfl hvm, h6.same rfl hvm, h7.same rfl hvm, h8.moved (by rw [hvm]; exact Vm.Alike.refl _), h9.moved (by rw [hvm]; exact Vm.Alike.refl _), h10.moved (by rw [hvm]; exact Vm.Alike.refl _), h11.moved (by rw [hvm]; exact Vm.Alike.refl _)⟩
abbrev MC (p : Program) (m : MethodId) (c : Code) (cc : ByteArray) (nL : Nat) (s : State) (args : Array Value) (own : String) : Prop := CallFix p m c cc nL s args Gw own
/-- the pool S stands in the heap H; since the method began (state s) nothing outside A has changed -/
def PB (D : va_G) (cy : Nat → ClassId) (A : Nat → Prop) (s : State) (S : Pool) (H : Heap) (locs : List Loc) : Prop :=
  va_P D vwCl (pW cy S) H ∧ va_D A (pW cy S) ∧ va_S A s.heap H locs ∧ (∀ q, s.heap.size ≤ q → A q) ∧ va_K D vwCl (tysP cy) s ∧ EV s
def pA (L : List Nat) (sz : Nat) : Nat → Prop := fun q => q ∈ L ∨ sz ≤ q
def PP (D : va_G) (cy : Nat → ClassId) (S : Pool) (sz : Nat) (U : State) : Prop := U.heap.size = sz ∧ va_P D vwCl (pW cy S) U.heap ∧ va_K D vwCl (tysP cy) U ∧ va_D (fun _ => True) (pW cy S) ∧ EV U
def PQ (D : va_G) (cy : Nat → ClassId) (A : Nat → Prop) (S : Pool) (t : State) : Prop := va_P D vwCl (pW cy S) t.heap ∧ va_D A (pW cy S)
theorem pW_A {cy : Nat → ClassId} {S : Pool} {k : Nat} {q : Nat × va_E} (h : (pW cy S)[k]? = some q) : q.1 ∈ S.L := by
  obtain ⟨a, ha, rfl⟩ := List.mem_map.mp (List.mem_of_getElem? h)
  exact ha
theorem pD_self {cy : Nat → ClassId} {S : Pool} {A : Nat → Prop} {sz : Nat} (h : va_D A (pW cy S)) : va_D (pA S.L sz) (pW cy S) := ⟨h.1, fun _ _ hk => Or.inl (pW_A hk)⟩
theorem PP.pb {D : va_G} {cy : Nat → ClassId} {S : Pool} {s : State} (h : PP D cy S s.heap.size s) : PB D cy (pA S.L s.heap.size) s S s.heap [] := ⟨h.2.1, pD_self h.2.2.2.1, va_S.rf, fun _ hq => Or.inr hq, h.2.2.1, h.2.2.2.2⟩
theorem PB.mem {D : va_G} {cy : Nat → ClassId} {A : Nat → Prop} {s : State} {S : Pool} {H : Heap} {locs : List Loc} (B : PB D cy A s S H locs) {q : Nat} (h : pA S.L H.size q) : A q := by
  rcases h with h | h
  · obtain ⟨k, hk⟩ := pW_get (cy := cy) h
    exact B.2.1.2 k _ hk
  · exact B.2.2.2.1 q (Nat.le_trans B.2.2.1.1 h)
theorem vwC_K {D : va_G} {cy : Nat → ClassId} {s : State} {cA : ClassId} {ty : FieldType} {k j : Nat} (hK : va_K D vwCl (tysP cy) s) (hK2 : va_K D vwCl (tysP cy ++ [(cA, ty)]) s) (hj : (tysP cy)[j]? = some (cy k, ty)) : cA = cy k := by
  have h1 := (hK.2 j _ hj).2
  have h2 := (hK2.2 7 (cA, ty) rfl).2
  cases ty with
  | object C =>
    obtain ⟨_, _, _, _, _, g1⟩ := h1
    obtain ⟨_, _, _, _, _, g2⟩ := h2
    exact Option.some.inj (g2.symm.trans g1)
  | _ => exact Option.some.inj (Eq.trans (Eq.symm h2) h1)
theorem rf_cat (r : Option Nat) : (va_rf r).category = 1 := by cases r <;> rfl
theorem z_nar {v : Int32} (h : v = 0 ∨ v = 1) : narrow .boolean (.int v) = .int v := by rcases h with rfl | rfl <;> rfl
theorem z_fit {v : Int32} (h : v = 0 ∨ v = 1) : fits .boolean (.int v) = true := by rcases h with rfl | rfl <;> rfl
theorem f_nar (ty : FieldType) (r : Option Nat) (h : (∃ n, ty = .object n) ∨ ∃ t, ty = .array t) : narrow ty (va_rf r) = va_rf r := by rcases h with ⟨n, rfl⟩ | ⟨t, rfl⟩ <;> cases r <;> rfl
theorem f_fit (ty : FieldType) (r : Option Nat) (h : (∃ n, ty = .object n) ∨ ∃ t, ty = .array t) : fits ty (va_rf r) = true := by rcases h with ⟨n, rfl⟩ | ⟨t, rfl⟩ <;> cases r <;> rfl

section GR
variable {p : Program} {l : Launch} {e : Env} {R : Room} {s : State} {m : MethodId} {args : Array Value} {below : List Frame} {meth : Method} {c : Code} {H : Heap} {locs : List Loc} {cells slots : Nat} {Q : State → Prop}
variable {cc : ByteArray} {pc : Nat} {ls : Array Slot} {rest : List Value} {D : va_G} {cy : Nat → ClassId} {A : Nat → Prop} {S : Pool} {own : String} {nL : Nat}

theorem g_aload_n (M : MC p m c cc nL s args own) {k : Fin 4} {i : Nat} {r : Option Nat} (hdg : decode cc pc = .ok (.aload_n k, 1)) (hi : (k : Nat) = i) (hl : ls[i]? = some (.val (va_rf r))) (kk : W p l e R s m args below meth c H locs cells slots Q (F0 m (pc + 1) ls (va_rf r :: rest))) : W p l e R s m args below meth c H locs cells slots Q (F0 m pc ls rest) := by
  cases r with
  | none => exact lv_aload_nN M.1 M.2.1 hdg hi hl kk
  | some a => exact lv_aload_n M.1 M.2.1 hdg hi hl kk
theorem g_aload (M : MC p m c cc nL s args own) {i : Nat} {r : Option Nat} (hdg : decode cc pc = .ok (.aload i, 2)) (hl : ls[i]? = some (.val (va_rf r))) (kk : W p l e R s m args below meth c H locs cells slots Q (F0 m (pc + 2) ls (va_rf r :: rest))) : W p l e R s m args below meth c H locs cells slots Q (F0 m pc ls rest) := by
  cases r with
  | none => exact lv_aloadN M.1 M.2.1 hdg hl kk
  | some a => exact lv_aload M.1 M.2.1 hdg hl kk
theorem g_astore_n (M : MC p m c cc nL s args own) {k : Fin 4} {i : Nat} {r : Option Nat} {lv lv' : List (Nat × Value)} (hdg : decode cc pc = .ok (.astore_n k, 1)) (hi : (k : Nat) = i) (h : lv_has ls nL lv) (hn : i < nL) (hl : (i, va_rf r) :: lv.filter (fun q => !(q.1 == i) && !(q.1 + 1 == i && q.2.category == 2)) = lv')
    (kk : ∀ ls' : Array Slot, lv_has ls' nL lv' → W p l e R s m args below meth c H locs cells slots Q (F0 m (pc + 1) ls' rest)) : W p l e R s m args below meth c H locs cells slots Q (F0 m pc ls (va_rf r :: rest)) := by
  cases r with
  | none => exact lv_astore_nN M.1 M.2.1 hdg hi h hn hl kk
  | some a => exact lv_astore_n M.1 M.2.1 hdg hi h hn hl kk
theorem g_astore (M : MC p m c cc nL s args own) {i : Nat} {r : Option Nat} {lv lv' : List (Nat × Value)} (hdg : decode cc pc = .ok (.astore i, 2)) (h : lv_has ls nL lv) (hn : i < nL) (hl : (i, va_rf r) :: lv.filter (fun q => !(q.1 == i) && !(q.1 + 1 == i && q.2.category == 2)) = lv')
    (kk : ∀ ls' : Array Slot, lv_has ls' nL lv' → W p l e R s m args below meth c H locs cells slots Q (F0 m (pc + 2) ls' rest)) : W p l e R s m args below meth c H locs cells slots Q (F0 m pc ls (va_rf r :: rest)) := by
  cases r with
  | none => exact lv_astoreN M.1 M.2.1 hdg h hn hl kk
  | some a => exact lv_astore M.1 M.2.1 hdg h hn hl kk
theorem g_null (M : MC p m c cc nL s args own) (hdg : decode cc pc = .ok (.aconst_null, 1)) (kk : W p l e R s m args below meth c H locs cells slots Q (F0 m (pc + 1) ls (va_rf none :: rest))) : W p l e R s m args below meth c H locs cells slots Q (F0 m pc ls rest) := lv_null M.1 M.2.1 hdg kk
theorem g_ifnull (M : MC p m c cc nL s args own) {r : Option Nat} {off : Int} {tgt : Nat} (hdg : decode cc pc = .ok (.ifnull off, 3)) (ht : (pc : Int) + off = (tgt : Int)) (kt : r = none → W p l e R s m args below meth c H locs cells slots Q (F0 m tgt ls rest)) (kf : ¬ r = none → W p l e R s m args below meth c H locs cells slots Q (F0 m (pc + 3) ls rest)) : W p l e R s m args below meth c H locs cells slots Q (F0 m pc ls (va_rf r :: rest)) := by
  cases r with
  | none => exact lv_ifnullN M.1 M.2.1 hdg ht (kt rfl)
  | some a => exact lv_ifnull M.1 M.2.1 hdg (kf (fun h => by cases h))
theorem g_ifnonnull (M : MC p m c cc nL s args own) {r : Option Nat} {off : Int} {tgt : Nat} (hdg : decode cc pc = .ok (.ifnonnull off, 3)) (ht : (pc : Int) + off = (tgt : Int)) (kt : ¬ r = none → W p l e R s m args below meth c H locs cells slots Q (F0 m tgt ls rest)) (kf : r = none → W p l e R s m args below meth c H locs cells slots Q (F0 m (pc + 3) ls rest)) : W p l e R s m args below meth c H locs cells slots Q (F0 m pc ls (va_rf r :: rest)) := by
  cases r with
  | none => exact lv_ifnonnullN M.1 M.2.1 hdg (kf rfl)
  | some a => exact lv_ifnonnull M.1 M.2.1 hdg ht (kt (fun h => by cases h))
theorem g_getI (M : MC p m c cc nL s args own) (B : PB D cy A s S H locs) {r : Option Nat} {ci k N index : Nat} {C : String} {T : u_T} (hc : vwCl[ci]? = some (C, T, N)) (hin : ∀ w ∈ u_ws C T N, w ∈ Gw) (hk : k < N) (hf : (fk ci)[k]? = some false) (h10 : ci < 10) (hlink : Cond.fieldLink own index (T k).1 (T k).2.1 (T k).2.2.1 ∈ Gw) (hdg : decode cc pc = .ok (.getfield index, 3)) {K : Int32 → Prop} (h : xI S r ci k K) (kk : ∀ v : Int32, K v → W p l e R s m args below meth c H locs cells slots Q (F0 m (pc + 3) ls (.int v :: rest))) : W p l e R s m args below meth c H locs cells slots Q (F0 m pc ls (va_rf r :: rest)) := by
  obtain ⟨a, rfl, hL, hK, h⟩ := h
  obtain ⟨q0, hq⟩ := pW_get (cy := cy) hL
  rw [pE_obj hK h10] at hq
  exact va_get M.1 M.2.1 M.2.2.2.2 hin M.2.2.2.1 B.2.2.2.2.1 B.1 q0 hq hc k hk (M.2.2.2.2 _ hlink) (fun _ h => h) (pfs_at hf) hdg (kk _ h)
theorem g_getIN (M : MC p m c cc nL s args own) (B : PB D cy A s S H locs) {r : Option Nat} {ci k N index : Nat} {C host : String} {T : u_T} (hc : vwCl[ci]? = some (C, T, N)) (hin : ∀ w ∈ u_ws C T N, w ∈ Gw) (hk : k < N) (hf : (fk ci)[k]? = some false) (h10 : ci < 10) (hlink : va_Nw (.fieldLinkNest own index (T k).1 (T k).2.1 (T k).2.2.1 host) s) (hdg : decode cc pc = .ok (.getfield index, 3)) {K : Int32 → Prop} (h : xI S r ci k K) (kk : ∀ v : Int32, K v → W p l e R s m args below meth c H locs cells slots Q (F0 m (pc + 3) ls (.int v :: rest))) : W p l e R s m args below meth c H locs cells slots Q (F0 m pc ls (va_rf r :: rest)) := by
  obtain ⟨a, rfl, hL, hK, h⟩ := h
  obtain ⟨q0, hq⟩ := pW_get (cy := cy) hL
  rw [pE_obj hK h10] at hq
  exact va_getN M.1 M.2.1 M.2.2.2.2 hin M.2.2.2.1 B.2.2.2.2.1 B.1 q0 hq hc k hk (va_Nw.use rfl hlink) (fun _ h => h) (pfs_at hf) hdg (kk _ h)
theorem g_getR (M : MC p m c cc nL s args own) (B : PB D cy A s S H locs) {r : Option Nat} {ci k N index : Nat} {C : String} {T : u_T} (hc : vwCl[ci]? = some (C, T, N)) (hin : ∀ w ∈ u_ws C T N, w ∈ Gw) (hk : k < N) (hf : (fk ci)[k]? = some true) (h10 : ci < 10) (hlink : Cond.fieldLink own index (T k).1 (T k).2.1 (T k).2.2.1 ∈ Gw) (hdg : decode cc pc = .ok (.getfield index, 3)) {K : Option Nat → Prop} (h : xR S r ci k K) (kk : ∀ v : Option Nat, K v → W p l e R s m args below meth c H locs cells slots Q (F0 m (pc + 3) ls (va_rf v :: rest))) : W p l e R s m args below meth c H locs cells slots Q (F0 m pc ls (va_rf r :: rest)) := by
  obtain ⟨a, rfl, hL, hK, h⟩ := h
  obtain ⟨q0, hq⟩ := pW_get (cy := cy) hL
  rw [pE_obj hK h10] at hq
  exact va_get M.1 M.2.1 M.2.2.2.2 hin M.2.2.2.1 B.2.2.2.2.1 B.1 q0 hq hc k hk (M.2.2.2.2 _ hlink) (fun _ h => h) (pfs_at hf) hdg (kk _ h)
theorem si_pb {a ci k : Nat} {v : Int32} {H1 : Heap} {locs1 : List Loc} {q0 : Nat} (B : PB D cy A s S H locs) (hL : a ∈ S.L) (hK : S.K a = ci) (h10 : ci < 10) (hf : (fk ci)[k]? = some false) (hq : (pW cy S)[q0]? = some (a, pE cy S a)) (hP : va_P D vwCl ((pW cy S).set q0 (a, .inr (ci, (pfs ci (S.R a) (S.I a)).set k (.int v)))) H1) (hD : va_D A ((pW cy S).set q0 (a, .inr (ci, (pfs ci (S.R a) (S.I a)).set k (.int v))))) (hS : va_S A s.heap H1 locs1) : PB D cy A s (S.si a k v) H1 locs1 := by
  have e := pW_set (S' := S.si a k v) B.2.1 hL hq rfl (e := .inr (ci, (pfs ci (S.R a) (S.I a)).set k (.int v))) (by
    rw [pE_obj (S := S.si a k v) (k := ci) hK h10, pfs_setI hf]
    show _ = Sum.inr (ci, pfs ci (S.R a) (p2 S.I a k v a))
    rw [p2_at]) (fun b hb => si_ne hb)
  rw [e] at hP hD
  exact ⟨hP, hD, hS, B.2.2.2⟩
theorem sr_pb {a ci k : Nat} {v : Option Nat} {H1 : Heap} {locs1 : List Loc} {q0 : Nat} (B : PB D cy A s S H locs) (hL : a ∈ S.L) (hK : S.K a = ci) (h10 : ci < 10) (hf : (fk ci)[k]? = some true) (hq : (pW cy S)[q0]? = some (a, pE cy S a)) (hP : va_P D vwCl ((pW cy S).set q0 (a, .inr (ci, (pfs ci (S.R a) (S.I a)).set k (va_rf v)))) H1) (hD : va_D A ((pW cy S).set q0 (a, .inr (ci, (pfs ci (S.R a) (S.I a)).set k (va_rf v))))) (hS : va_S A s.heap H1 locs1) : PB D cy A s (S.sr a k v) H1 locs1 := by
  have e := pW_set (S' := S.sr a k v) B.2.1 hL hq rfl (e := .inr (ci, (pfs ci (S.R a) (S.I a)).set k (va_rf v))) (by
    rw [pE_obj (S := S.sr a k v) (k := ci) hK h10, pfs_setR hf]
    show _ = Sum.inr (ci, pfs ci (p2 S.R a k v a) (S.I a))
    rw [p2_at]) (fun b hb => sr_ne hb)
  rw [e] at hP hD
  exact ⟨hP, hD, hS, B.2.2.2⟩
theorem g_putI (M : MC p m c cc nL s args own) (B : PB D cy A s S H locs) {r : Option Nat} {ci k N index : Nat} {C : String} {T : u_T} {ty0 : Nat → FieldType} {v : Int32} (hc : vwCl[ci]? = some (C, T, N)) (hin : ∀ w ∈ u_ws C T N, w ∈ Gw) (hty : ∀ k, k < N → parseFieldDescriptor (T k).2.2.1 = some (ty0 k)) (hnm : ∀ a, a < N → ∀ b, b < N → a ≠ b → (T a).2.1 ≠ (T b).2.1) (hk : k < N) (hf : (fk ci)[k]? = some false) (h10 : ci < 10) (hlink : Cond.fieldLink own index (T k).1 (T k).2.1 (T k).2.2.1 ∈ Gw) (hfin : (T k).2.2.2 = false ∨ ((T k).2.2.2 = true ∧ meth.name = "<init>" ∧ (T k).1 = own)) (ht : ty0 k = .int) (hdg : decode cc pc = .ok (.putfield index, 3)) {K : Pool → Prop} (h : xpI S r ci k v K) (kk : ∀ (S : Pool) (H1 : Heap) (locs1 : List Loc), K S → PB D cy A s S H1 locs1 → W p l e R s m args below meth c H1 locs1 cells slots Q (F0 m (pc + 3) ls rest)) : W p l e R s m args below meth c H locs cells slots Q (F0 m pc ls (.int v :: va_rf r :: rest)) := by
  obtain ⟨a, rfl, hL, hK, h⟩ := h
  obtain ⟨q0, hq⟩ := pW_get (cy := cy) hL
  have hq' := hq
  rw [pE_obj hK h10] at hq'
  have hl : k < (pfs ci (S.R a) (S.I a)).length := by rw [pfs_len]; exact (List.getElem?_eq_some_iff.mp hf).1
  have hd : parseFieldDescriptor (T k).2.2.1 = some .int := by rw [hty k hk, ht]
  rcases hfin with hfin | ⟨hfin, hi, ho⟩
  · exact va_put M.1 M.2.1 M.2.2.2.2 hin ty0 hty hnm M.2.2.2.1 B.2.2.2.2.1 B.1 B.2.1 B.2.2.1 q0 hq' hc k hk (M.2.2.2.2 _ hlink) (fun _ h => h) hfin hd rfl rfl hl hdg (fun H1 locs1 hP hD hS => kk _ H1 locs1 h (si_pb B hL hK h10 hf hq hP hD hS))
  · exact va_putF M.1 M.2.1 M.2.2.2.2 hin ty0 hty hnm M.2.2.2.1 B.2.2.2.2.1 B.1 B.2.1 B.2.2.1 q0 hq' hc k hk (M.2.2.2.2 _ hlink) (fun _ h => h) hfin hi ho hd rfl rfl hl hdg (fun H1 locs1 hP hD hS => kk _ H1 locs1 h (si_pb B hL hK h10 hf hq hP hD hS))
theorem g_putZ (M : MC p m c cc nL s args own) (B : PB D cy A s S H locs) {r : Option Nat} {ci k N index : Nat} {C : String} {T : u_T} {ty0 : Nat → FieldType} {v : Int32} (hc : vwCl[ci]? = some (C, T, N)) (hin : ∀ w ∈ u_ws C T N, w ∈ Gw) (hty : ∀ k, k < N → parseFieldDescriptor (T k).2.2.1 = some (ty0 k)) (hnm : ∀ a, a < N → ∀ b, b < N → a ≠ b → (T a).2.1 ≠ (T b).2.1) (hk : k < N) (hf : (fk ci)[k]? = some false) (h10 : ci < 10) (hlink : Cond.fieldLink own index (T k).1 (T k).2.1 (T k).2.2.1 ∈ Gw) (hfin : (T k).2.2.2 = false) (ht : ty0 k = .boolean) (hdg : decode cc pc = .ok (.putfield index, 3)) {K : Pool → Prop} (h : xpZ S r ci k v K) (kk : ∀ (S : Pool) (H1 : Heap) (locs1 : List Loc), K S → PB D cy A s S H1 locs1 → W p l e R s m args below meth c H1 locs1 cells slots Q (F0 m (pc + 3) ls rest)) : W p l e R s m args below meth c H locs cells slots Q (F0 m pc ls (.int v :: va_rf r :: rest)) := by
  obtain ⟨a, rfl, hL, hK, hz, h⟩ := h
  obtain ⟨q0, hq⟩ := pW_get (cy := cy) hL
  have hq' := hq
  rw [pE_obj hK h10] at hq'
  have hl : k < (pfs ci (S.R a) (S.I a)).length := by rw [pfs_len]; exact (List.getElem?_eq_some_iff.mp hf).1
  have hd : parseFieldDescriptor (T k).2.2.1 = some .boolean := by rw [hty k hk, ht]
  exact va_put M.1 M.2.1 M.2.2.2.2 hin ty0 hty hnm M.2.2.2.1 B.2.2.2.2.1 B.1 B.2.1 B.2.2.1 q0 hq' hc k hk (M.2.2.2.2 _ hlink) (fun _ h => h) hfin hd (z_nar hz) (z_fit hz) hl hdg (fun H1 locs1 hP hD hS => kk _ H1 locs1 h (si_pb B hL hK h10 hf hq hP hD hS))
theorem g_putR (M : MC p m c cc nL s args own) (B : PB D cy A s S H locs) {r v : Option Nat} {ci k N index : Nat} {C : String} {T : u_T} {ty0 : Nat → FieldType} (hc : vwCl[ci]? = some (C, T, N)) (hin : ∀ w ∈ u_ws C T N, w ∈ Gw) (hty : ∀ k, k < N → parseFieldDescriptor (T k).2.2.1 = some (ty0 k)) (hnm : ∀ a, a < N → ∀ b, b < N → a ≠ b → (T a).2.1 ≠ (T b).2.1) (hk : k < N) (hf : (fk ci)[k]? = some true) (h10 : ci < 10) (hlink : Cond.fieldLink own index (T k).1 (T k).2.1 (T k).2.2.1 ∈ Gw) (hfin : (T k).2.2.2 = false ∨ ((T k).2.2.2 = true ∧ meth.name = "<init>" ∧ (T k).1 = own)) (ht : (∃ n, ty0 k = .object n) ∨ ∃ t, ty0 k = .array t) (hdg : decode cc pc = .ok (.putfield index, 3)) {K : Pool → Prop} (h : xpR S r ci k v K) (kk : ∀ (S : Pool) (H1 : Heap) (locs1 : List Loc), K S → PB D cy A s S H1 locs1 → W p l e R s m args below meth c H1 locs1 cells slots Q (F0 m (pc + 3) ls rest)) : W p l e R s m args below meth c H locs cells slots Q (F0 m pc ls (va_rf v :: va_rf r :: rest)) := by
  obtain ⟨a, rfl, hL, hK, h⟩ := h
  obtain ⟨q0, hq⟩ := pW_get (cy := cy) hL
  have hq' := hq
  rw [pE_obj hK h10] at hq'
  have hl : k < (pfs ci (S.R a) (S.I a)).length := by rw [pfs_len]; exact (List.getElem?_eq_some_iff.mp hf).1
  have hd : parseFieldDescriptor (T k).2.2.1 = some (ty0 k) := hty k hk
  rcases hfin with hfin | ⟨hfin, hi, ho⟩
  · exact va_put M.1 M.2.1 M.2.2.2.2 hin ty0 hty hnm M.2.2.2.1 B.2.2.2.2.1 B.1 B.2.1 B.2.2.1 q0 hq' hc k hk (M.2.2.2.2 _ hlink) (fun _ h => h) hfin hd (f_nar _ _ ht) (f_fit _ _ ht) hl hdg (fun H1 locs1 hP hD hS => kk _ H1 locs1 h (sr_pb B hL hK h10 hf hq hP hD hS))
  · exact va_putF M.1 M.2.1 M.2.2.2.2 hin ty0 hty hnm M.2.2.2.1 B.2.2.2.2.1 B.1 B.2.1 B.2.2.1 q0 hq' hc k hk (M.2.2.2.2 _ hlink) (fun _ h => h) hfin hi ho hd (f_nar _ _ ht) (f_fit _ _ ht) hl hdg (fun H1 locs1 hP hD hS => kk _ H1 locs1 h (sr_pb B hL hK h10 hf hq hP hD hS))
theorem g_iald (M : MC p m c cc nL s args own) (B : PB D cy A s S H locs) {r : Option Nat} {i : Int32} (hdg : decode cc pc = .ok (.iaload, 1)) {K : Int32 → Prop} (h : xaI S r 10 i K) (kk : ∀ v : Int32, K v → W p l e R s m args below meth c H locs cells slots Q (F0 m (pc + 1) ls (.int v :: rest))) : W p l e R s m args below meth c H locs cells slots Q (F0 m pc ls (.int i :: va_rf r :: rest)) := by
  obtain ⟨a, rfl, hL, hK, hin, h⟩ := h
  obtain ⟨q0, hq⟩ := pW_get (cy := cy) hL
  rw [pE_int hK (by decide) (by decide)] at hq
  exact va_iald M.1 M.2.1 B.2.2.2.2.1 B.1 q0 0 hq rfl hin hdg (kk _ h)
theorem g_zald (M : MC p m c cc nL s args own) (B : PB D cy A s S H locs) {r : Option Nat} {i : Int32} (hdg : decode cc pc = .ok (.baload, 1)) {K : Int32 → Prop} (h : xaI S r 11 i K) (kk : ∀ v : Int32, K v → W p l e R s m args below meth c H locs cells slots Q (F0 m (pc + 1) ls (.int v :: rest))) : W p l e R s m args below meth c H locs cells slots Q (F0 m pc ls (.int i :: va_rf r :: rest)) := by
  obtain ⟨a, rfl, hL, hK, hin, h⟩ := h
  obtain ⟨q0, hq⟩ := pW_get (cy := cy) hL
  rw [pE_int hK (by decide) (by decide)] at hq
  exact va_zald M.1 M.2.1 B.2.2.2.2.1 B.1 q0 1 hq rfl hin hdg (kk _ h)
theorem si_pa {a kd k : Nat} {v : Int32} {f : Nat → Int32} {H1 : Heap} {locs1 : List Loc} {q0 : Nat} (B : PB D cy A s S H locs) (hL : a ∈ S.L) (hK : S.K a = kd) (h10 : 10 ≤ kd) (h12 : kd < 12) (hq : (pW cy S)[q0]? = some (a, pE cy S a)) (hf : f = fun j => if j = k then v else S.I a j) (hP : va_P D vwCl ((pW cy S).set q0 (a, .inl (cy kd, S.len a, .inl f))) H1) (hD : va_D A ((pW cy S).set q0 (a, .inl (cy kd, S.len a, .inl f)))) (hS : va_S A s.heap H1 locs1) : PB D cy A s (S.si a k v) H1 locs1 := by
  have e := pW_set (S' := S.si a k v) B.2.1 hL hq rfl (e := .inl (cy kd, S.len a, .inl f)) (by
    rw [pE_int (S := S.si a k v) (k := kd) hK h10 h12]
    show _ = Sum.inl (cy kd, S.len a, Sum.inl (p2 S.I a k v a))
    rw [p2_at, hf]) (fun b hb => si_ne hb)
  rw [e] at hP hD
  exact ⟨hP, hD, hS, B.2.2.2⟩
theorem sr_pa {a kd k : Nat} {v : Option Nat} {H1 : Heap} {locs1 : List Loc} {q0 : Nat} (B : PB D cy A s S H locs) (hL : a ∈ S.L) (hK : S.K a = kd) (h12 : 12 ≤ kd ∧ kd ≠ 16) (hq : (pW cy S)[q0]? = some (a, pE cy S a)) (hP : va_P D vwCl ((pW cy S).set q0 (a, .inl (cy kd, S.len a, .inr (.inr (.inr (.inr (va_up (S.R a) k v))))))) H1) (hD : va_D A ((pW cy S).set q0 (a, .inl (cy kd, S.len a, .inr (.inr (.inr (.inr (va_up (S.R a) k v)))))))) (hS : va_S A s.heap H1 locs1) : PB D cy A s (S.sr a k v) H1 locs1 := by
  have e := pW_set (S' := S.sr a k v) B.2.1 hL hq rfl (e := .inl (cy kd, S.len a, .inr (.inr (.inr (.inr (va_up (S.R a) k v)))))) (by
    rw [pE_ref (S := S.sr a k v) (k := kd) hK h12]
    show _ = Sum.inl (cy kd, S.len a, Sum.inr (Sum.inr (Sum.inr (Sum.inr (p2 S.R a k v a)))))
    rw [p2_at]
    rfl) (fun b hb => sr_ne hb)
  rw [e] at hP hD
  exact ⟨hP, hD, hS, B.2.2.2⟩
theorem g_iast (M : MC p m c cc nL s args own) (B : PB D cy A s S H locs) {r : Option Nat} {i v : Int32} (hdg : decode cc pc = .ok (.iastore, 1)) {K : Pool → Prop} (h : xsI S r 10 i v K) (kk : ∀ (S : Pool) (H1 : Heap) (locs1 : List Loc), K S → PB D cy A s S H1 locs1 → W p l e R s m args below meth c H1 locs1 cells slots Q (F0 m (pc + 1) ls rest)) : W p l e R s m args below meth c H locs cells slots Q (F0 m pc ls (.int v :: .int i :: va_rf r :: rest)) := by
  obtain ⟨a, rfl, hL, hK, hin, h⟩ := h
  obtain ⟨q0, hq⟩ := pW_get (cy := cy) hL
  have hq' := hq
  rw [pE_int hK (by decide) (by decide)] at hq'
  exact va_iast M.1 M.2.1 B.2.2.2.2.1 B.1 B.2.1 B.2.2.1 q0 0 hq' rfl hin hdg (fun H1 locs1 hP hD hS => kk _ H1 locs1 h (si_pa B hL hK (by decide) (by decide) hq rfl hP hD hS))
theorem g_zast (M : MC p m c cc nL s args own) (B : PB D cy A s S H locs) {r : Option Nat} {i v : Int32} (hdg : decode cc pc = .ok (.bastore, 1)) {K : Pool → Prop} (h : xsZ S r 11 i v K) (kk : ∀ (S : Pool) (H1 : Heap) (locs1 : List Loc), K S → PB D cy A s S H1 locs1 → W p l e R s m args below meth c H1 locs1 cells slots Q (F0 m (pc + 1) ls rest)) : W p l e R s m args below meth c H locs cells slots Q (F0 m pc ls (.int v :: .int i :: va_rf r :: rest)) := by
  obtain ⟨a, rfl, hL, hK, hin, hz, h⟩ := h
  obtain ⟨q0, hq⟩ := pW_get (cy := cy) hL
  have hq' := hq
  rw [pE_int hK (by decide) (by decide)] at hq'
  have hv : vp_nar .boolean v = v := by rcases hz with rfl | rfl <;> rfl
  exact va_zast M.1 M.2.1 B.2.2.2.2.1 B.1 B.2.1 B.2.2.1 q0 1 hq' rfl hin hdg (fun H1 locs1 hP hD hS => kk _ H1 locs1 h (si_pa B hL hK (by decide) (by decide) hq (by rw [hv]; rfl) hP hD hS))
theorem g_aald (M : MC p m c cc nL s args own) (B : PB D cy A s S H locs) {r : Option Nat} {kd t0 : Nat} {C : String} {i : Int32} (h12 : 12 ≤ kd ∧ kd ≠ 16) (ht : (tysP cy)[t0]? = some (cy kd, .object C)) (hdg : decode cc pc = .ok (.aaload, 1)) {K : Option Nat → Prop} (h : xaR S r kd i K) (kk : ∀ v : Option Nat, K v → W p l e R s m args below meth c H locs cells slots Q (F0 m (pc + 1) ls (va_rf v :: rest))) : W p l e R s m args below meth c H locs cells slots Q (F0 m pc ls (.int i :: va_rf r :: rest)) := by
  obtain ⟨a, rfl, hL, hK, hin, h⟩ := h
  obtain ⟨q0, hq⟩ := pW_get (cy := cy) hL
  rw [pE_ref hK h12] at hq
  exact va_aldq M.1 M.2.1 B.2.2.2.2.1 B.1 q0 t0 hq ht hin hdg (kk _ h)
theorem g_aaldA (M : MC p m c cc nL s args own) (B : PB D cy A s S H locs) {r : Option Nat} {i : Int32} (hdg : decode cc pc = .ok (.aaload, 1)) {K : Option Nat → Prop} (h : xaR S r 15 i K) (kk : ∀ v : Option Nat, K v → W p l e R s m args below meth c H locs cells slots Q (F0 m (pc + 1) ls (va_rf v :: rest))) : W p l e R s m args below meth c H locs cells slots Q (F0 m pc ls (.int i :: va_rf r :: rest)) := by
  obtain ⟨a, rfl, hL, hK, hin, h⟩ := h
  obtain ⟨q0, hq⟩ := pW_get (cy := cy) hL
  rw [pE_ref hK ⟨by decide, by decide⟩] at hq
  have hlt : i.toNatClampNeg < S.len a := Nat.not_le.mp fun q => hin (Or.inr q)
  exact W.aald (v := va_rf (S.R a i.toNatClampNeg)) (ty := .array .int) M.1 M.2.1 (B.1 q0 _ hq) ((B.2.2.2.2.1.2 5 _ rfl).1 (S.len a) (fun j => va_rf (S.R a j))) rfl (fun q => by cases q) (by show ¬ (i < 0 ∨ (arrV _ _ _).slots.size ≤ _); rw [arrV_size]; exact hin) (by show (arrV _ _ _).slots[_]? = _; rw [arrV_read _ _ hlt]) rfl rfl hdg (kk _ h)
theorem g_lald (M : MC p m c cc nL s args own) (B : PB D cy A s S H locs) {r : Option Nat} {i : Int32} (hdg : decode cc pc = .ok (.laload, 1)) {K : Int64 → Prop} (h : xaJ S r i K) (kk : ∀ v : Int64, K v → W p l e R s m args below meth c H locs cells slots Q (F0 m (pc + 1) ls (.long v :: rest))) : W p l e R s m args below meth c H locs cells slots Q (F0 m pc ls (.int i :: va_rf r :: rest)) := by
  obtain ⟨a, rfl, hL, hK, hin, h⟩ := h
  obtain ⟨q0, hq⟩ := pW_get (cy := cy) hL
  rw [pE_long hK] at hq
  exact va_lald M.1 M.2.1 B.2.2.2.2.1 B.1 q0 6 hq rfl hin hdg (kk _ h)
theorem sj_pa {a k : Nat} {v : Int64} {f : Nat → Int64} {H1 : Heap} {locs1 : List Loc} {q0 : Nat} (B : PB D cy A s S H locs) (hL : a ∈ S.L) (hK : S.K a = 16) (hq : (pW cy S)[q0]? = some (a, pE cy S a)) (hf : f = fun j => if j = k then v else S.J a j) (hP : va_P D vwCl ((pW cy S).set q0 (a, .inl (cy 16, S.len a, .inr (.inl f)))) H1) (hD : va_D A ((pW cy S).set q0 (a, .inl (cy 16, S.len a, .inr (.inl f))))) (hS : va_S A s.heap H1 locs1) : PB D cy A s (S.sj a k v) H1 locs1 := by
  have e := pW_set (S' := S.sj a k v) B.2.1 hL hq rfl (e := .inl (cy 16, S.len a, .inr (.inl f))) (by
    rw [pE_long (S := S.sj a k v) hK]
    show _ = Sum.inl (cy 16, S.len a, Sum.inr (Sum.inl (p2 S.J a k v a)))
    rw [p2_at, hf]) (fun b hb => sj_ne hb)
  rw [e] at hP hD
  exact ⟨hP, hD, hS, B.2.2.2⟩
theorem g_last (M : MC p m c cc nL s args own) (B : PB D cy A s S H locs) {r : Option Nat} {i : Int32} {v : Int64} (hdg : decode cc pc = .ok (.lastore, 1)) {K : Pool → Prop} (h : xsJ S r i v K) (kk : ∀ (S : Pool) (H1 : Heap) (locs1 : List Loc), K S → PB D cy A s S H1 locs1 → W p l e R s m args below meth c H1 locs1 cells slots Q (F0 m (pc + 1) ls rest)) : W p l e R s m args below meth c H locs cells slots Q (F0 m pc ls (.long v :: .int i :: va_rf r :: rest)) := by
  obtain ⟨a, rfl, hL, hK, hin, h⟩ := h
  obtain ⟨q0, hq⟩ := pW_get (cy := cy) hL
  have hq' := hq
  rw [pE_long hK] at hq'
  exact va_last M.1 M.2.1 B.2.2.2.2.1 B.1 B.2.1 B.2.2.1 q0 6 hq' rfl hin hdg (fun H1 locs1 hP hD hS => kk _ H1 locs1 h (sj_pa B hL hK hq rfl hP hD hS))
theorem g_aast (M : MC p m c cc nL s args own) (B : PB D cy A s S H locs) {r v : Option Nat} {kd kv t0 : Nat} {q : vw_C} {i : Int32} (h12 : 12 ≤ kd ∧ kd ≠ 16) (hkv : kv < 10) (hc : vwCl[kv]? = some q) (ht : (tysP cy)[t0]? = some (cy kd, .object q.1)) (hdg : decode cc pc = .ok (.aastore, 1)) {K : Pool → Prop} (h : xsR S r kd kv i v K) (kk : ∀ (S : Pool) (H1 : Heap) (locs1 : List Loc), K S → PB D cy A s S H1 locs1 → W p l e R s m args below meth c H1 locs1 cells slots Q (F0 m (pc + 1) ls rest)) : W p l e R s m args below meth c H locs cells slots Q (F0 m pc ls (va_rf v :: .int i :: va_rf r :: rest)) := by
  obtain ⟨a, rfl, hL, hK, hin, hv, h⟩ := h
  obtain ⟨q0, hq⟩ := pW_get (cy := cy) hL
  have hq' := hq
  rw [pE_ref hK h12] at hq'
  cases v with
  | none => exact va_astqN M.1 M.2.1 B.2.2.2.2.1 B.1 B.2.1 B.2.2.1 q0 t0 hq' ht hin hdg (fun H1 locs1 hP hD hS => kk _ H1 locs1 h (sr_pa B hL hK h12 hq hP hD hS))
  | some b =>
    obtain ⟨hb, hkb⟩ := hv b rfl
    obtain ⟨qk, hqk⟩ := pW_get (cy := cy) hb
    rw [pE_obj hkb hkv] at hqk
    exact va_astq M.1 M.2.1 B.2.2.2.2.1 B.1 B.2.1 B.2.2.1 q0 t0 qk kv hq' ht hqk hc hin hdg (fun H1 locs1 hP hD hS => kk _ H1 locs1 h (sr_pa B hL hK h12 hq hP hD hS))
theorem g_len (M : MC p m c cc nL s args own) (B : PB D cy A s S H locs) {r : Option Nat} (hdg : decode cc pc = .ok (.arraylength, 1)) {K : Int32 → Prop} (h : xln S r 10 K) (kk : ∀ v : Int32, K v → W p l e R s m args below meth c H locs cells slots Q (F0 m (pc + 1) ls (.int v :: rest))) : W p l e R s m args below meth c H locs cells slots Q (F0 m pc ls (va_rf r :: rest)) := by
  obtain ⟨a, rfl, hL, hK, h⟩ := h
  obtain ⟨q0, hq⟩ := pW_get (cy := cy) hL
  rw [pE_int hK (by decide) (by decide)] at hq
  exact va_alen M.1 M.2.1 B.2.2.2.2.1 B.1 q0 0 hq rfl rfl hdg (kk _ h)
theorem pfs_new (k : Nat) : pfs k (fun _ => none) (fun _ => 0) = (fk k).map (fun b => if b then Value.null else .int 0) := by
  apply List.ext_getElem?
  intro n
  by_cases hn : n < (fk k).length
  · obtain ⟨b, hb⟩ : ∃ b, (fk k)[n]? = some b := ⟨_, List.getElem?_eq_getElem hn⟩
    rw [pfs_at hb, List.getElem?_map, hb]
    cases b <;> rfl
  · rw [List.getElem?_eq_none (by rw [pfs_len]; omega), List.getElem?_eq_none (by rw [List.length_map]; omega)]
theorem add_pb {q k n : Nat} {x : va_E} {H1 : Heap} {locs1 : List Loc} (B : PB D cy A s S H locs) (hx : x = pC cy k n (fun _ => none) (fun _ => 0) (fun _ => 0)) (hP : va_P D vwCl (pW cy S ++ [(q, x)]) H1) (hD : va_D A (pW cy S ++ [(q, x)])) (hS : va_S A s.heap H1 locs1) : q ∉ S.L ∧ PB D cy A s (S.add q k n) H1 locs1 := by
  have hn : q ∉ S.L := va_pl_fresh2 (X := []) hD
  refine ⟨hn, ?_⟩
  have e := pW_add (S' := S.add q k n) (e := x) hn rfl (by
    rw [hx]
    show _ = pC cy (va_up S.K q k q) (va_up S.len q n q) (va_up S.R q (fun _ => none) q) (va_up S.I q (fun _ => 0) q) (va_up S.J q (fun _ => 0) q)
    rw [va_up_at2, va_up_at2, va_up_at2, va_up_at2, va_up_at2]) (fun b hb => add_ne hb)
  rw [e] at hP hD
  exact ⟨hP, hD, hS, B.2.2.2⟩
theorem g_new (M : MC p m c cc nL s args own) (B : PB D cy A s S H locs) {ci N index : Nat} {C : String} {T : u_T} {ty0 : Nat → FieldType} (hc : vwCl[ci]? = some (C, T, N)) (hin : ∀ w ∈ u_ws C T N, w ∈ Gw) (hty : ∀ k, k < N → parseFieldDescriptor (T k).2.2.1 = some (ty0 k)) (h10 : ci < 10) (hfs : ∀ j, j < N → defaultValue (ty0 j) = vp_V ((fk ci).map (fun b => if b then Value.null else .int 0)) j) (hcl : Cond.classLink own index C ∈ Gw) (hinst : Cond.instantiable C N ∈ Gw) (hini : Cond.initialized C ∈ Gw) (hcells : cells + 1 ≤ R.cells) (hslots : slots + N ≤ R.slots) (hdg : decode cc pc = .ok (.new index, 3)) {K : Option Nat → Pool → Prop} (h : xnw S ci K) (kk : ∀ (v : Option Nat) (S : Pool) (H1 : Heap) (locs1 : List Loc), K v S → PB D cy A s S H1 locs1 → W p l e R s m args below meth c H1 locs1 (cells + 1) (slots + N) Q (F0 m (pc + 3) ls (va_rf v :: rest))) : W p l e R s m args below meth c H locs cells slots Q (F0 m pc ls rest) := by
  refine va_new M.1 M.2.1 M.2.2.2.2 hin ty0 hty M.2.2.2.1 (M.2.2.2.2 _ hcl) (M.2.2.2.2 _ hinst) (M.2.2.2.2 _ hini) B.2.2.2.2.1 B.1 B.2.1 B.2.2.1 B.2.2.2.1 hc hfs hcells hslots hdg (fun q H1 hP hD hS => ?_)
  obtain ⟨hn, hB⟩ := add_pb (k := ci) (n := 0) B (by unfold pC; rw [if_pos h10, pfs_new]) hP hD hS
  exact kk (some q) _ H1 _ (h q hn) hB
theorem g_newI (M : MC p m c cc nL s args own) (B : PB D cy A s S H locs) {n : Int32} {N : Nat} (hb : N ≤ 100000) (hcells : cells + 1 ≤ R.cells) (hslots : slots + N ≤ R.slots) (hdg : decode cc pc = .ok (.newarray .int, 2)) {K : Option Nat → Pool → Prop} (h : xna S 10 n N K) (kk : ∀ (v : Option Nat) (S : Pool) (H1 : Heap) (locs1 : List Loc), K v S → PB D cy A s S H1 locs1 → W p l e R s m args below meth c H1 locs1 (cells + 1) (slots + N) Q (F0 m (pc + 2) ls (va_rf v :: rest))) : W p l e R s m args below meth c H locs cells slots Q (F0 m pc ls (.int n :: rest)) := by
  obtain ⟨h0, h1, h⟩ := h
  refine va_newa (atype := .int) (ty := .int) (a0 := (N, .inl (fun _ => 0))) M.1 M.2.1 (M.2.2.2.2 _ wac_int) rfl B.2.2.2.2.1 B.1 B.2.1 B.2.2.1 B.2.2.2.1 (fun _ => rfl) h0 h1 (by show N * 4 ≤ _; omega) hcells hslots hdg (fun q cA H1 hK hP hD hS => ?_)
  have hcA := vwC_K (k := 10) (j := 0) B.2.2.2.2.1 hK rfl
  subst hcA
  obtain ⟨hn, hB⟩ := add_pb (k := 10) (n := N) B (by rfl) hP hD hS
  exact kk (some q) _ H1 _ (h q hn) hB
theorem g_newZ (M : MC p m c cc nL s args own) (B : PB D cy A s S H locs) {n : Int32} {N : Nat} (hb : N ≤ 100000) (hcells : cells + 1 ≤ R.cells) (hslots : slots + N ≤ R.slots) (hdg : decode cc pc = .ok (.newarray .boolean, 2)) {K : Option Nat → Pool → Prop} (h : xna S 11 n N K) (kk : ∀ (v : Option Nat) (S : Pool) (H1 : Heap) (locs1 : List Loc), K v S → PB D cy A s S H1 locs1 → W p l e R s m args below meth c H1 locs1 (cells + 1) (slots + N) Q (F0 m (pc + 2) ls (va_rf v :: rest))) : W p l e R s m args below meth c H locs cells slots Q (F0 m pc ls (.int n :: rest)) := by
  obtain ⟨h0, h1, h⟩ := h
  refine va_newa (atype := .boolean) (ty := .boolean) (a0 := (N, .inl (fun _ => 0))) M.1 M.2.1 (M.2.2.2.2 _ wac_boolean) rfl B.2.2.2.2.1 B.1 B.2.1 B.2.2.1 B.2.2.2.1 (fun _ => rfl) h0 h1 (by show N * 1 ≤ _; omega) hcells hslots hdg (fun q cA H1 hK hP hD hS => ?_)
  have hcA := vwC_K (k := 11) (j := 1) B.2.2.2.2.1 hK rfl
  subst hcA
  obtain ⟨hn, hB⟩ := add_pb (k := 11) (n := N) B (by rfl) hP hD hS
  exact kk (some q) _ H1 _ (h q hn) hB
theorem g_newJ (M : MC p m c cc nL s args own) (B : PB D cy A s S H locs) {n : Int32} {N : Nat} (hb : N ≤ 1000) (hcells : cells + 1 ≤ R.cells) (hslots : slots + N ≤ R.slots) (hdg : decode cc pc = .ok (.newarray .long, 2)) {K : Option Nat → Pool → Prop} (h : xna S 16 n N K) (kk : ∀ (v : Option Nat) (S : Pool) (H1 : Heap) (locs1 : List Loc), K v S → PB D cy A s S H1 locs1 → W p l e R s m args below meth c H1 locs1 (cells + 1) (slots + N) Q (F0 m (pc + 2) ls (va_rf v :: rest))) : W p l e R s m args below meth c H locs cells slots Q (F0 m pc ls (.int n :: rest)) := by
  obtain ⟨h0, h1, h⟩ := h
  refine va_newa (atype := .long) (ty := .long) (a0 := (N, .inr (.inl (fun _ => 0)))) M.1 M.2.1 (M.2.2.2.2 _ wac_long) rfl B.2.2.2.2.1 B.1 B.2.1 B.2.2.1 B.2.2.2.1 (fun _ => rfl) h0 h1 (by show N * 8 ≤ _; omega) hcells hslots hdg (fun q cA H1 hK hP hD hS => ?_)
  have hcA := vwC_K (k := 16) (j := 6) B.2.2.2.2.1 hK rfl
  subst hcA
  obtain ⟨hn, hB⟩ := add_pb (k := 16) (n := N) B (by rfl) hP hD hS
  exact kk (some q) _ H1 _ (h q hn) hB
theorem g_newA (M : MC p m c cc nL s args own) (B : PB D cy A s S H locs) {kd j index : Nat} {C : String} {n : Int32} {N : Nat} (h12 : 12 ≤ kd ∧ kd ≠ 16) (hj : (tysP cy)[j]? = some (cy kd, .object C)) (hcl : Cond.classLink own index C ∈ Gw) (hov : va_AO C s) (hb : N ≤ 100000) (hcells : cells + 1 ≤ R.cells) (hslots : slots + N ≤ R.slots) (hdg : decode cc pc = .ok (.anewarray index, 3)) {K : Option Nat → Pool → Prop} (h : xna S kd n N K) (kk : ∀ (v : Option Nat) (S : Pool) (H1 : Heap) (locs1 : List Loc), K v S → PB D cy A s S H1 locs1 → W p l e R s m args below meth c H1 locs1 (cells + 1) (slots + N) Q (F0 m (pc + 3) ls (va_rf v :: rest))) : W p l e R s m args below meth c H locs cells slots Q (F0 m pc ls (.int n :: rest)) := by
  obtain ⟨h0, h1, h⟩ := h
  refine va_newq M.1 M.2.1 M.2.2.2.1 (M.2.2.2.2 _ hcl) hov B.2.2.2.2.1 B.1 B.2.1 B.2.2.1 B.2.2.2.1 h0 h1 (by omega) hcells hslots hdg (fun q cA H1 hK hP hD hS => ?_)
  have hcA := vwC_K (k := kd) (j := j) B.2.2.2.2.1 hK hj
  subst hcA
  obtain ⟨hn, hB⟩ := add_pb (k := kd) (n := N) B (by unfold pC; rw [if_neg (by omega), if_neg (by omega), if_neg h12.2]) hP hD hS
  exact kk (some q) _ H1 _ (h q hn) hB
theorem mul_w {q N M9 : Nat} {r : Nat → Nat} (hq : q ∉ S.L) (hr : ∀ i, i < N → r i ∉ S.L ∧ r i ≠ q) : (([] ++ [(q, .inl (cy 15, N, .inr (.inr (.inr (.inr (fun i => if i < N then some (r i) else none))))))]) ++ va_pl (S.L ++ (List.range N).map r) (vr_up (pE cy S) ((List.range N).map r) (.inl (cy 10, M9, .inl (fun _ => 0)))) : va_W) = pW cy (S.mul q N M9 r) := by
  have hqr : q ∉ (List.range N).map r := fun h => by
    obtain ⟨i, hi, e⟩ := List.mem_map.mp h
    exact (hr i (List.mem_range.mp hi)).2 e
  show (q, _) :: va_pl _ _ = va_pl (q :: (S.L ++ (List.range N).map r)) (pE cy (S.mul q N M9 r))
  unfold va_pl
  rw [List.map_cons]
  have e1 : pE cy (S.mul q N M9 r) q = .inl (cy 15, N, .inr (.inr (.inr (.inr (fun i => if i < N then some (r i) else none))))) := by
    show pC cy (if q ∈ (List.range N).map r then 10 else va_up S.K q 15 q) (if q ∈ (List.range N).map r then M9 else va_up S.len q N q) (va_up S.R q (fun i => if i < N then some (r i) else none) q) (if q ∈ (List.range N).map r then (fun _ => 0) else S.I q) (S.J q) = _
    rw [if_neg hqr, if_neg hqr, if_neg hqr, va_up_at2, va_up_at2, va_up_at2]
    rfl
  rw [e1]
  congr 1
  apply List.map_congr_left
  intro b hb
  by_cases hbr : b ∈ (List.range N).map r
  · rw [vr_up_in hbr]
    have e2 : pE cy (S.mul q N M9 r) b = .inl (cy 10, M9, .inl (fun _ => 0)) := by
      show pC cy (if b ∈ (List.range N).map r then 10 else va_up S.K q 15 b) (if b ∈ (List.range N).map r then M9 else va_up S.len q N b) (va_up S.R q (fun i => if i < N then some (r i) else none) b) (if b ∈ (List.range N).map r then (fun _ => 0) else S.I b) (S.J b) = _
      rw [if_pos hbr, if_pos hbr, if_pos hbr]
      rfl
    rw [e2]
  · rw [vr_up_ne hbr]
    have hbL : b ∈ S.L := (List.mem_append.mp hb).elim id (fun h => absurd h hbr)
    have hbq : b ≠ q := fun e => hq (e ▸ hbL)
    have e3 : pE cy (S.mul q N M9 r) b = pE cy S b := by
      show pC cy (if b ∈ (List.range N).map r then 10 else va_up S.K q 15 b) (if b ∈ (List.range N).map r then M9 else va_up S.len q N b) (va_up S.R q (fun i => if i < N then some (r i) else none) b) (if b ∈ (List.range N).map r then (fun _ => 0) else S.I b) (S.J b) = _
      rw [if_neg hbr, if_neg hbr, if_neg hbr, va_up_ne2 hbq, va_up_ne2 hbq, va_up_ne2 hbq]
      rfl
    rw [e3]
theorem g_newM (M : MC p m c cc nL s args own) (B : PB D cy A s S H locs) {index N K9 : Nat} {n k : Int32} (hcl : Cond.classLink own index "[[I" ∈ Gw) (hN : N ≤ 1000) (hK9 : K9 ≤ 1000) (hcells : cells + (1 + N) ≤ R.cells) (hslots : slots + (N + N * K9) ≤ R.slots) (hdg : decode cc pc = .ok (.multianewarray index 2, 4)) {K : Option Nat → Pool → Prop} (h : xmn S n k N K9 K) (kk : ∀ (v : Option Nat) (S : Pool) (H1 : Heap) (locs1 : List Loc), K v S → PB D cy A s S H1 locs1 → W p l e R s m args below meth c H1 locs1 (cells + 1 + N) (slots + N + N * K9) Q (F0 m (pc + 4) ls (va_rf v :: rest))) : W p l e R s m args below meth c H locs cells slots Q (F0 m pc ls (.int k :: .int n :: rest)) := by
  obtain ⟨h0, h1, h2, h3, h⟩ := h
  have hcy : s.vm.findClass (FieldType.array .int).toString = some (cy 10) := (B.2.2.2.2.1.2 0 _ rfl).2
  have es : "[" ++ (FieldType.array .int).toString = "[[I" := by decide
  refine va_mna (X := []) (L := S.L) (f := pE cy S) (ty := .int) (cy := cy 10) (z := (K9, .inl (fun _ => 0))) M.1 M.2.1 M.2.2.2.1 (by rw [es]; exact M.2.2.2.2 _ hcl) B.2.2.2.2.2.2.2.2.2.2.2.2.2.2.2 (M.2.2.2.2 _ wac_int) hcy B.2.2.2.2.1 B.1 B.2.1 B.2.2.1 B.2.2.2.1 h0 h1 h2 h3 (by omega) (by show K9 * 4 ≤ _; omega) (by omega) rfl rfl hcells hslots (fun c9 => by show ({ cls := c9, slots := Array.replicate K9 (.int 0), vm := .none } : Cell) = _; rw [arrV_new]; rfl) hdg (fun q r cA H1 hinj hnL hK hP hD hS => ?_)
  have hcA := vwC_K (k := 15) (j := 5) B.2.2.2.2.1 hK rfl
  subst hcA
  have hqn : q ∉ S.L ++ (List.range N).map r := fun hm => by
    obtain ⟨k9, hk9⟩ := va_pl_get (X := []) (f := vr_up (pE cy S) ((List.range N).map r) (.inl (cy 10, K9, .inl (fun _ => 0)))) hm
    have := hD.1 0 (k9 + 1) _ _ rfl hk9 rfl
    omega
  have hq : q ∉ S.L := fun hm => hqn (List.mem_append_left _ hm)
  have hr : ∀ i, i < N → r i ∉ S.L ∧ r i ≠ q := fun i hi => ⟨hnL i hi, fun e => hqn (List.mem_append_right _ (List.mem_map.mpr ⟨i, List.mem_range.mpr hi, e⟩))⟩
  rw [mul_w hq hr] at hP hD
  exact kk (some q) _ H1 _ (h q r hq hinj hr) ⟨hP, hD, hS, B.2.2.2⟩
theorem g_objInit (M : MC p m c cc nL s args own) {idx : Nat} {r : Option Nat} {a : Nat} (hr : r = some a) (hlink : Cond.methodLink own idx objectInit ∈ Gw) (hl : ls.size = nL) (hdg : decode cc pc = .ok (.invokespecial idx, 3)) (hrest : rest = []) (hf : 1 ≤ R.frames) (hlo : 12 ≤ R.locals) (kk : W p l e R s m args below meth c H locs cells slots Q (F0 m (pc + 3) ls rest)) : W p l e R s m args below meth c H locs cells slots Q (F0 m pc ls (va_rf r :: rest)) := by
  subst hr
  subst hrest
  exact W.objInit M.1 M.2.1 M.2.2.2.1 (M.2.2.2.2 _ hlink) (M.2.2.2.2 _ wioi) (M.2.2.2.2 _ wcdoi) rfl (hl.trans M.2.2.1.symm) rfl hdg hf (by show 2 * 0 + 0 + 12 ≤ _; omega) kk

end GR
