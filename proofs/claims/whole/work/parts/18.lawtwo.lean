/-- two pools apart -/
def djp (S T : Pool) : Prop := ∀ q, q ∈ S.L → q ∉ T.L
theorem djp.sym {S T : Pool} (h : djp S T) : djp T S := fun q h1 h2 => h q h2 h1
def E0 : Pool := ([], fun _ => 0, fun _ => 0, fun _ _ => none, fun _ _ => 0, fun _ _ => 0)
def xsr (L : Nat) (xs : Nat → Int32) (i : Int32) (K : Int32 → Prop) : Prop := vp_in i L ∧ K (xs i.toNatClampNeg)
section GW
variable {p : Program} {l : Launch} {e : Env} {R : Room} {s : State} {m : MethodId} {args : Array Value} {below : List Frame} {meth : Method} {c : Code} {H : Heap} {locs : List Loc} {cells slots : Nat} {Q : State → Prop}
variable {cc : ByteArray} {pc : Nat} {ls : Array Slot} {rest : List Value} {D : va_G} {cy : Nat → ClassId} {A : Nat → Prop} {S T : Pool} {own : String} {nL : Nat} {adK adV : Nat → Nat}

theorem PB.lt (B : PB D cy A s S H locs) {q : Nat} (h : q ∈ S.L) : q < H.size := by
  obtain ⟨k, hk⟩ := pW_get (cy := cy) h
  exact (B.1 k _ hk).lt
theorem PB.other (B : PB D cy A s S H locs) (C : PB D cy A s T H locs) (hd : djp S T) {H1 : Heap} {locs1 : List Loc} (hk : ∀ q : Nat, q < H.size → ¬ pA S.L H.size q → H1[q]? = H[q]?) (hS : va_S A s.heap H1 locs1) : PB D cy A s T H1 locs1 :=
  ⟨C.1.kept (fun k q hq => hk q.1 (C.1 k q hq).lt (fun h => h.elim (fun h1 => hd _ h1 (pW_A hq)) (fun h1 => absurd (C.1 k q hq).lt (Nat.not_lt.mpr h1)))), C.2.1, hS, C.2.2.2⟩
theorem djp_next {S' : Pool} (C : PB D cy A s T H locs) (hd : djp S T) (h : va_D (pA S.L H.size) (pW cy S')) : djp S' T := fun q h1 h2 => by
  obtain ⟨k, hk⟩ := pW_get (cy := cy) h1
  rcases h.2 k _ hk with h3 | h3
  · exact hd q h3 h2
  · exact absurd (C.lt h2) (Nat.not_lt.mpr h3)
variable {mc ms k1 k2 : Nat} {av : Array Value} {st : List Value}
theorem w_calli (B : PB D cy A s S H locs) (C : PB D cy A s T H locs) (hd : djp S T) {post : Int32 → Pool → Prop} (hr : va_Run p l e R s m args below meth c H locs cells slots mc ms (F0 m pc ls st) rest (va_Qi post (PQ D cy (pA S.L H.size)) (pA S.L H.size) av) (pA S.L H.size)) (h1 : cells + mc ≤ k1) (h2 : slots + ms ≤ k2) (kk : ∀ (v : Int32) (S : Pool) (H1 : Heap) (locs1 : List Loc), post v S → PB D cy A s S H1 locs1 → PB D cy A s T H1 locs1 → djp S T → W p l e R s m args below meth c H1 locs1 k1 k2 Q (F0 m (pc + 3) ls (.int v :: rest))) : W p l e R s m args below meth c H locs cells slots Q (F0 m pc ls st) :=
  va_calli hr B.2.2.1 (fun _ _ h => B.mem h) (fun _ h => B.mem h) (fun r u t H1 locs1 ht hvm hp hB hz hk hS => W.widen h1 h2 (kk r u H1 locs1 hp ⟨by rw [← ht]; exact hB.1, hB.2.weaken (fun _ _ _ h => B.mem h), hS, B.2.2.2⟩ (B.other C hd hk hS) (djp_next C hd hB.2)))
theorem w_callv (B : PB D cy A s S H locs) (C : PB D cy A s T H locs) (hd : djp S T) {post : Pool → Prop} (hr : va_Run p l e R s m args below meth c H locs cells slots mc ms (F0 m pc ls st) rest (va_Qv post (PQ D cy (pA S.L H.size)) (pA S.L H.size) av) (pA S.L H.size)) (h1 : cells + mc ≤ k1) (h2 : slots + ms ≤ k2) (kk : ∀ (S : Pool) (H1 : Heap) (locs1 : List Loc), post S → PB D cy A s S H1 locs1 → PB D cy A s T H1 locs1 → djp S T → W p l e R s m args below meth c H1 locs1 k1 k2 Q (F0 m (pc + 3) ls rest)) : W p l e R s m args below meth c H locs cells slots Q (F0 m pc ls st) :=
  va_callv hr B.2.2.1 (fun _ _ h => B.mem h) (fun _ h => B.mem h) (fun u t H1 locs1 ht hvm hp hB hz hk hS => W.widen h1 h2 (kk u H1 locs1 hp ⟨by rw [← ht]; exact hB.1, hB.2.weaken (fun _ _ _ h => B.mem h), hS, B.2.2.2⟩ (B.other C hd hk hS) (djp_next C hd hB.2)))
theorem w_calll (B : PB D cy A s S H locs) (C : PB D cy A s T H locs) (hd : djp S T) {post : Int32 → Pool → Prop} (hr : vx_Run p l e R s m args below meth c H locs cells slots mc ms (F0 m pc ls st) rest (va_Qi post (PQ D cy (pA S.L H.size)) (pA S.L H.size) av) (XT D cy (pA S.L H.size) (fun _ _ => False)) (pA S.L H.size)) (h1 : cells + mc ≤ k1) (h2 : slots + ms ≤ k2) (kk : ∀ (v : Int32) (S : Pool) (H1 : Heap) (locs1 : List Loc), post v S → PB D cy A s S H1 locs1 → PB D cy A s T H1 locs1 → djp S T → W p l e R s m args below meth c H1 locs1 k1 k2 Q (F0 m (pc + 3) ls (.int v :: rest))) : W p l e R s m args below meth c H locs cells slots Q (F0 m pc ls st) :=
  vx_calli hr B.2.2.1 (fun _ _ h => B.mem h) (fun _ h => B.mem h) (fun _ _ h => B.mem h) (fun E ce q9 u t H1 locs1 ht hvm _ hB hz hk hS hce hv hcl => hB.1.elim)
    (fun r u t H1 locs1 ht hvm hp hB hz hk hS => W.widen h1 h2 (kk r u H1 locs1 hp ⟨by rw [← ht]; exact hB.1, hB.2.weaken (fun _ _ _ h => B.mem h), hS, B.2.2.2⟩ (B.other C hd hk hS) (djp_next C hd hB.2)))
theorem PB.pl (B : PB D cy A s S H locs) (X : EX adK adV A s) (N : NC s) {U : State} (hU : U.heap = H) (hW : s.WarmedH U.vm) : PL adK adV D cy S H.size U := ⟨B.px X hU hW, N.moved hW.alike⟩
theorem g_runSL (M : MC p m c cc nL s args own) (B : PB D cy A s S H locs) (X : EX adK adV A s) (N : NC s) {y : MethodName} {index maxL n : Nat} {bytes : ByteArray} {ret : Option FieldType} {hh : List (Nat × Nat × Nat × Nat)} {rm : Room} {As st : List Value} {Qc : Array Value → State → Outcome → State → Prop} {XC : String → State → State → Prop} {free : Addr → Prop} {cn : Nat}
    (hM : vx_Met l y (.codeWith y bytes maxL ret hh :: Gw) rm (va_Pc As (PL adK adV D cy S H.size)) Qc XC rm.cells rm.slots free) (hwm : Cond.methodLink own index y ∈ Gw) (hws : Cond.static y ∈ Gw) (hwn : Cond.initialized y.cls ∈ Gw) (hwc : Cond.codeWith y bytes maxL ret hh ∈ Gw)
    (hdd : y.cls ≠ "java/lang/invoke/MethodHandle" ∧ y.cls ≠ "java/lang/invoke/VarHandle" ∧ (parseMethodDescriptor y.desc).map (fun d => d.parameters.length) = some n) (hR : rm.frames + 1 ≤ R.frames ∧ 8 + (maxL + 11) + rm.locals ≤ R.locals) (hf : cells + rm.cells ≤ R.cells ∧ slots + rm.slots ≤ R.slots)
    (hn : As.length = n) (hl : ls.size = nL) (hst : st = As.reverse ++ rest) (hct : ct rest cn) (hcn : cn ≤ 8) (hdg : decode cc pc = .ok (.invokestatic index, 3)) :
    vx_Run p l e R s m args below meth c H locs cells slots rm.cells rm.slots (F0 m pc ls st) rest (Qc As.toArray) XC free := by
  refine vx_runSX M hM (vx_cwSW n M.2.2.2.2 (gG fun w hw => ?_) rfl rfl rfl hdd hR) ⟨PL_blind, fun U hU hW => ⟨rfl, B.pl X N hU hW⟩⟩ rfl hn hl hst (lv_room (by have := hct; unfold ct at this; omega)) hdg hf
  unfold va_wsS at hw
  rcases List.mem_append.mp hw with h | h
  · simp only [List.mem_cons, List.not_mem_nil, or_false] at h
    rcases h with rfl | rfl | rfl
    · exact hwm
    · exact hws
    · exact hwn
  · exact gGc hwc w h
theorem w_add {q k n : Nat} {x : va_E} {H1 : Heap} (B : PB D cy A s S H locs) (C : PB D cy A s T H locs) (hd : djp S T) (hx : x = pC cy k n (fun _ => none) (fun _ => 0) (fun _ => 0)) (hP : va_P D vwCl ((pW cy T ++ pW cy S) ++ [(q, x)]) H1) (hD : va_D A ((pW cy T ++ pW cy S) ++ [(q, x)])) (hS : va_S A s.heap H1 locs) : q ∉ S.L ∧ PB D cy A s (S.add q k n) H1 locs ∧ PB D cy A s T H1 locs ∧ djp (S.add q k n) T := by
  have hnS : q ∉ S.L := va_pl_fresh2 (X := pW cy T) hD
  have hnT : q ∉ T.L := fun hm => by
    obtain ⟨k9, hk9⟩ := pW_get (cy := cy) hm
    have hl := (List.getElem?_eq_some_iff.mp hk9).1
    have h1 : ((pW cy T ++ pW cy S) ++ [(q, x)])[k9]? = some (q, pE cy T q) := by rw [List.append_assoc, List.getElem?_append_left hl]; exact hk9
    have h2 : ((pW cy T ++ pW cy S) ++ [(q, x)])[(pW cy T ++ pW cy S).length]? = some (q, x) := by rw [List.getElem?_append_right (Nat.le_refl _), Nat.sub_self]; rfl
    have := hD.1 _ _ _ _ h1 h2 rfl
    rw [List.length_append] at this
    omega
  have e := pW_add (S' := S.add q k n) (e := x) hnS rfl (by
    rw [hx]
    show _ = pC cy (va_up S.K q k q) (va_up S.len q n q) (va_up S.R q (fun _ => none) q) (va_up S.I q (fun _ => 0) q) (va_up S.J q (fun _ => 0) q)
    rw [va_up_at2, va_up_at2, va_up_at2, va_up_at2, va_up_at2]) (fun b hb => add_ne hb)
  rw [List.append_assoc, e] at hP hD
  have sh : ∀ (k9 : Nat) (z : Nat × va_E), (pW cy (S.add q k n))[k9]? = some z → (pW cy T ++ pW cy (S.add q k n))[(pW cy T).length + k9]? = some z := fun k9 z hz => by rw [List.getElem?_append_right (by omega), show (pW cy T).length + k9 - (pW cy T).length = k9 by omega]; exact hz
  refine ⟨hnS, ⟨fun k9 z hz => hP _ z (sh k9 z hz), ⟨fun i j a b ha hb hab => by have := hD.1 _ _ _ _ (sh i a ha) (sh j b hb) hab; omega, fun k9 z hz => hD.2 _ z (sh k9 z hz)⟩, hS, B.2.2.2⟩, ⟨fun k9 z hz => hP k9 z (by rw [List.getElem?_append_left (List.getElem?_eq_some_iff.mp hz).1]; exact hz), C.2.1, hS, C.2.2.2⟩, fun z h1 h2 => ?_⟩
  rcases List.mem_append.mp h1 with h3 | h3
  · exact hd z h3 h2
  · rw [List.mem_singleton.mp h3] at h2
    exact hnT h2
theorem w_two (B : PB D cy A s S H locs) (C : PB D cy A s T H locs) (hd : djp S T) : va_P D vwCl (pW cy T ++ pW cy S) H ∧ va_D A (pW cy T ++ pW cy S) := ⟨C.1.app B.1, va_D.app C.2.1 B.2.1 (fun i j x y hx hy hxy => hd y.1 (pW_A hy) (by rw [← hxy]; exact pW_A hx))⟩
theorem w_new (M : MC p m c cc nL s args own) (B : PB D cy A s S H locs) (C : PB D cy A s T H locs) (hd : djp S T) {ci N index : Nat} {Cn : String} {Tt : u_T} {ty0 : Nat → FieldType} (hc : vwCl[ci]? = some (Cn, Tt, N)) (hin : ∀ w ∈ u_ws Cn Tt N, w ∈ Gw) (hty : ∀ k, k < N → parseFieldDescriptor (Tt k).2.2.1 = some (ty0 k)) (h10 : ci < 10) (hfs : ∀ j, j < N → defaultValue (ty0 j) = vp_V ((fk ci).map (fun b => if b then Value.null else .int 0)) j) (hcl : Cond.classLink own index Cn ∈ Gw) (hinst : Cond.instantiable Cn N ∈ Gw) (hini : Cond.initialized Cn ∈ Gw) (hcells : cells + 1 ≤ R.cells) (hslots : slots + N ≤ R.slots) (hdg : decode cc pc = .ok (.new index, 3)) {K : Option Nat → Pool → Prop} (h : xnw S ci K) (kk : ∀ (v : Option Nat) (S : Pool) (H1 : Heap), K v S → PB D cy A s S H1 locs → PB D cy A s T H1 locs → djp S T → W p l e R s m args below meth c H1 locs (cells + 1) (slots + N) Q (F0 m (pc + 3) ls (va_rf v :: rest))) : W p l e R s m args below meth c H locs cells slots Q (F0 m pc ls rest) := by
  obtain ⟨hP2, hD2⟩ := w_two B C hd
  refine va_new M.1 M.2.1 M.2.2.2.2 hin ty0 hty M.2.2.2.1 (M.2.2.2.2 _ hcl) (M.2.2.2.2 _ hinst) (M.2.2.2.2 _ hini) B.2.2.2.2.1 hP2 hD2 B.2.2.1 B.2.2.2.1 hc hfs hcells hslots hdg (fun q H1 hP hD hS => ?_)
  obtain ⟨hn, hB, hC, hd⟩ := w_add (k := ci) (n := 0) B C hd (by unfold pC; rw [if_pos h10, pfs_new]) hP hD hS
  exact kk (some q) _ H1 (h q hn) hB hC hd
theorem w_newJ (M : MC p m c cc nL s args own) (B : PB D cy A s S H locs) (C : PB D cy A s T H locs) (hd : djp S T) {n : Int32} {N : Nat} (hb : N ≤ 1000) (hcells : cells + 1 ≤ R.cells) (hslots : slots + N ≤ R.slots) (hdg : decode cc pc = .ok (.newarray .long, 2)) {K : Option Nat → Pool → Prop} (h : xna S 16 n N K) (kk : ∀ (v : Option Nat) (S : Pool) (H1 : Heap), K v S → PB D cy A s S H1 locs → PB D cy A s T H1 locs → djp S T → W p l e R s m args below meth c H1 locs (cells + 1) (slots + N) Q (F0 m (pc + 2) ls (va_rf v :: rest))) : W p l e R s m args below meth c H locs cells slots Q (F0 m pc ls (.int n :: rest)) := by
  obtain ⟨h0, h1, h⟩ := h
  obtain ⟨hP2, hD2⟩ := w_two B C hd
  refine va_newa (atype := .long) (ty := .long) (a0 := (N, .inr (.inl (fun _ => 0)))) M.1 M.2.1 (M.2.2.2.2 _ wac_long) rfl B.2.2.2.2.1 hP2 hD2 B.2.2.1 B.2.2.2.1 (fun _ => rfl) h0 h1 (by show N * 8 ≤ _; omega) hcells hslots hdg (fun q cA H1 hK hP hD hS => ?_)
  have hcA := vwC_K (k := 16) (j := 6) B.2.2.2.2.1 hK rfl
  subst hcA
  obtain ⟨hn, hB, hC, hd⟩ := w_add (k := 16) (n := N) B C hd (by rfl) hP hD hS
  exact kk (some q) _ H1 (h q hn) hB hC hd
end GW
