/-- the operand stack below a call is small -/
def ct (l : List Value) (n : Nat) : Prop := (l.map fun v => v.category).sum = n
theorem ct_0 : ct [] 0 := rfl
theorem ct_i {l : List Value} {n : Nat} {x : Int32} (h : ct l n) : ct (.int x :: l) (n + 1) := by unfold ct at *; rw [List.map_cons, List.sum_cons, h]; show 1 + n = n + 1; omega
theorem ct_r {l : List Value} {n : Nat} {x : Option Nat} (h : ct l n) : ct (va_rf x :: l) (n + 1) := by unfold ct at *; rw [List.map_cons, List.sum_cons, h, rf_cat]; omega
theorem ct_l {l : List Value} {n : Nat} {x : Int64} (h : ct l n) : ct (.long x :: l) (n + 2) := by unfold ct at *; rw [List.map_cons, List.sum_cons, h]; show 2 + n = n + 2; omega
theorem sl_0 : (lg_sl []).length = 0 := rfl
theorem sl_i {x : Int32} {vs : List Value} : (lg_sl (.int x :: vs)).length = (lg_sl vs).length + 1 := by simp [lg_sl, Value.category]
theorem sl_r {x : Option Nat} {vs : List Value} : (lg_sl (va_rf x :: vs)).length = (lg_sl vs).length + 1 := by simp [lg_sl, rf_cat]
theorem sl_l {x : Int64} {vs : List Value} : (lg_sl (.long x :: vs)).length = (lg_sl vs).length + 2 := by simp [lg_sl, Value.category]
theorem la_0 {i : Nat} : lv_args i [] = [] := rfl
theorem la_i {i : Nat} {x : Int32} {vs : List Value} : lv_args i (.int x :: vs) = (i, .int x) :: lv_args (i + 1) vs := by simp [lv_args, Value.category]
theorem la_r {i : Nat} {x : Option Nat} {vs : List Value} : lv_args i (va_rf x :: vs) = (i, va_rf x) :: lv_args (i + 1) vs := by simp [lv_args, rf_cat]
theorem la_l {i : Nat} {x : Int64} {vs : List Value} : lv_args i (.long x :: vs) = (i, .long x) :: lv_args (i + 2) vs := by simp [lv_args, Value.category]
/-- what a store into local i leaves of the list -/
abbrev fl1 (i : Nat) (lv : List (Nat × Value)) : List (Nat × Value) := lv.filter (fun q => !(q.1 == i) && !(q.1 + 1 == i && q.2.category == 2))
abbrev fl2 (i : Nat) (lv : List (Nat × Value)) : List (Nat × Value) := lv.filter (fun q => !(q.1 == i) && (!(q.1 == i + 1) && !(q.1 + 1 == i && q.2.category == 2)))
theorem fl_0 {i : Nat} : fl1 i [] = [] := rfl
theorem fl_d {i k : Nat} {v : Value} {lv lv' : List (Nat × Value)} (h1 : (k == i) = true) (h : fl1 i lv = lv') : fl1 i ((k, v) :: lv) = lv' := by rw [← h]; simp [fl1, List.filter_cons, h1]
theorem fl_k {i k : Nat} {v : Value} {lv lv' : List (Nat × Value)} (h1 : (k == i) = false) (h2 : (k + 1 == i) = false) (h : fl1 i lv = lv') : fl1 i ((k, v) :: lv) = (k, v) :: lv' := by rw [← h]; simp [fl1, List.filter_cons, h1, h2]
theorem fl_i {i k : Nat} {v : Int32} {lv lv' : List (Nat × Value)} (h1 : (k == i) = false) (h : fl1 i lv = lv') : fl1 i ((k, .int v) :: lv) = (k, .int v) :: lv' := by rw [← h]; simp [fl1, List.filter_cons, h1, Value.category]
theorem fl_r {i k : Nat} {v : Option Nat} {lv lv' : List (Nat × Value)} (h1 : (k == i) = false) (h : fl1 i lv = lv') : fl1 i ((k, va_rf v) :: lv) = (k, va_rf v) :: lv' := by rw [← h]; simp [fl1, List.filter_cons, h1, rf_cat]
theorem fl_e {i : Nat} {x : Value} {lv lv' : List (Nat × Value)} (h : fl1 i lv = lv') : (i, x) :: lv.filter (fun q => !(q.1 == i) && !(q.1 + 1 == i && q.2.category == 2)) = (i, x) :: lv' := congrArg (List.cons (i, x)) h
theorem fm_0 {i : Nat} : fl2 i [] = [] := rfl
theorem fm_d {i k : Nat} {v : Value} {lv lv' : List (Nat × Value)} (h1 : (k == i) = true ∨ (k == i + 1) = true) (h : fl2 i lv = lv') : fl2 i ((k, v) :: lv) = lv' := by rw [← h]; rcases h1 with h1 | h1 <;> simp [fl2, List.filter_cons, h1]
theorem fm_k {i k : Nat} {v : Value} {lv lv' : List (Nat × Value)} (h1 : (k == i) = false) (h3 : (k == i + 1) = false) (h2 : (k + 1 == i) = false) (h : fl2 i lv = lv') : fl2 i ((k, v) :: lv) = (k, v) :: lv' := by rw [← h]; simp [fl2, List.filter_cons, h1, h2, h3]
theorem fm_i {i k : Nat} {v : Int32} {lv lv' : List (Nat × Value)} (h1 : (k == i) = false) (h3 : (k == i + 1) = false) (h : fl2 i lv = lv') : fl2 i ((k, .int v) :: lv) = (k, .int v) :: lv' := by rw [← h]; simp [fl2, List.filter_cons, h1, h3, Value.category]
theorem fm_r {i k : Nat} {v : Option Nat} {lv lv' : List (Nat × Value)} (h1 : (k == i) = false) (h3 : (k == i + 1) = false) (h : fl2 i lv = lv') : fl2 i ((k, va_rf v) :: lv) = (k, va_rf v) :: lv' := by rw [← h]; simp [fl2, List.filter_cons, h1, h3, rf_cat]
theorem fm_e {i : Nat} {x : Value} {lv lv' : List (Nat × Value)} (h : fl2 i lv = lv') : (i, x) :: lv.filter (fun q => !(q.1 == i) && (!(q.1 == i + 1) && !(q.1 + 1 == i && q.2.category == 2))) = (i, x) :: lv' := congrArg (List.cons (i, x)) h
/-- contracts over the pool: void, an int, a reference or null -/
def MetV (l : Launch) (y : MethodName) (bytes : ByteArray) (maxL : Nat) (rm : Room) (av : List Value) (D : va_G) (cy : Nat → ClassId) (S : Pool) (post : Pool → Prop) : Prop := ∀ sz, Met l y (.code y bytes maxL none :: Gw) rm (va_Pc av (PP D cy S sz)) (va_Qv post (PQ D cy (pA S.L sz)) (pA S.L sz)) rm.cells rm.slots (pA S.L sz)
def MetI (l : Launch) (y : MethodName) (bytes : ByteArray) (maxL : Nat) (ret : Option FieldType) (rm : Room) (av : List Value) (D : va_G) (cy : Nat → ClassId) (S : Pool) (post : Int32 → Pool → Prop) : Prop := ∀ sz, Met l y (.code y bytes maxL ret :: Gw) rm (va_Pc av (PP D cy S sz)) (va_Qi post (PQ D cy (pA S.L sz)) (pA S.L sz)) rm.cells rm.slots (pA S.L sz)
def MetR (l : Launch) (y : MethodName) (bytes : ByteArray) (maxL : Nat) (ret : Option FieldType) (rm : Room) (av : List Value) (D : va_G) (cy : Nat → ClassId) (S : Pool) (post : Option Nat → Pool → Prop) : Prop := ∀ sz, Met l y (.code y bytes maxL ret :: Gw) rm (va_Pc av (PP D cy S sz)) (va_Qq post (PQ D cy (pA S.L sz)) (pA S.L sz)) rm.cells rm.slots (pA S.L sz)
theorem gG {ws : List Cond} (h : ∀ w ∈ ws, w ∈ Gw) : GoodIn Gw ws := fun w hw => ⟨h w hw, Gw_good (h w hw)⟩
theorem gGc {w : Cond} (h : w ∈ Gw) : ∀ x ∈ w :: Gw, x ∈ Gw := fun x hx => (List.mem_cons.mp hx).elim (fun e => by rw [e]; exact h) id
theorem PP_blind {D : va_G} {cy : Nat → ClassId} {S : Pool} {sz : Nat} {av : List Value} : FrameBlind (va_Pc av (PP D cy S sz)) := fun a U g mk q => by
  obtain ⟨q0, q1, qP, qK, qD, qE⟩ := q
  exact ⟨q0, q1, qP, va_K.moved (u := U) (U := U.calling g mk a) (Vm.Alike.refl U.vm) qK, qD, EV.same (s := U) (U := U.calling g mk a) rfl qE⟩

section GC
variable {p : Program} {l : Launch} {e : Env} {R : Room} {s : State} {m : MethodId} {args : Array Value} {below : List Frame} {meth : Method} {c : Code} {H : Heap} {locs : List Loc} {cells slots : Nat} {Q : State → Prop}
variable {cc : ByteArray} {pc : Nat} {ls : Array Slot} {rest : List Value} {D : va_G} {cy : Nat → ClassId} {A : Nat → Prop} {S : Pool} {own : String} {nL : Nat}

theorem PB.pp (B : PB D cy A s S H locs) {U : State} (hU : U.heap = H) (hW : s.WarmedH U.vm) : PP D cy S H.size U := ⟨by rw [hU], by rw [hU]; exact B.1, va_K.moved hW.alike B.2.2.2.2.1, B.2.1.weaken (fun _ _ _ _ => trivial), EV.warm hW B.2.2.2.2.2⟩
theorem g_runV (M : MC p m c cc nL s args own) (B : PB D cy A s S H locs) {y : MethodName} {C : String} {index maxL n a ci : Nat} {bytes : ByteArray} {ret : Option FieldType} {rm : Room} {q : vw_C} {As st : List Value} {Qc : Array Value → State → Outcome → State → Prop} {free : Addr → Prop} {cn : Nat}
    {r : Option Nat} (hr : r = some a) (hM : Met l y (.code y bytes maxL ret :: Gw) rm (va_Pc (va_rf r :: As) (PP D cy S H.size)) Qc rm.cells rm.slots free) (hwm : Cond.methodLink own index y ∈ Gw) (hwi : Cond.instanceMethod y ∈ Gw) (hws : Cond.selects C y y ∈ Gw) (hwn : Cond.initialized C ∈ Gw) (hwc : Cond.code y bytes maxL ret ∈ Gw)
    (hd : y.cls = C ∧ y.cls ≠ "java/lang/invoke/MethodHandle" ∧ y.cls ≠ "java/lang/invoke/VarHandle" ∧ (parseMethodDescriptor y.desc).map (fun d => d.parameters.length) = some n) (hR : rm.frames + 1 ≤ R.frames ∧ 8 + (maxL + 11) + rm.locals ≤ R.locals) (hf : cells + rm.cells ≤ R.cells ∧ slots + rm.slots ≤ R.slots)
    (hL : a ∈ S.L) (hK : S.K a = ci) (h10 : ci < 10) (hc : vwCl[ci]? = some q) (hq : q.1 = C) (hn : As.length = n) (hl : ls.size = nL) (hst : st = As.reverse ++ va_rf r :: rest) (hct : ct rest cn) (hcn : cn ≤ 8) (hdg : decode cc pc = .ok (.invokevirtual index, 3)) :
    va_Run p l e R s m args below meth c H locs cells slots rm.cells rm.slots (F0 m pc ls st) rest (Qc (va_rf r :: As).toArray) free := by
  subst hr
  subst hq
  obtain ⟨q0, hq0⟩ := pW_get (cy := cy) hL
  rw [pE_obj hK h10] at hq0
  refine va_runV M hM (cwV n M.2.2.2.2 (gG fun w hw => ?_) rfl rfl rfl hd hR) ⟨PP_blind, va_recv B.2.2.2.2.1 B.1 hc hq0, fun U hU hW => ⟨rfl, B.pp hU hW⟩⟩ rfl hn hl hst (lv_room (by have := hct; unfold ct at this; omega)) hdg hf
  unfold wsV at hw
  rcases List.mem_append.mp hw with h | h
  · simp only [List.mem_cons, List.not_mem_nil, or_false] at h
    rcases h with rfl | rfl | rfl | rfl
    · exact hwm
    · exact hwi
    · exact hws
    · exact hwn
  · exact gGc hwc w h
theorem g_runS (M : MC p m c cc nL s args own) (B : PB D cy A s S H locs) {y : MethodName} {index maxL n : Nat} {bytes : ByteArray} {ret : Option FieldType} {rm : Room} {As st : List Value} {Qc : Array Value → State → Outcome → State → Prop} {free : Addr → Prop} {cn : Nat}
    (hM : Met l y (.code y bytes maxL ret :: Gw) rm (va_Pc As (PP D cy S H.size)) Qc rm.cells rm.slots free) (hwm : Cond.methodLink own index y ∈ Gw) (hws : Cond.static y ∈ Gw) (hwn : Cond.initialized y.cls ∈ Gw) (hwc : Cond.code y bytes maxL ret ∈ Gw)
    (hd : y.cls ≠ "java/lang/invoke/MethodHandle" ∧ y.cls ≠ "java/lang/invoke/VarHandle" ∧ (parseMethodDescriptor y.desc).map (fun d => d.parameters.length) = some n) (hR : rm.frames + 1 ≤ R.frames ∧ 8 + (maxL + 11) + rm.locals ≤ R.locals) (hf : cells + rm.cells ≤ R.cells ∧ slots + rm.slots ≤ R.slots)
    (hn : As.length = n) (hl : ls.size = nL) (hst : st = As.reverse ++ rest) (hct : ct rest cn) (hcn : cn ≤ 8) (hdg : decode cc pc = .ok (.invokestatic index, 3)) :
    va_Run p l e R s m args below meth c H locs cells slots rm.cells rm.slots (F0 m pc ls st) rest (Qc As.toArray) free := by
  refine va_runS M hM (va_cwS n M.2.2.2.2 (gG fun w hw => ?_) rfl rfl rfl hd hR) ⟨PP_blind, fun U hU hW => ⟨rfl, B.pp hU hW⟩⟩ rfl hn hl hst (lv_room (by have := hct; unfold ct at this; omega)) hdg hf
  unfold va_wsS at hw
  rcases List.mem_append.mp hw with h | h
  · simp only [List.mem_cons, List.not_mem_nil, or_false] at h
    rcases h with rfl | rfl | rfl
    · exact hwm
    · exact hws
    · exact hwn
  · exact gGc hwc w h
theorem g_runI (M : MC p m c cc nL s args own) (B : PB D cy A s S H locs) {y : MethodName} {index maxL n a : Nat} {bytes : ByteArray} {rm : Room} {As st : List Value} {Qc : Array Value → State → Outcome → State → Prop} {free : Addr → Prop} {cn : Nat}
    {r : Option Nat} (hr : r = some a) (hM : Met l y (.code y bytes maxL none :: Gw) rm (va_Pc (va_rf r :: As) (PP D cy S H.size)) Qc rm.cells rm.slots free) (hwm : Cond.methodLink own index y ∈ Gw) (hwi : Cond.instanceMethod y ∈ Gw) (hwn : Cond.initialized y.cls ∈ Gw) (hwc : Cond.code y bytes maxL none ∈ Gw) (hy1 : y.name = "<init>")
    (hd : y.cls ≠ "java/lang/invoke/MethodHandle" ∧ y.cls ≠ "java/lang/invoke/VarHandle" ∧ (parseMethodDescriptor y.desc).map (fun d => d.parameters.length) = some n) (hR : rm.frames + 1 ≤ R.frames ∧ 8 + (maxL + 11) + rm.locals ≤ R.locals) (hf : cells + rm.cells ≤ R.cells ∧ slots + rm.slots ≤ R.slots)
    (hn : As.length = n) (hl : ls.size = nL) (hst : st = As.reverse ++ va_rf r :: rest) (hct : ct rest cn) (hcn : cn ≤ 8) (hdg : decode cc pc = .ok (.invokespecial index, 3)) :
    va_Run p l e R s m args below meth c H locs cells slots rm.cells rm.slots (F0 m pc ls st) rest (Qc (va_rf r :: As).toArray) free := by
  subst hr
  exact va_runI M hM (cwI n M.2.2.2.2 (gG (gGc hwc)) rfl rfl rfl (M.2.2.2.2 _ hwn) (M.2.2.2.2 _ hwm) (M.2.2.2.2 _ hwi) hy1 hd hR) ⟨PP_blind, fun U hU hW => ⟨rfl, B.pp hU hW⟩⟩ rfl hn hl hst (lv_room (by have := hct; unfold ct at this; omega)) hdg hf
theorem g_runIN (M : MC p m c cc nL s args own) (B : PB D cy A s S H locs) {y : MethodName} {host : String} {index maxL n a : Nat} {bytes : ByteArray} {rm : Room} {As st : List Value} {Qc : Array Value → State → Outcome → State → Prop} {free : Addr → Prop} {cn : Nat}
    {r : Option Nat} (hr : r = some a) (hM : Met l y (.code y bytes maxL none :: Gw) rm (va_Pc (va_rf r :: As) (PP D cy S H.size)) Qc rm.cells rm.slots free) (hwm : va_Nw (.methodLinkNest own index y host) s) (hwi : Cond.instanceMethod y ∈ Gw) (hwn : Cond.initialized y.cls ∈ Gw) (hwc : Cond.code y bytes maxL none ∈ Gw) (hy1 : y.name = "<init>")
    (hd : y.cls ≠ "java/lang/invoke/MethodHandle" ∧ y.cls ≠ "java/lang/invoke/VarHandle" ∧ (parseMethodDescriptor y.desc).map (fun d => d.parameters.length) = some n) (hR : rm.frames + 1 ≤ R.frames ∧ 8 + (maxL + 11) + rm.locals ≤ R.locals) (hf : cells + rm.cells ≤ R.cells ∧ slots + rm.slots ≤ R.slots)
    (hn : As.length = n) (hl : ls.size = nL) (hst : st = As.reverse ++ va_rf r :: rest) (hct : ct rest cn) (hcn : cn ≤ 8) (hdg : decode cc pc = .ok (.invokespecial index, 3)) :
    va_Run p l e R s m args below meth c H locs cells slots rm.cells rm.slots (F0 m pc ls st) rest (Qc (va_rf r :: As).toArray) free := by
  subst hr
  exact va_runIN M hM ⟨va_cnB n M.2.2.2.2 (gG (gGc hwc)) rfl rfl rfl hwm (M.2.2.2.2 _ hwn) hd hR, hy1, M.2.2.2.2 _ hwi⟩ ⟨PP_blind, fun U hU hW => ⟨rfl, B.pp hU hW⟩⟩ rfl hn hl hst (lv_room (by have := hct; unfold ct at this; omega)) hdg hf
variable {mc ms k1 k2 : Nat} {av : Array Value} {st : List Value}
theorem g_calli (B : PB D cy A s S H locs) {post : Int32 → Pool → Prop} (hr : va_Run p l e R s m args below meth c H locs cells slots mc ms (F0 m pc ls st) rest (va_Qi post (PQ D cy (pA S.L H.size)) (pA S.L H.size) av) (pA S.L H.size)) (h1 : cells + mc ≤ k1) (h2 : slots + ms ≤ k2) (kk : ∀ (v : Int32) (S : Pool) (H1 : Heap) (locs1 : List Loc), post v S → PB D cy A s S H1 locs1 → W p l e R s m args below meth c H1 locs1 k1 k2 Q (F0 m (pc + 3) ls (.int v :: rest))) : W p l e R s m args below meth c H locs cells slots Q (F0 m pc ls st) :=
  va_calli hr B.2.2.1 (fun _ _ h => B.mem h) (fun _ h => B.mem h) (fun r u t H1 locs1 ht hvm hp hB hz hk hS => W.widen h1 h2 (kk r u H1 locs1 hp ⟨by rw [← ht]; exact hB.1, hB.2.weaken (fun _ _ _ h => B.mem h), hS, B.2.2.2⟩))
theorem g_callv (B : PB D cy A s S H locs) {post : Pool → Prop} (hr : va_Run p l e R s m args below meth c H locs cells slots mc ms (F0 m pc ls st) rest (va_Qv post (PQ D cy (pA S.L H.size)) (pA S.L H.size) av) (pA S.L H.size)) (h1 : cells + mc ≤ k1) (h2 : slots + ms ≤ k2) (kk : ∀ (S : Pool) (H1 : Heap) (locs1 : List Loc), post S → PB D cy A s S H1 locs1 → W p l e R s m args below meth c H1 locs1 k1 k2 Q (F0 m (pc + 3) ls rest)) : W p l e R s m args below meth c H locs cells slots Q (F0 m pc ls st) :=
  va_callv hr B.2.2.1 (fun _ _ h => B.mem h) (fun _ h => B.mem h) (fun u t H1 locs1 ht hvm hp hB hz hk hS => W.widen h1 h2 (kk u H1 locs1 hp ⟨by rw [← ht]; exact hB.1, hB.2.weaken (fun _ _ _ h => B.mem h), hS, B.2.2.2⟩))
theorem g_callr (B : PB D cy A s S H locs) {post : Option Nat → Pool → Prop} (hr : va_Run p l e R s m args below meth c H locs cells slots mc ms (F0 m pc ls st) rest (va_Qq post (PQ D cy (pA S.L H.size)) (pA S.L H.size) av) (pA S.L H.size)) (h1 : cells + mc ≤ k1) (h2 : slots + ms ≤ k2) (kk : ∀ (v : Option Nat) (S : Pool) (H1 : Heap) (locs1 : List Loc), post v S → PB D cy A s S H1 locs1 → W p l e R s m args below meth c H1 locs1 k1 k2 Q (F0 m (pc + 3) ls (va_rf v :: rest))) : W p l e R s m args below meth c H locs cells slots Q (F0 m pc ls st) :=
  va_callq hr B.2.2.1 (fun _ _ h => B.mem h) (fun _ h => B.mem h) (fun r u t H1 locs1 ht hvm hp hB hz hk hS => W.widen h1 h2 (kk r u H1 locs1 hp ⟨by rw [← ht]; exact hB.1, hB.2.weaken (fun _ _ _ h => B.mem h), hS, B.2.2.2⟩))
theorem g_min (M : MC p m c cc nL s args own) {index cn : Nat} {x y : Int32} (hlink : Cond.methodLink own index yJ9_min_7cf53 ∈ Gw) (hl : ls.size = nL) (hf : 1 ≤ R.frames) (hlo : 21 ≤ R.locals) (hc : cells ≤ R.cells) (hs : slots ≤ R.slots) (hct : ct rest cn) (hcn : cn ≤ 8) (hdg : decode cc pc = .ok (.invokestatic index, 3)) (kk : W p l e R s m args below meth c H locs cells slots Q (F0 m (pc + 3) ls (.int (if y < x then y else x) :: rest))) : W p l e R s m args below meth c H locs cells slots Q (F0 m pc ls (.int y :: .int x :: rest)) :=
  va_mmin M.1 M.2.1 (M.2.2.1.trans hl.symm) M.2.2.2.1 (M.2.2.2.2 _ hlink) (M.2.2.2.2 _ wstJ9_min_7cf53) (M.2.2.2.2 _ wnJ9) (M.2.2.2.2 _ wcdJ9_min_7cf53) hf (by have := hct; unfold ct at this; omega) hc hs hdg kk
theorem g_max (M : MC p m c cc nL s args own) {index cn : Nat} {x y : Int32} (hlink : Cond.methodLink own index yJ9_max_7cf53 ∈ Gw) (hl : ls.size = nL) (hf : 1 ≤ R.frames) (hlo : 21 ≤ R.locals) (hc : cells ≤ R.cells) (hs : slots ≤ R.slots) (hct : ct rest cn) (hcn : cn ≤ 8) (hdg : decode cc pc = .ok (.invokestatic index, 3)) (kk : W p l e R s m args below meth c H locs cells slots Q (F0 m (pc + 3) ls (.int (if x < y then y else x) :: rest))) : W p l e R s m args below meth c H locs cells slots Q (F0 m pc ls (.int y :: .int x :: rest)) :=
  va_mmax M.1 M.2.1 (M.2.2.1.trans hl.symm) M.2.2.2.1 (M.2.2.2.2 _ hlink) (M.2.2.2.2 _ wstJ9_max_7cf53) (M.2.2.2.2 _ wnJ9) (M.2.2.2.2 _ wcdJ9_max_7cf53) hf (by have := hct; unfold ct at this; omega) hc hs hdg kk
theorem g_iret (M : MC p m c cc nL s args own) (B : PB D cy A s S H locs) (hr : meth.sig.returnType = some .int) (hlk : meth.locks = false) {post : Int32 → Pool → Prop} {v : Int32} (h : post v S) (h1 : cells ≤ k1) (h2 : slots ≤ k2) (hdg : decode cc pc = .ok (.ireturn, 1)) : W p l e R s m args below meth c H locs cells slots (MQ below (va_Qi post (PQ D cy A) A) args s k1 k2 A) (F0 m pc ls [.int v]) :=
  W.widen h1 h2 (W.iret M.1 M.2.1 hr (fun t ht hW => ⟨⟨v, S, rfl, h, by rw [ht]; exact B.1, B.2.1⟩, B.2.2.1.F ht⟩) B.2.2.1.2.2 hdg hlk)
theorem g_zret (M : MC p m c cc nL s args own) (B : PB D cy A s S H locs) (hr : meth.sig.returnType = some .boolean) (hlk : meth.locks = false) {post : Int32 → Pool → Prop} {v : Int32} (h : (v = 0 ∨ v = 1) ∧ post v S) (h1 : cells ≤ k1) (h2 : slots ≤ k2) (hdg : decode cc pc = .ok (.ireturn, 1)) : W p l e R s m args below meth c H locs cells slots (MQ below (va_Qi post (PQ D cy A) A) args s k1 k2 A) (F0 m pc ls [.int v]) :=
  W.widen h1 h2 (W.zret M.1 M.2.1 hr (z_nar h.1) (fun t ht hW => ⟨⟨v, S, rfl, h.2, by rw [ht]; exact B.1, B.2.1⟩, B.2.2.1.F ht⟩) B.2.2.1.2.2 hdg hlk)
theorem g_vret (M : MC p m c cc nL s args own) (B : PB D cy A s S H locs) (hr : meth.sig.returnType = none) (hlk : meth.locks = false) {post : Pool → Prop} (h : post S) (h1 : cells ≤ k1) (h2 : slots ≤ k2) (hdg : decode cc pc = .ok (.return_, 1)) : W p l e R s m args below meth c H locs cells slots (MQ below (va_Qv post (PQ D cy A) A) args s k1 k2 A) (F0 m pc ls []) :=
  W.widen h1 h2 (W.vret M.1 M.2.1 hr (fun t ht hW => ⟨⟨S, rfl, h, by rw [ht]; exact B.1, B.2.1⟩, B.2.2.1.F ht⟩) B.2.2.1.2.2 hdg hlk)
theorem g_aret (M : MC p m c cc nL s args own) (B : PB D cy A s S H locs) {C : String} (hr : meth.sig.returnType = some (.object C)) (hlk : meth.locks = false) {post : Option Nat → Pool → Prop} {v : Option Nat} (h : post v S) (h1 : cells ≤ k1) (h2 : slots ≤ k2) (hdg : decode cc pc = .ok (.areturn, 1)) : W p l e R s m args below meth c H locs cells slots (MQ below (va_Qq post (PQ D cy A) A) args s k1 k2 A) (F0 m pc ls [va_rf v]) :=
  W.widen h1 h2 (W.aret M.1 M.2.1 hr (Or.inl ⟨_, rfl⟩) (va_rf_or v) (fun t ht hW => ⟨⟨v, S, rfl, h, by rw [ht]; exact B.1, B.2.1⟩, B.2.2.1.F ht⟩) B.2.2.1.2.2 hdg hlk)

end GC
