/-- words of the tables that speak of casts and declarations: carried as premises -/
def BW : List Cond := [.castable "java/lang/IllegalArgumentException" "java/lang/IllegalArgumentException", .declares ⟨"java/lang/RuntimeException", "<init>", "()V"⟩, .declares ⟨"java/lang/RuntimeException", "<init>", "(Ljava/lang/String;)V"⟩, .declares ⟨"java/lang/Exception", "<init>", "()V"⟩, .declares ⟨"java/lang/Exception", "<init>", "(Ljava/lang/String;)V"⟩, .declares ⟨"java/lang/Throwable", "<init>", "()V"⟩, .declares ⟨"java/lang/Throwable", "<init>", "(Ljava/lang/String;)V"⟩, .castable "java/lang/UnsupportedOperationException" "java/lang/UnsupportedOperationException", .castable "java/lang/IndexOutOfBoundsException" "java/lang/IndexOutOfBoundsException", .castable "java/util/NoSuchElementException" "java/util/NoSuchElementException", .castable "java/lang/IllegalStateException" "java/lang/IllegalStateException"]
theorem BW_in : ∀ w ∈ BW, w ∈ lw_tbl := by decide +kernel
def isCD : Cond → Bool
  | .castable .. => true
  | .declares _ => true
  | _ => false
theorem BW_cd : ∀ w ∈ BW, isCD w = true := by decide +kernel
theorem Nw_warmB {w : Cond} (hc : isCD w = true) {s U : State} (hW : s.WarmedH U.vm) (h : va_Nw w s) : va_Nw w U := by
  cases w <;> first | (simp [isCD] at hc; done) | exact va_Nw.warmC hW h | exact va_Nw.warmD hW h
theorem Nw_sameB {w : Cond} (hc : isCD w = true) {s U : State} (hv : s.vm = U.vm) (h : va_Nw w s) : va_Nw w U := by
  cases w <;> first | (simp [isCD] at hc; done) | exact va_Nw.same rfl hv h
theorem Nw_useB {w : Cond} (hc : isCD w = true) {U : State} {a : Array Value} (h : va_Nw w U) : w.before a U = true := by
  cases w <;> first | (simp [isCD] at hc; done) | exact va_Nw.use rfl h
/-- the start of a method that needs what stands outside -/
def PX (adK adV : Nat → Nat) (D : va_G) (cy : Nat → ClassId) (S : Pool) (sz : Nat) (U : State) : Prop := PP D cy S sz U ∧ SX adK adV (pA S.L sz) U U.heap ∧ ∀ w ∈ BW, va_Nw w U
/-- .. and what of it stays by the method's side -/
def EX (adK adV : Nat → Nat) (A : Nat → Prop) (s : State) : Prop := SX adK adV A s s.heap ∧ ∀ w ∈ BW, va_Nw w s
theorem PX_blind {adK adV : Nat → Nat} {D : va_G} {cy : Nat → ClassId} {S : Pool} {sz : Nat} {av : List Value} : FrameBlind (va_Pc av (PX adK adV D cy S sz)) := fun a U g mk q => by
  obtain ⟨q0, q1, q2, q3⟩ := q
  exact ⟨q0, (PP_blind (av := av) a U g mk ⟨q0, q1⟩).2, SX.call (U := U) (U2 := U.calling g mk a) rfl rfl q2, fun w hw => Nw_sameB (BW_cd w hw) (s := U) (U := U.calling g mk a) rfl (q3 w hw)⟩
/-- what a method that throws leaves: which exception, the pool -/
def XT (D : va_G) (cy : Nat → ClassId) (A : Nat → Prop) (pox : String → Pool → Prop) : String → State → State → Prop := vx_X (fun _ : Pool => True) (fun E S t => pox E S ∧ PQ D cy A S t) A
def MetVX (l : Launch) (adK adV : Nat → Nat) (y : MethodName) (bytes : ByteArray) (maxL : Nat) (rm : Room) (av : List Value) (D : va_G) (cy : Nat → ClassId) (S : Pool) (post : Pool → Prop) : Prop := ∀ sz, Met l y (.code y bytes maxL none :: Gw) rm (va_Pc av (PX adK adV D cy S sz)) (va_Qv post (PQ D cy (pA S.L sz)) (pA S.L sz)) rm.cells rm.slots (pA S.L sz)
def MetIX (l : Launch) (adK adV : Nat → Nat) (y : MethodName) (bytes : ByteArray) (maxL : Nat) (ret : Option FieldType) (rm : Room) (av : List Value) (D : va_G) (cy : Nat → ClassId) (S : Pool) (post : Int32 → Pool → Prop) : Prop := ∀ sz, Met l y (.code y bytes maxL ret :: Gw) rm (va_Pc av (PX adK adV D cy S sz)) (va_Qi post (PQ D cy (pA S.L sz)) (pA S.L sz)) rm.cells rm.slots (pA S.L sz)
def MetVT (l : Launch) (adK adV : Nat → Nat) (y : MethodName) (bytes : ByteArray) (maxL : Nat) (rm : Room) (av : List Value) (D : va_G) (cy : Nat → ClassId) (S : Pool) (pox : String → Pool → Prop) (post : Pool → Prop) : Prop := ∀ sz, vx_Met l y (.code y bytes maxL none :: Gw) rm (va_Pc av (PX adK adV D cy S sz)) (va_Qv post (PQ D cy (pA S.L sz)) (pA S.L sz)) (XT D cy (pA S.L sz) pox) rm.cells rm.slots (pA S.L sz)
def MetIT (l : Launch) (adK adV : Nat → Nat) (y : MethodName) (bytes : ByteArray) (maxL : Nat) (ret : Option FieldType) (rm : Room) (av : List Value) (D : va_G) (cy : Nat → ClassId) (S : Pool) (pox : String → Pool → Prop) (post : Int32 → Pool → Prop) : Prop := ∀ sz, vx_Met l y (.code y bytes maxL ret :: Gw) rm (va_Pc av (PX adK adV D cy S sz)) (va_Qi post (PQ D cy (pA S.L sz)) (pA S.L sz)) (XT D cy (pA S.L sz) pox) rm.cells rm.slots (pA S.L sz)
def MetRT (l : Launch) (adK adV : Nat → Nat) (y : MethodName) (bytes : ByteArray) (maxL : Nat) (ret : Option FieldType) (rm : Room) (av : List Value) (D : va_G) (cy : Nat → ClassId) (S : Pool) (pox : String → Pool → Prop) (post : Option Nat → Pool → Prop) : Prop := ∀ sz, vx_Met l y (.code y bytes maxL ret :: Gw) rm (va_Pc av (PX adK adV D cy S sz)) (va_Qq post (PQ D cy (pA S.L sz)) (pA S.L sz)) (XT D cy (pA S.L sz) pox) rm.cells rm.slots (pA S.L sz)
/-- the String constants in programs: w is the place of a word -/
def xsl (w : Nat) (K : Int32 → Prop) : Prop := w < 9 ∧ K (nI (lenG.getD w 0))
def xsc (w : Nat) (i : Int32) (K : Int32 → Prop) : Prop := w < 9 ∧ vp_in i (lenG.getD w 0) ∧ K (chG w i)

section GX
variable {p : Program} {l : Launch} {e : Env} {R : Room} {s : State} {m : MethodId} {args : Array Value} {below : List Frame} {meth : Method} {c : Code} {H : Heap} {locs : List Loc} {cells slots : Nat} {Q : State → Prop}
variable {cc : ByteArray} {pc : Nat} {ls : Array Slot} {rest : List Value} {D : va_G} {cy : Nat → ClassId} {A : Nat → Prop} {S : Pool} {own : String} {nL : Nat} {adK adV : Nat → Nat}

theorem PB.px (B : PB D cy A s S H locs) (X : EX adK adV A s) {U : State} (hU : U.heap = H) (hW : s.WarmedH U.vm) : PX adK adV D cy S H.size U := ⟨B.pp hU hW, X.1.next hW hU B.2.2.1.2.1 (fun q hq => B.mem hq), fun w hw => Nw_warmB (BW_cd w hw) hW (X.2 w hw)⟩
theorem PX.ex (h : PX adK adV D cy S s.heap.size s) : EX adK adV (pA S.L s.heap.size) s := h.2
theorem PB.grow {H1 : Heap} {locs1 : List Loc} (B : PB D cy A s S H locs) (hk : ∀ q : Nat, q < H.size → H1[q]? = H[q]?) (hS : va_S A s.heap H1 locs1) : PB D cy A s S H1 locs1 := ⟨B.1.kept (fun k q hq => hk q.1 (B.1 k q hq).lt), B.2.1, hS, B.2.2.2⟩
theorem g_runVX (M : MC p m c cc nL s args own) (B : PB D cy A s S H locs) (X : EX adK adV A s) {y : MethodName} {C : String} {index maxL n a ci : Nat} {bytes : ByteArray} {ret : Option FieldType} {rm : Room} {q : vw_C} {As st : List Value} {Qc : Array Value → State → Outcome → State → Prop} {free : Addr → Prop} {cn : Nat}
    {r : Option Nat} (hr : r = some a) (hM : Met l y (.code y bytes maxL ret :: Gw) rm (va_Pc (va_rf r :: As) (PX adK adV D cy S H.size)) Qc rm.cells rm.slots free) (hwm : Cond.methodLink own index y ∈ Gw) (hwi : Cond.instanceMethod y ∈ Gw) (hws : Cond.selects C y y ∈ Gw) (hwn : Cond.initialized C ∈ Gw) (hwc : Cond.code y bytes maxL ret ∈ Gw)
    (hd : y.cls = C ∧ y.cls ≠ "java/lang/invoke/MethodHandle" ∧ y.cls ≠ "java/lang/invoke/VarHandle" ∧ (parseMethodDescriptor y.desc).map (fun d => d.parameters.length) = some n) (hR : rm.frames + 1 ≤ R.frames ∧ 8 + (maxL + 11) + rm.locals ≤ R.locals) (hf : cells + rm.cells ≤ R.cells ∧ slots + rm.slots ≤ R.slots)
    (hL : a ∈ S.L) (hK : S.K a = ci) (h10 : ci < 10) (hc : vwCl[ci]? = some q) (hq : q.1 = C) (hn : As.length = n) (hl : ls.size = nL) (hst : st = As.reverse ++ va_rf r :: rest) (hct : ct rest cn) (hcn : cn ≤ 8) (hdg : decode cc pc = .ok (.invokevirtual index, 3)) :
    va_Run p l e R s m args below meth c H locs cells slots rm.cells rm.slots (F0 m pc ls st) rest (Qc (va_rf r :: As).toArray) free := by
  subst hr
  subst hq
  obtain ⟨q0, hq0⟩ := pW_get (cy := cy) hL
  rw [pE_obj hK h10] at hq0
  refine va_runV M hM (cwV n M.2.2.2.2 (gG fun w hw => ?_) rfl rfl rfl hd hR) ⟨PX_blind, va_recv B.2.2.2.2.1 B.1 hc hq0, fun U hU hW => ⟨rfl, B.px X hU hW⟩⟩ rfl hn hl hst (lv_room (by have := hct; unfold ct at this; omega)) hdg hf
  unfold wsV at hw
  rcases List.mem_append.mp hw with h | h
  · simp only [List.mem_cons, List.not_mem_nil, or_false] at h
    rcases h with rfl | rfl | rfl | rfl
    · exact hwm
    · exact hwi
    · exact hws
    · exact hwn
  · exact gGc hwc w h
theorem g_runVT (M : MC p m c cc nL s args own) (B : PB D cy A s S H locs) (X : EX adK adV A s) {y : MethodName} {C : String} {index maxL n a ci : Nat} {bytes : ByteArray} {ret : Option FieldType} {rm : Room} {q : vw_C} {As st : List Value} {Qc : Array Value → State → Outcome → State → Prop} {XC : String → State → State → Prop} {free : Addr → Prop} {cn : Nat}
    {r : Option Nat} (hr : r = some a) (hM : vx_Met l y (.code y bytes maxL ret :: Gw) rm (va_Pc (va_rf r :: As) (PX adK adV D cy S H.size)) Qc XC rm.cells rm.slots free) (hwm : Cond.methodLink own index y ∈ Gw) (hwi : Cond.instanceMethod y ∈ Gw) (hws : Cond.selects C y y ∈ Gw) (hwn : Cond.initialized C ∈ Gw) (hwc : Cond.code y bytes maxL ret ∈ Gw)
    (hd : y.cls = C ∧ y.cls ≠ "java/lang/invoke/MethodHandle" ∧ y.cls ≠ "java/lang/invoke/VarHandle" ∧ (parseMethodDescriptor y.desc).map (fun d => d.parameters.length) = some n) (hR : rm.frames + 1 ≤ R.frames ∧ 8 + (maxL + 11) + rm.locals ≤ R.locals) (hf : cells + rm.cells ≤ R.cells ∧ slots + rm.slots ≤ R.slots)
    (hL : a ∈ S.L) (hK : S.K a = ci) (h10 : ci < 10) (hc : vwCl[ci]? = some q) (hq : q.1 = C) (hn : As.length = n) (hl : ls.size = nL) (hst : st = As.reverse ++ va_rf r :: rest) (hct : ct rest cn) (hcn : cn ≤ 8) (hdg : decode cc pc = .ok (.invokevirtual index, 3)) :
    vx_Run p l e R s m args below meth c H locs cells slots rm.cells rm.slots (F0 m pc ls st) rest (Qc (va_rf r :: As).toArray) XC free := by
  subst hr
  subst hq
  obtain ⟨q0, hq0⟩ := pW_get (cy := cy) hL
  rw [pE_obj hK h10] at hq0
  refine vx_runV M hM (cwV n M.2.2.2.2 (gG fun w hw => ?_) rfl rfl rfl hd hR) ⟨PX_blind, va_recv B.2.2.2.2.1 B.1 hc hq0, fun U hU hW => ⟨rfl, B.px X hU hW⟩⟩ rfl hn hl hst (lv_room (by have := hct; unfold ct at this; omega)) hdg hf
  unfold wsV at hw
  rcases List.mem_append.mp hw with h | h
  · simp only [List.mem_cons, List.not_mem_nil, or_false] at h
    rcases h with rfl | rfl | rfl | rfl
    · exact hwm
    · exact hwi
    · exact hws
    · exact hwn
  · exact gGc hwc w h
theorem g_ldcS (M : MC p m c cc nL s args RX4) (X : EX adK adV A s) {w index : Nat} (hw : w < 9) (hi : ixG.getD w 0 = index) (hdg : decode cc pc = .ok (.ldc index, 2)) (kk : W p l e R s m args below meth c H locs cells slots Q (F0 m (pc + 2) ls (va_rf (some (adK w)) :: rest))) : W p l e R s m args below meth c H locs cells slots Q (F0 m pc ls rest) := by
  subst hi
  exact va_ldcS M.1 M.2.1 M.2.2.2.1 (X.1.2.1 w hw) hdg kk
theorem g_slen (M : MC p m c cc nL s args RX4) (B : PB D cy A s S H locs) (X : EX adK adV A s) {w cn : Nat} (hl : ls.size = nL) (hf : 2 ≤ R.frames) (hlo : 40 ≤ R.locals) (hc : cells ≤ R.cells) (hs : slots ≤ R.slots) (hct : ct rest cn) (hcn : cn ≤ 8) (hdg : decode cc pc = .ok (.invokevirtual 136, 3)) {K : Int32 → Prop} (h : xsl w K) (kk : ∀ (v : Int32) (H1 : Heap) (locs1 : List Loc), K v → PB D cy A s S H1 locs1 → W p l e R s m args below meth c H1 locs1 cells slots Q (F0 m (pc + 3) ls (.int v :: rest))) : W p l e R s m args below meth c H locs cells slots Q (F0 m pc ls (va_rf (some (adK w)) :: rest)) := by
  obtain ⟨hw, h⟩ := h
  exact j_calli B.2.2.1 B.2.2.2.1 (j_runV (n := 0) (As := []) (rm := rmJ0_length_8abf5) M X.1 B.2.2.1 B.2.2.2.1 hw (kJ0_length_8abf5 l adK adV hw _) wmX4_136 wiJ0_length_8abf5 wsJ0_length_8abf5 wnJ0 wcdJ0_length_8abf5 ⟨rfl, by decide, by decide, by decide +kernel⟩ ⟨Nat.le_trans (by decide) hf, Nat.le_trans (by decide) hlo⟩ ⟨hc, hs⟩ rfl hl rfl hct hcn hdg) (fun H1 locs1 hz hk hS => kk _ H1 locs1 h (B.grow hk hS))
theorem g_schar (M : MC p m c cc nL s args RX4) (B : PB D cy A s S H locs) (X : EX adK adV A s) {w cn : Nat} {i : Int32} (hl : ls.size = nL) (hf : 4 ≤ R.frames) (hlo : 85 ≤ R.locals) (hc : cells ≤ R.cells) (hs : slots ≤ R.slots) (hct : ct rest cn) (hcn : cn ≤ 8) (hdg : decode cc pc = .ok (.invokevirtual 140, 3)) {K : Int32 → Prop} (h : xsc w i K) (kk : ∀ (v : Int32) (H1 : Heap) (locs1 : List Loc), K v → PB D cy A s S H1 locs1 → W p l e R s m args below meth c H1 locs1 cells slots Q (F0 m (pc + 3) ls (.int v :: rest))) : W p l e R s m args below meth c H locs cells slots Q (F0 m pc ls (.int i :: va_rf (some (adK w)) :: rest)) := by
  obtain ⟨hw, hi, h⟩ := h
  exact j_calli B.2.2.1 B.2.2.2.1 (j_runV (n := 1) (As := [.int i]) (rm := rmJ0_charAt_5068e) M X.1 B.2.2.1 B.2.2.2.1 hw (kJ0_charAt_5068e l adK adV hw hi _) wmX4_140 wiJ0_charAt_5068e wsJ0_charAt_5068e wnJ0 wcdJ0_charAt_5068e ⟨rfl, by decide, by decide, by decide +kernel⟩ ⟨Nat.le_trans (by decide) hf, Nat.le_trans (by decide) hlo⟩ ⟨hc, hs⟩ rfl hl rfl hct hcn hdg) (fun H1 locs1 hz hk hS => kk _ H1 locs1 h (B.grow hk hS))
variable {mc ms k1 k2 : Nat} {av : Array Value} {st : List Value}
/-- behind a call of a method that may throw, where nothing is caught: it goes on to the caller -/
theorem g_tcalli (B : PB D cy A s S H locs) (hout : ∀ x ∈ c.exceptionTable.toList, False) (hlk : meth.locks = false) {post : Int32 → Pool → Prop} {pox : String → Pool → Prop} {Qc : Array Value → State → Outcome → State → Prop} (hr : vx_Run p l e R s m args below meth c H locs cells slots mc ms (F0 m pc ls st) rest (va_Qi post (PQ D cy (pA S.L H.size)) (pA S.L H.size) av) (XT D cy (pA S.L H.size) pox) (pA S.L H.size)) (h1 : cells + mc ≤ k1) (h2 : slots + ms ≤ k2) {c9 s9 : Nat} (h3 : cells + mc ≤ c9) (h4 : slots + ms ≤ s9)
    (kk : ∀ (v : Int32) (S : Pool) (H1 : Heap) (locs1 : List Loc), post v S → PB D cy A s S H1 locs1 → W p l e R s m args below meth c H1 locs1 k1 k2 (vx_MQ below Qc (XT D cy A pox) args s c9 s9 A) (F0 m (pc + 3) ls (.int v :: rest))) : W p l e R s m args below meth c H locs cells slots (vx_MQ below Qc (XT D cy A pox) args s c9 s9 A) (F0 m pc ls st) :=
  vx_calli hr B.2.2.1 (fun _ _ h => B.mem h) (fun _ h => B.mem h) (fun _ _ h => B.mem h)
    (fun E ce q9 u t H1 locs1 ht hvm _ hB hz hk hS hce hv hcl => vx_out (fun x hx => (hout x hx).elim) hlk hce hv hcl (fun t2 ht2 _ => ⟨u, trivial, ⟨hB.1, by rw [ht2, ← ht]; exact hB.2.1, hB.2.2.weaken (fun _ _ _ h => B.mem h)⟩, hS.F ht2⟩) hS.2.2 h3 h4)
    (fun r u t H1 locs1 ht hvm hp hB hz hk hS => W.widen h1 h2 (kk r u H1 locs1 hp ⟨by rw [← ht]; exact hB.1, hB.2.weaken (fun _ _ _ h => B.mem h), hS, B.2.2.2⟩))
theorem g_tcallr (B : PB D cy A s S H locs) (hout : ∀ x ∈ c.exceptionTable.toList, False) (hlk : meth.locks = false) {post : Option Nat → Pool → Prop} {pox : String → Pool → Prop} {Qc : Array Value → State → Outcome → State → Prop} (hr : vx_Run p l e R s m args below meth c H locs cells slots mc ms (F0 m pc ls st) rest (va_Qq post (PQ D cy (pA S.L H.size)) (pA S.L H.size) av) (XT D cy (pA S.L H.size) pox) (pA S.L H.size)) (h1 : cells + mc ≤ k1) (h2 : slots + ms ≤ k2) {c9 s9 : Nat} (h3 : cells + mc ≤ c9) (h4 : slots + ms ≤ s9)
    (kk : ∀ (v : Option Nat) (S : Pool) (H1 : Heap) (locs1 : List Loc), post v S → PB D cy A s S H1 locs1 → W p l e R s m args below meth c H1 locs1 k1 k2 (vx_MQ below Qc (XT D cy A pox) args s c9 s9 A) (F0 m (pc + 3) ls (va_rf v :: rest))) : W p l e R s m args below meth c H locs cells slots (vx_MQ below Qc (XT D cy A pox) args s c9 s9 A) (F0 m pc ls st) := by
  intro T hT X
  have hS := B.2.2.1
  rcases hr T hT X with ⟨v, st₀, t, T', L, h0, X', hL, e1, e2, ⟨⟨r, u, hv, hp, hb⟩, hF⟩, st⟩ | ⟨q, st₀, t, T', L, E, ce, h0, X', hL, e1, e2, ⟨u, hp, hb, hF⟩, hce, hcv, hcl, st⟩
  · cases hv
    obtain ⟨k3, k4, k5⟩ := vx_keep h0 e1 hS (fun q _ h => B.mem h) (fun q h => B.mem h) hL hF
    obtain ⟨t2, a1, b1⟩ := W.widen h1 h2 (kk r u T'.heap (locs ++ L) hp ⟨by rw [e1]; exact hb.1, hb.2.weaken (fun _ _ _ h => B.mem h), k5, B.2.2.2⟩) T' rfl X'
    exact ⟨t2, st t2 a1, b1⟩
  · obtain ⟨k3, k4, k5⟩ := vx_keep h0 e1 hS (fun q _ h => B.mem h) (fun q h => B.mem h) hL hF
    obtain ⟨t2, a1, b1⟩ := vx_out (Qc := Qc) (XC := XT D cy A pox) (args := args) (p := p) (l := l) (e := e) (R := R) (below := below) (ls := ls) (rest := rest) (pc := pc) (free := A) (fun x hx => (hout x hx).elim) hlk (by rw [e1]; exact hce) hcv hcl (fun t2 ht2 _ => ⟨u, trivial, ⟨hb.1, by rw [ht2, e1]; exact hb.2.1, hb.2.2.weaken (fun _ _ _ h => B.mem h)⟩, k5.F ht2⟩) k5.2.2 h3 h4 T' rfl X'
    exact ⟨t2, st.trans a1, b1⟩
/-- throw new E("text") -/
theorem g_throw (M : MC p m c cc nL s args RX8) (B : PB D cy A s S H locs) (X : EX adK adV A s) (hl0 : l.stackTraces = false) (hout : ∀ x ∈ c.exceptionTable.toList, False) (hlk : meth.locks = false) {cls : String} {ik is ic j : Nat} {Qc : Array Value → State → Outcome → State → Prop} {pox : String → Pool → Prop} {c9 s9 cn : Nat}
    (hcls : Bundle.fit cls = true) (hj : j < 14) (his : ixM.getD j 0 = is) (hk : Cond.classLink RX8 ik cls ∈ Gw) (hini : Cond.initialized cls ∈ Gw) (ha : ∀ w ∈ vx_atS RX8 ic cls ["java/lang/RuntimeException", "java/lang/Exception"], w ∈ lw_tbl) (hb : ∀ w ∈ (vx_atS RX8 ic cls ["java/lang/RuntimeException", "java/lang/Exception"]).filter (fun w => !goodWord w), w ∈ BW) (hg : ∀ w ∈ Cond.classLink RX8 ik cls :: Cond.initialized cls :: vx_atS RX8 ic cls ["java/lang/RuntimeException", "java/lang/Exception"], vx_ot w = true)
    (hl : ls.size = nL) (hf : 6 ≤ R.frames) (hlo : 90 ≤ R.locals) (hc : cells + 1 ≤ R.cells) (hs : slots + 6 ≤ R.slots) (hct : ct rest cn) (hcn : cn ≤ 8) (hc9 : cells + 1 ≤ c9) (hs9 : slots + 6 ≤ s9)
    (d0 : decode cc pc = .ok (.new ik, 3)) (d3 : decode cc (pc + 3) = .ok (.dup, 1)) (d4 : decode cc (pc + 4) = .ok (.ldc is, 2)) (d6 : decode cc (pc + 6) = .ok (.invokespecial ic, 3)) (d9 : decode cc (pc + 9) = .ok (.athrow, 1)) (h : pox cls S) : W p l e R s m args below meth c H locs cells slots (vx_MQ below Qc (XT D cy A pox) args s c9 s9 A) (F0 m pc ls rest) := by
  subst his
  obtain ⟨sa, hsa⟩ := X.1.2.2.1 j hj
  exact vx_throwS (names := ["java/lang/RuntimeException", "java/lang/Exception"]) M.1 M.2.1 hl0 M.2.2.2.1 hcls (by decide +kernel) (M.2.2.2.2 _ hk) (M.2.2.2.2 _ hini) hsa (vx_hat (fun w hw => M.2.2.2.2 w (List.mem_filter.mpr ⟨ha w (List.mem_filter.mp hw).1, (List.mem_filter.mp hw).2⟩)) hb (fun w hw => Nw_useB (BW_cd w hw) (X.2 w hw))) hg X.1.2.2.2.2.2.1 X.1.2.2.2.2.2.2 B.2.2.1 (hl.trans M.2.2.1.symm) d0 d3 d4 d6 d9 (fun x hx => (hout x hx).elim) (by show 2 + 3 < _; omega) (by have := hct; unfold ct at this; show _ + (13 * (2 + 1) + 43) ≤ _; omega) hc hs hlk
    (fun t hvm hz hk2 => ⟨S, trivial, ⟨h, B.1.kept (fun k q hq => hk2 q.1 (B.1 k q hq).lt), B.2.1⟩, ⟨Nat.le_trans B.2.2.1.1 hz, fun q h1 h2 => (hk2 q (Nat.lt_of_lt_of_le h1 B.2.2.1.1)).trans (B.2.2.1.2.1 q h1 h2)⟩⟩) B.2.2.1.2.2 hc9 hs9

end GX
