/-- which exceptions are none of another kind -/
def NC (U : State) : Prop := va_Nc "java/lang/UnsupportedOperationException" "java/lang/IllegalArgumentException" U ∧ va_Nc "java/util/NoSuchElementException" "java/lang/IndexOutOfBoundsException" U ∧ va_Nc "java/lang/IllegalArgumentException" "java/lang/IndexOutOfBoundsException" U ∧ va_Nc "java/lang/IllegalStateException" "java/lang/IndexOutOfBoundsException" U ∧ va_Nc "java/lang/IllegalStateException" "java/lang/IllegalArgumentException" U ∧ va_Nc "java/lang/UnsupportedOperationException" "java/lang/IndexOutOfBoundsException" U ∧ va_Nc "java/lang/UnsupportedOperationException" "java/lang/IllegalStateException" U
theorem NC.moved {u U : State} (hvm : u.vm.Alike U.vm) (h : NC u) : NC U := by
  obtain ⟨h1, h2, h3, h4, h5, h6, h7⟩ := h
  exact ⟨h1.moved hvm, h2.moved hvm, h3.moved hvm, h4.moved hvm, h5.moved hvm, h6.moved hvm, h7.moved hvm⟩
def PL (adK adV : Nat → Nat) (D : va_G) (cy : Nat → ClassId) (S : Pool) (sz : Nat) (U : State) : Prop := PX adK adV D cy S sz U ∧ NC U
theorem PL_blind {adK adV : Nat → Nat} {D : va_G} {cy : Nat → ClassId} {S : Pool} {sz : Nat} {av : List Value} : FrameBlind (va_Pc av (PL adK adV D cy S sz)) := fun a U g mk q => ⟨q.1, (PX_blind (av := av) a U g mk ⟨q.1, q.2.1⟩).2, NC.moved (u := U) (U := U.calling g mk a) (Vm.Alike.refl U.vm) q.2.2⟩
/-- the law's own methods: they end, and throw nothing -/
def MetIL (l : Launch) (adK adV : Nat → Nat) (y : MethodName) (bytes : ByteArray) (maxL : Nat) (hh : List (Nat × Nat × Nat × Nat)) (rm : Room) (av : List Value) (D : va_G) (cy : Nat → ClassId) (S : Pool) (post : Int32 → Pool → Prop) : Prop := ∀ sz, vx_Met l y (.codeWith y bytes maxL (some .int) hh :: Gw) rm (va_Pc av (PL adK adV D cy S sz)) (va_Qi post (PQ D cy (pA S.L sz)) (pA S.L sz)) (XT D cy (pA S.L sz) (fun _ _ => False)) rm.cells rm.slots (pA S.L sz)
section GLW
variable {p : Program} {l : Launch} {e : Env} {R : Room} {s : State} {m : MethodId} {args : Array Value} {below : List Frame} {meth : Method} {c : Code} {H : Heap} {locs : List Loc} {cells slots : Nat} {Q : State → Prop}
variable {cc : ByteArray} {pc : Nat} {ls : Array Slot} {rest : List Value} {D : va_G} {cy : Nat → ClassId} {A : Nat → Prop} {S : Pool} {own : String} {nL : Nat} {adK adV : Nat → Nat}
variable {mc ms k1 k2 : Nat} {av : Array Value} {st : List Value}
theorem g_lcalli (B : PB D cy A s S H locs) {post : Int32 → Pool → Prop} {pox : String → Pool → Prop} (hr : vx_Run p l e R s m args below meth c H locs cells slots mc ms (F0 m pc ls st) rest (va_Qi post (PQ D cy (pA S.L H.size)) (pA S.L H.size) av) (XT D cy (pA S.L H.size) pox) (pA S.L H.size)) (h1 : cells + mc ≤ k1) (h2 : slots + ms ≤ k2)
    (kx : ∀ (E : String) (ce : Cell) (q9 : Nat) (S : Pool) (H1 : Heap) (locs1 : List Loc), pox E S → PB D cy A s S H1 locs1 → H1[q9]? = some ce → ce.vm = .none → s.vm.findClass E = some ce.cls → vx_W p l e R s m args below meth c H1 locs1 k1 k2 Q (F0 m pc ls rest) q9)
    (kk : ∀ (v : Int32) (S : Pool) (H1 : Heap) (locs1 : List Loc), post v S → PB D cy A s S H1 locs1 → W p l e R s m args below meth c H1 locs1 k1 k2 Q (F0 m (pc + 3) ls (.int v :: rest))) : W p l e R s m args below meth c H locs cells slots Q (F0 m pc ls st) :=
  vx_calli hr B.2.2.1 (fun _ _ h => B.mem h) (fun _ h => B.mem h) (fun _ _ h => B.mem h)
    (fun E ce q9 u t H1 locs1 ht hvm _ hB hz hk hS hce hv hcl => vx_widen h1 h2 (kx E ce q9 u H1 locs1 hB.1 ⟨by rw [← ht]; exact hB.2.1, hB.2.2.weaken (fun _ _ _ h => B.mem h), hS, B.2.2.2⟩ hce hv hcl))
    (fun r u t H1 locs1 ht hvm hp hB hz hk hS => W.widen h1 h2 (kk r u H1 locs1 hp ⟨by rw [← ht]; exact hB.1, hB.2.weaken (fun _ _ _ h => B.mem h), hS, B.2.2.2⟩))
theorem g_lcallv (B : PB D cy A s S H locs) {post : Pool → Prop} {pox : String → Pool → Prop} (hr : vx_Run p l e R s m args below meth c H locs cells slots mc ms (F0 m pc ls st) rest (va_Qv post (PQ D cy (pA S.L H.size)) (pA S.L H.size) av) (XT D cy (pA S.L H.size) pox) (pA S.L H.size)) (h1 : cells + mc ≤ k1) (h2 : slots + ms ≤ k2)
    (kx : ∀ (E : String) (ce : Cell) (q9 : Nat) (S : Pool) (H1 : Heap) (locs1 : List Loc), pox E S → PB D cy A s S H1 locs1 → H1[q9]? = some ce → ce.vm = .none → s.vm.findClass E = some ce.cls → vx_W p l e R s m args below meth c H1 locs1 k1 k2 Q (F0 m pc ls rest) q9)
    (kk : ∀ (S : Pool) (H1 : Heap) (locs1 : List Loc), post S → PB D cy A s S H1 locs1 → W p l e R s m args below meth c H1 locs1 k1 k2 Q (F0 m (pc + 3) ls rest)) : W p l e R s m args below meth c H locs cells slots Q (F0 m pc ls st) :=
  vx_callv hr B.2.2.1 (fun _ _ h => B.mem h) (fun _ h => B.mem h) (fun _ _ h => B.mem h)
    (fun E ce q9 u t H1 locs1 ht hvm _ hB hz hk hS hce hv hcl => vx_widen h1 h2 (kx E ce q9 u H1 locs1 hB.1 ⟨by rw [← ht]; exact hB.2.1, hB.2.2.weaken (fun _ _ _ h => B.mem h), hS, B.2.2.2⟩ hce hv hcl))
    (fun u t H1 locs1 ht hvm hp hB hz hk hS => W.widen h1 h2 (kk u H1 locs1 hp ⟨by rw [← ht]; exact hB.1, hB.2.weaken (fun _ _ _ h => B.mem h), hS, B.2.2.2⟩))
end GLW

theorem wcgL_ticks : Cond.codeWith yL_ticks cL_ticks 4 (some FieldType.int) [(0, 9, 12, 13)] ∈ Gw := List.mem_filter.mpr ⟨wcwL_ticks, by decide +kernel⟩
theorem wcgL_act : Cond.codeWith yL_act cL_act 8 (some FieldType.int) [(0, 16, 19, 13), (0, 16, 23, 19)] ∈ Gw := List.mem_filter.mpr ⟨wcwL_act, by decide +kernel⟩
theorem wcgL_look : Cond.codeWith yL_look cL_look 5 (some FieldType.int) [(0, 10, 13, 25), (0, 10, 17, 27)] ∈ Gw := List.mem_filter.mpr ⟨wcwL_look, by decide +kernel⟩
theorem wcgL_may : Cond.codeWith yL_may cL_may 4 (some FieldType.int) [(0, 6, 9, 25), (0, 6, 12, 13)] ∈ Gw := List.mem_filter.mpr ⟨wcwL_may, by decide +kernel⟩
theorem wcgL_ask : Cond.codeWith yL_ask cL_ask 4 (some FieldType.int) [(0, 9, 12, 25), (0, 9, 15, 13), (0, 9, 18, 36), (0, 9, 21, 19)] ∈ Gw := List.mem_filter.mpr ⟨wcwL_ask, by decide +kernel⟩
theorem wcgL_finds : Cond.codeWith yL_finds cL_finds 5 (some FieldType.int) [(0, 10, 13, 25)] ∈ Gw := List.mem_filter.mpr ⟨wcwL_finds, by decide +kernel⟩
theorem wcgL_found : Cond.codeWith yL_found cL_found 6 (some FieldType.int) [(0, 12, 15, 25)] ∈ Gw := List.mem_filter.mpr ⟨wcwL_found, by decide +kernel⟩
theorem wcgL_proof : Cond.codeWith yL_proof cL_proof 7 (some FieldType.int) [(0, 14, 17, 25)] ∈ Gw := List.mem_filter.mpr ⟨wcwL_proof, by decide +kernel⟩
theorem wcgL_exempt : Cond.codeWith yL_exempt cL_exempt 6 (some FieldType.int) [(0, 12, 15, 25), (0, 12, 19, 13)] ∈ Gw := List.mem_filter.mpr ⟨wcwL_exempt, by decide +kernel⟩
theorem wcgL_spared : Cond.codeWith yL_spared cL_spared 5 (some FieldType.int) [(0, 10, 13, 25)] ∈ Gw := List.mem_filter.mpr ⟨wcwL_spared, by decide +kernel⟩
theorem wcgL_gap : Cond.codeWith yL_gap cL_gap 3 (some FieldType.int) [(0, 5, 8, 13)] ∈ Gw := List.mem_filter.mpr ⟨wcwL_gap, by decide +kernel⟩
theorem wcgL_joined : Cond.codeWith yL_joined cL_joined 5 (some FieldType.int) [(0, 10, 13, 25)] ∈ Gw := List.mem_filter.mpr ⟨wcwL_joined, by decide +kernel⟩
theorem wcgL_cost : Cond.codeWith yL_cost cL_cost 5 (some FieldType.int) [(0, 10, 13, 25)] ∈ Gw := List.mem_filter.mpr ⟨wcwL_cost, by decide +kernel⟩
theorem wcgL_widest : Cond.codeWith yL_widest cL_widest 5 (some FieldType.int) [(0, 10, 13, 25)] ∈ Gw := List.mem_filter.mpr ⟨wcwL_widest, by decide +kernel⟩
