-- X9_fault: LogHuntModel.fault()I
def wX9_fault (post : Int32 → Pool → Prop) (v0 : Option Nat) (S : Pool) : Prop := xpI S v0 9 0 0 fun S1 => xI S1 v0 9 30 fun a2 => post a2 S1
def rmX9_fault : Room := { frames := 0, cells := 0, slots := 0, locals := 0 }
section
variable {p : Program} {l : Launch} {e : Env} {R : Room} {s : State} {m : MethodId} {args : Array Value} {below : List Frame} {meth : Method} {c : Code} {D : va_G} {cy : Nat → ClassId} {A : Nat → Prop}
set_option maxRecDepth 100000 in
set_option maxHeartbeats 4000000 in
theorem tX9_fault {post : Int32 → Pool → Prop} (M : MC p m c cX9_fault 1 s args RX9) (hr : meth.sig.returnType = (some FieldType.int)) (hlk : meth.locks = false) (hRf : 0 ≤ R.frames) (hRl : 0 ≤ R.locals) (hRc : 0 ≤ R.cells) (hRs : 0 ≤ R.slots) : ∀ (v0 : Option Nat) (S : Pool), wX9_fault post v0 S → ∀ (H : Heap) (locs : List Loc) (ls : Array Slot), PB D cy A s S H locs → lv_has ls 1 [(0, va_rf v0)] → W p l e R s m args below meth c H locs 0 0 (MQ below (va_Qi post (PQ D cy A) A) args s 0 0 A) (F0 m 0 ls []) := by
  intro v0 S h H locs ls B hl
  unfold wX9_fault at h
  refine g_aload_n M dX9_fault_0 rfl (lv_at hl 0 rfl) ?_
  refine lv_iconst (v := 0) M.1 M.2.1 dX9_fault_1 (by decide) ?_
  refine gpX9_99 M B dX9_fault_2 h (fun S1 H locs h B => ?_)
  refine g_aload_n M dX9_fault_5 rfl (lv_at hl 0 rfl) ?_
  refine gfX9_75 M B dX9_fault_6 h (fun a2 h => ?_)
  exact g_iret M B hr hlk h (by decide) (by decide) dX9_fault_9
end
set_option maxRecDepth 100000 in
set_option maxHeartbeats 4000000 in
theorem kX9_fault (l : Launch) (D : va_G) (cy : Nat → ClassId) {post : Int32 → Pool → Prop} {v0 : Option Nat} {S : Pool} (h : wX9_fault post v0 S) : MetI l yX9_fault cX9_fault 1 (some FieldType.int) rmX9_fault [va_rf v0] D cy S post := by
  intro sz
  refine Met.ofW (cc := cX9_fault) (maxL := 1) (ret := (some FieldType.int)) (by decide) rfl ?_
  intro p e s m args below meth c s₁ B0 hml hv
  obtain ⟨rfl, hpp⟩ := hv
  have hts := atoms_spec (ws := .code yX9_fault cX9_fault 1 (some FieldType.int) :: Gw) B0.pre
  obtain rfl : s.heap.size = sz := hpp.1
  have hl := lv_entry [va_rf v0] (n := 1) (by rw [sl_r, sl_0]; decide)
  rw [lg_entry_eq]
  rw [la_r, la_0] at hl
  exact tX9_fault (l := l) (R := rmX9_fault) ⟨B0.exec, B0.bytes, hml, findClass_of_methodNamed B0.named, fun w hw => hts w (List.mem_cons_of_mem _ hw)⟩ B0.returns B0.notSynchronized (Nat.le_refl _) (Nat.le_refl _) (Nat.le_refl _) (Nat.le_refl _) _ _ h _ _ _ hpp.pb (lv_sub hl [0] rfl)
-- X9_fits: LogHuntModel.fits(IIII)Z
def wX9_fits_220 (K99 : Option Nat → Int32 → Int32 → Int32 → Int32 → Pool → Prop) (post : Int32 → Pool → Prop) (v0 : Option Nat) (v3 : Int32) (v4 : Int32) (v5 : Int32) (v6 : Int32) (S : Pool) : Prop := K99 v0 v3 v4 v5 (v6 + 1) S
def wX9_fits_195 (K99 : Option Nat → Int32 → Int32 → Int32 → Int32 → Pool → Prop) (post : Int32 → Pool → Prop) (v0 : Option Nat) (v3 : Int32) (v4 : Int32) (v5 : Int32) (v6 : Int32) (z0 : Int32) (S : Pool) : Prop := br (z0 = 0) (wX9_fits_220 K99 post v0 v3 v4 v5 v6 S) (xR S v0 9 8 fun a2 => xaI S a2 10 v6 fun a3 => xR S v0 9 8 fun a4 => xaI S a4 10 v3 fun a5 => br (a5 ≤ a3) (wX9_fits_220 K99 post v0 v3 v4 v5 v6 S) (((0 : Int32) = 0 ∨ (0 : Int32) = 1) ∧ post (0 : Int32) S))
def wX9_fits_194 (K99 : Option Nat → Int32 → Int32 → Int32 → Int32 → Pool → Prop) (post : Int32 → Pool → Prop) (v0 : Option Nat) (v3 : Int32) (v4 : Int32) (v5 : Int32) (v6 : Int32) (S : Pool) : Prop := wX9_fits_195 K99 post v0 v3 v4 v5 v6 0 S
def wX9_fits_99 (post : Int32 → Pool → Prop) : Nat → Option Nat → Int32 → Int32 → Int32 → Int32 → Pool → Prop
  | 0 => fun _ _ _ _ _ _ => False
  | n + 1 => fun v0 v3 v4 v5 v6 S => xI S v0 9 4 fun a1 => br (a1 ≤ v6) (((1 : Int32) = 0 ∨ (1 : Int32) = 1) ∧ post (1 : Int32) S) (xR S v0 9 17 fun a3 => xaI S a3 11 v5 fun a4 => br (a4 = 0) (((1 : Int32) = 0 ∨ (1 : Int32) = 1) ∧ post (1 : Int32) S) (xR S v0 9 9 fun a6 => xaI S a6 10 v6 fun a7 => br (v4 < a7) (wX9_fits_194 (wX9_fits_99 post n) post v0 v3 v4 v5 v6 S) (xR S v0 9 6 fun a9 => xaI S a9 10 v6 fun a10 => xR S v0 9 6 fun a11 => xaI S a11 10 v3 fun a12 => br (a10 = a12) (xR S v0 9 7 fun a14 => xaI S a14 10 ((3 : Int32) * v6) fun a15 => xR S v0 9 7 fun a16 => xaI S a16 10 ((3 : Int32) * v3) fun a17 => br (a15 = a17) (xR S v0 9 7 fun a19 => xaI S a19 10 (((3 : Int32) * v6) + 1) fun a20 => xR S v0 9 7 fun a21 => xaI S a21 10 (((3 : Int32) * v3) + 1) fun a22 => br (a20 = a22) (wX9_fits_195 (wX9_fits_99 post n) post v0 v3 v4 v5 v6 1 S) (wX9_fits_194 (wX9_fits_99 post n) post v0 v3 v4 v5 v6 S)) (wX9_fits_194 (wX9_fits_99 post n) post v0 v3 v4 v5 v6 S)) (wX9_fits_194 (wX9_fits_99 post n) post v0 v3 v4 v5 v6 S))))
def wX9_fits_90 (K40 : Option Nat → Int32 → Int32 → Int32 → Int32 → Pool → Prop) (post : Int32 → Pool → Prop) (v0 : Option Nat) (v3 : Int32) (v4 : Int32) (v5 : Int32) (v6 : Int32) (S : Pool) : Prop := K40 v0 v3 v4 v5 (v6 + 1) S
def wX9_fits_40 (post : Int32 → Pool → Prop) : Nat → Option Nat → Int32 → Int32 → Int32 → Int32 → Pool → Prop
  | 0 => fun _ _ _ _ _ _ => False
  | n + 1 => fun v0 v3 v4 v5 v6 S => br (3 ≤ v6) (∃ n1, wX9_fits_99 post n1 v0 v3 v4 v5 0 S) (xR S v0 9 16 fun a2 => xaI S a2 10 (((3 : Int32) * v5) + v6) fun a3 => br (a3 = ((-1))) (wX9_fits_90 (wX9_fits_40 post n) post v0 v3 v4 v5 v6 S) (xR S v0 9 16 fun a5 => xaI S a5 10 (((3 : Int32) * v5) + v6) fun a6 => xR S v0 9 7 fun a7 => xaI S a7 10 (((3 : Int32) * v3) + v6) fun a8 => br (a6 = a8) (wX9_fits_90 (wX9_fits_40 post n) post v0 v3 v4 v5 v6 S) (((0 : Int32) = 0 ∨ (0 : Int32) = 1) ∧ post (0 : Int32) S)))
def wX9_fits (post : Int32 → Pool → Prop) (v0 : Option Nat) (v1 : Int32) (v2 : Int32) (v3 : Int32) (v4 : Int32) (S : Pool) : Prop := xR S v0 9 9 fun a1 => xaI S a1 10 v3 fun a2 => br (v4 < a2) (((0 : Int32) = 0 ∨ (0 : Int32) = 1) ∧ post (0 : Int32) S) (xR S v0 9 6 fun a4 => xaI S a4 10 v3 fun a5 => xR S v0 9 15 fun a6 => xaI S a6 10 (((6 : Int32) * v1) + v2) fun a7 => br (a5 = a7) (∃ n1, wX9_fits_40 post n1 v0 v3 v4 (((6 : Int32) * v1) + v2) 0 S) (((0 : Int32) = 0 ∨ (0 : Int32) = 1) ∧ post (0 : Int32) S))
def rmX9_fits : Room := { frames := 0, cells := 0, slots := 0, locals := 0 }
section
variable {p : Program} {l : Launch} {e : Env} {R : Room} {s : State} {m : MethodId} {args : Array Value} {below : List Frame} {meth : Method} {c : Code} {D : va_G} {cy : Nat → ClassId} {A : Nat → Prop}
set_option maxRecDepth 100000 in
set_option maxHeartbeats 4000000 in
theorem tX9_fits_220 {K99 : Option Nat → Int32 → Int32 → Int32 → Int32 → Pool → Prop} {post : Int32 → Pool → Prop} (M : MC p m c cX9_fits 8 s args RX9) (hr : meth.sig.returnType = (some FieldType.boolean)) (hlk : meth.locks = false) (hRf : 0 ≤ R.frames) (hRl : 0 ≤ R.locals) (hRc : 0 ≤ R.cells) (hRs : 0 ≤ R.slots) (hK99 : ∀ (v0 : Option Nat) (v3 : Int32) (v4 : Int32) (v5 : Int32) (v6 : Int32) (S : Pool), K99 v0 v3 v4 v5 v6 S → ∀ (H : Heap) (locs : List Loc) (ls : Array Slot), PB D cy A s S H locs → lv_has ls 8 [(0, va_rf v0), (3, .int v3), (4, .int v4), (5, .int v5), (6, .int v6)] → W p l e R s m args below meth c H locs 0 0 (MQ below (va_Qi post (PQ D cy A) A) args s 0 0 A) (F0 m 99 ls [])) : ∀ (v0 : Option Nat) (v3 : Int32) (v4 : Int32) (v5 : Int32) (v6 : Int32) (S : Pool), wX9_fits_220 K99 post v0 v3 v4 v5 v6 S → ∀ (H : Heap) (locs : List Loc) (ls : Array Slot), PB D cy A s S H locs → lv_has ls 8 [(0, va_rf v0), (3, .int v3), (4, .int v4), (5, .int v5), (6, .int v6)] → W p l e R s m args below meth c H locs 0 0 (MQ below (va_Qi post (PQ D cy A) A) args s 0 0 A) (F0 m 220 ls []) := by
  intro v0 v3 v4 v5 v6 S h H locs ls B hl
  unfold wX9_fits_220 at h
  refine lv_iinc (v := v6 + 1) (lv' := [(6, .int (v6 + 1)), (0, va_rf v0), (3, .int v3), (4, .int v4), (5, .int v5)]) M.1 M.2.1 dX9_fits_220 hl (k := 4) rfl (by rfl) (by decide) (fl_e (fl_k rfl rfl (fl_k rfl rfl (fl_k rfl rfl (fl_i rfl (fl_d rfl fl_0)))))) (fun ls hl => ?_)
  refine lv_goto (tgt := 99) M.1 M.2.1 dX9_fits_223 (by decide) ?_
  exact hK99 _ _ _ _ _ _ h _ _ _ B (lv_sub hl [1, 2, 3, 4, 0] rfl)
set_option maxRecDepth 100000 in
set_option maxHeartbeats 4000000 in
theorem tX9_fits_195 {K99 : Option Nat → Int32 → Int32 → Int32 → Int32 → Pool → Prop} {post : Int32 → Pool → Prop} (M : MC p m c cX9_fits 8 s args RX9) (hr : meth.sig.returnType = (some FieldType.boolean)) (hlk : meth.locks = false) (hRf : 0 ≤ R.frames) (hRl : 0 ≤ R.locals) (hRc : 0 ≤ R.cells) (hRs : 0 ≤ R.slots) (hK99 : ∀ (v0 : Option Nat) (v3 : Int32) (v4 : Int32) (v5 : Int32) (v6 : Int32) (S : Pool), K99 v0 v3 v4 v5 v6 S → ∀ (H : Heap) (locs : List Loc) (ls : Array Slot), PB D cy A s S H locs → lv_has ls 8 [(0, va_rf v0), (3, .int v3), (4, .int v4), (5, .int v5), (6, .int v6)] → W p l e R s m args below meth c H locs 0 0 (MQ below (va_Qi post (PQ D cy A) A) args s 0 0 A) (F0 m 99 ls [])) : ∀ (v0 : Option Nat) (v3 : Int32) (v4 : Int32) (v5 : Int32) (v6 : Int32) (z0 : Int32) (S : Pool), wX9_fits_195 K99 post v0 v3 v4 v5 v6 z0 S → ∀ (H : Heap) (locs : List Loc) (ls : Array Slot), PB D cy A s S H locs → lv_has ls 8 [(0, va_rf v0), (3, .int v3), (4, .int v4), (5, .int v5), (6, .int v6)] → W p l e R s m args below meth c H locs 0 0 (MQ below (va_Qi post (PQ D cy A) A) args s 0 0 A) (F0 m 195 ls [.int z0]) := by
  intro v0 v3 v4 v5 v6 z0 S h H locs ls B hl
  unfold wX9_fits_195 at h
  refine lv_istore (lv' := [(7, .int z0), (0, va_rf v0), (3, .int v3), (4, .int v4), (5, .int v5), (6, .int v6)]) M.1 M.2.1 dX9_fits_195 hl (by decide) (fl_e (fl_k rfl rfl (fl_k rfl rfl (fl_k rfl rfl (fl_k rfl rfl (fl_i rfl fl_0)))))) (fun ls hl => ?_)
  refine lv_iload M.1 M.2.1 dX9_fits_197 (lv_at hl 0 rfl) ?_
  refine lv_if_eq (tgt := 220) M.1 M.2.1 dX9_fits_199 (by decide) (fun c1 => ?_) (fun c1 => ?_)
  · have h := h.1 c1
    exact tX9_fits_220 M hr hlk hRf hRl hRc hRs hK99 _ _ _ _ _ _ h _ _ _ B (lv_sub hl [1, 2, 3, 4, 5] rfl)
  · have h := h.2 c1
    refine g_aload_n M dX9_fits_202 rfl (lv_at hl 1 rfl) ?_
    refine gfX9_23 M B dX9_fits_203 h (fun a2 h => ?_)
    refine lv_iload M.1 M.2.1 dX9_fits_206 (lv_at hl 5 rfl) ?_
    refine g_iald M B dX9_fits_208 h (fun a3 h => ?_)
    refine g_aload_n M dX9_fits_209 rfl (lv_at hl 1 rfl) ?_
    refine gfX9_23 M B dX9_fits_210 h (fun a4 h => ?_)
    refine lv_iload_n M.1 M.2.1 dX9_fits_213 rfl (lv_at hl 2 rfl) ?_
    refine g_iald M B dX9_fits_214 h (fun a5 h => ?_)
    refine lv_icmp_ge (tgt := 220) M.1 M.2.1 dX9_fits_215 (by decide) (fun c6 => ?_) (fun c6 => ?_)
    · have h := h.1 c6
      exact tX9_fits_220 M hr hlk hRf hRl hRc hRs hK99 _ _ _ _ _ _ h _ _ _ B (lv_sub hl [1, 2, 3, 4, 5] rfl)
    · have h := h.2 c6
      refine lv_iconst (v := 0) M.1 M.2.1 dX9_fits_218 (by decide) ?_
      exact g_zret M B hr hlk h (by decide) (by decide) dX9_fits_219
set_option maxRecDepth 100000 in
set_option maxHeartbeats 4000000 in
theorem tX9_fits_194 {K99 : Option Nat → Int32 → Int32 → Int32 → Int32 → Pool → Prop} {post : Int32 → Pool → Prop} (M : MC p m c cX9_fits 8 s args RX9) (hr : meth.sig.returnType = (some FieldType.boolean)) (hlk : meth.locks = false) (hRf : 0 ≤ R.frames) (hRl : 0 ≤ R.locals) (hRc : 0 ≤ R.cells) (hRs : 0 ≤ R.slots) (hK99 : ∀ (v0 : Option Nat) (v3 : Int32) (v4 : Int32) (v5 : Int32) (v6 : Int32) (S : Pool), K99 v0 v3 v4 v5 v6 S → ∀ (H : Heap) (locs : List Loc) (ls : Array Slot), PB D cy A s S H locs → lv_has ls 8 [(0, va_rf v0), (3, .int v3), (4, .int v4), (5, .int v5), (6, .int v6)] → W p l e R s m args below meth c H locs 0 0 (MQ below (va_Qi post (PQ D cy A) A) args s 0 0 A) (F0 m 99 ls [])) : ∀ (v0 : Option Nat) (v3 : Int32) (v4 : Int32) (v5 : Int32) (v6 : Int32) (S : Pool), wX9_fits_194 K99 post v0 v3 v4 v5 v6 S → ∀ (H : Heap) (locs : List Loc) (ls : Array Slot), PB D cy A s S H locs → lv_has ls 8 [(0, va_rf v0), (3, .int v3), (4, .int v4), (5, .int v5), (6, .int v6)] → W p l e R s m args below meth c H locs 0 0 (MQ below (va_Qi post (PQ D cy A) A) args s 0 0 A) (F0 m 194 ls []) := by
  intro v0 v3 v4 v5 v6 S h H locs ls B hl
  unfold wX9_fits_194 at h
  refine lv_iconst (v := 0) M.1 M.2.1 dX9_fits_194 (by decide) ?_
  exact tX9_fits_195 M hr hlk hRf hRl hRc hRs hK99 _ _ _ _ _ _ _ h _ _ _ B (lv_sub hl [0, 1, 2, 3, 4] rfl)
set_option maxRecDepth 100000 in
set_option maxHeartbeats 4000000 in
theorem tX9_fits_99 {post : Int32 → Pool → Prop} (M : MC p m c cX9_fits 8 s args RX9) (hr : meth.sig.returnType = (some FieldType.boolean)) (hlk : meth.locks = false) (hRf : 0 ≤ R.frames) (hRl : 0 ≤ R.locals) (hRc : 0 ≤ R.cells) (hRs : 0 ≤ R.slots) : ∀ (n : Nat) (v0 : Option Nat) (v3 : Int32) (v4 : Int32) (v5 : Int32) (v6 : Int32) (S : Pool), wX9_fits_99 post n v0 v3 v4 v5 v6 S → ∀ (H : Heap) (locs : List Loc) (ls : Array Slot), PB D cy A s S H locs → lv_has ls 8 [(0, va_rf v0), (3, .int v3), (4, .int v4), (5, .int v5), (6, .int v6)] → W p l e R s m args below meth c H locs 0 0 (MQ below (va_Qi post (PQ D cy A) A) args s 0 0 A) (F0 m 99 ls []) := by
  intro n
  induction n with
  | zero => intro v0 v3 v4 v5 v6 S h; exact False.elim h
  | succ n ih =>
    intro v0 v3 v4 v5 v6 S h H locs ls B hl
    unfold wX9_fits_99 at h
    refine lv_iload M.1 M.2.1 dX9_fits_99 (lv_at hl 4 rfl) ?_
    refine g_aload_n M dX9_fits_101 rfl (lv_at hl 0 rfl) ?_
    refine gfX9_105 M B dX9_fits_102 h (fun a1 h => ?_)
    refine lv_icmp_ge (tgt := 226) M.1 M.2.1 dX9_fits_105 (by decide) (fun c2 => ?_) (fun c2 => ?_)
    · have h := h.1 c2
      refine lv_iconst (v := 1) M.1 M.2.1 dX9_fits_226 (by decide) ?_
      exact g_zret M B hr hlk h (by decide) (by decide) dX9_fits_227
    · have h := h.2 c2
      refine g_aload_n M dX9_fits_108 rfl (lv_at hl 0 rfl) ?_
      refine gfX9_48 M B dX9_fits_109 h (fun a3 h => ?_)
      refine lv_iload M.1 M.2.1 dX9_fits_112 (lv_at hl 3 rfl) ?_
      refine g_zald M B dX9_fits_114 h (fun a4 h => ?_)
      refine lv_if_eq (tgt := 226) M.1 M.2.1 dX9_fits_115 (by decide) (fun c5 => ?_) (fun c5 => ?_)
      · have h := h.1 c5
        refine lv_iconst (v := 1) M.1 M.2.1 dX9_fits_226 (by decide) ?_
        exact g_zret M B hr hlk h (by decide) (by decide) dX9_fits_227
      · have h := h.2 c5
        refine g_aload_n M dX9_fits_118 rfl (lv_at hl 0 rfl) ?_
        refine gfX9_26 M B dX9_fits_119 h (fun a6 h => ?_)
        refine lv_iload M.1 M.2.1 dX9_fits_122 (lv_at hl 4 rfl) ?_
        refine g_iald M B dX9_fits_124 h (fun a7 h => ?_)
        refine lv_iload M.1 M.2.1 dX9_fits_125 (lv_at hl 2 rfl) ?_
        refine lv_icmp_gt (tgt := 194) M.1 M.2.1 dX9_fits_127 (by decide) (fun c8 => ?_) (fun c8 => ?_)
        · have h := h.1 c8
          exact tX9_fits_194 M hr hlk hRf hRl hRc hRs ih _ _ _ _ _ _ h _ _ _ B (lv_sub hl [0, 1, 2, 3, 4] rfl)
        · have h := h.2 c8
          refine g_aload_n M dX9_fits_130 rfl (lv_at hl 0 rfl) ?_
          refine gfX9_17 M B dX9_fits_131 h (fun a9 h => ?_)
          refine lv_iload M.1 M.2.1 dX9_fits_134 (lv_at hl 4 rfl) ?_
          refine g_iald M B dX9_fits_136 h (fun a10 h => ?_)
          refine g_aload_n M dX9_fits_137 rfl (lv_at hl 0 rfl) ?_
          refine gfX9_17 M B dX9_fits_138 h (fun a11 h => ?_)
          refine lv_iload_n M.1 M.2.1 dX9_fits_141 rfl (lv_at hl 1 rfl) ?_
          refine g_iald M B dX9_fits_142 h (fun a12 h => ?_)
          refine lv_icmp_ne (tgt := 194) M.1 M.2.1 dX9_fits_143 (by decide) (fun c13 => ?_) (fun c13 => ?_)
          · have h := h.2 c13
            exact tX9_fits_194 M hr hlk hRf hRl hRc hRs ih _ _ _ _ _ _ h _ _ _ B (lv_sub hl [0, 1, 2, 3, 4] rfl)
          · have h := h.1 c13
            refine g_aload_n M dX9_fits_146 rfl (lv_at hl 0 rfl) ?_
            refine gfX9_20 M B dX9_fits_147 h (fun a14 h => ?_)
            refine lv_iconst (v := 3) M.1 M.2.1 dX9_fits_150 (by decide) ?_
            refine lv_iload M.1 M.2.1 dX9_fits_151 (lv_at hl 4 rfl) ?_
            refine lv_imul M.1 M.2.1 dX9_fits_153 ?_
            refine g_iald M B dX9_fits_154 h (fun a15 h => ?_)
            refine g_aload_n M dX9_fits_155 rfl (lv_at hl 0 rfl) ?_
            refine gfX9_20 M B dX9_fits_156 h (fun a16 h => ?_)
            refine lv_iconst (v := 3) M.1 M.2.1 dX9_fits_159 (by decide) ?_
            refine lv_iload_n M.1 M.2.1 dX9_fits_160 rfl (lv_at hl 1 rfl) ?_
            refine lv_imul M.1 M.2.1 dX9_fits_161 ?_
            refine g_iald M B dX9_fits_162 h (fun a17 h => ?_)
            refine lv_icmp_ne (tgt := 194) M.1 M.2.1 dX9_fits_163 (by decide) (fun c18 => ?_) (fun c18 => ?_)
            · have h := h.2 c18
              exact tX9_fits_194 M hr hlk hRf hRl hRc hRs ih _ _ _ _ _ _ h _ _ _ B (lv_sub hl [0, 1, 2, 3, 4] rfl)
            · have h := h.1 c18
              refine g_aload_n M dX9_fits_166 rfl (lv_at hl 0 rfl) ?_
              refine gfX9_20 M B dX9_fits_167 h (fun a19 h => ?_)
              refine lv_iconst (v := 3) M.1 M.2.1 dX9_fits_170 (by decide) ?_
              refine lv_iload M.1 M.2.1 dX9_fits_171 (lv_at hl 4 rfl) ?_
              refine lv_imul M.1 M.2.1 dX9_fits_173 ?_
              refine lv_iconst (v := 1) M.1 M.2.1 dX9_fits_174 (by decide) ?_
              refine lv_iadd M.1 M.2.1 dX9_fits_175 ?_
              refine g_iald M B dX9_fits_176 h (fun a20 h => ?_)
              refine g_aload_n M dX9_fits_177 rfl (lv_at hl 0 rfl) ?_
              refine gfX9_20 M B dX9_fits_178 h (fun a21 h => ?_)
              refine lv_iconst (v := 3) M.1 M.2.1 dX9_fits_181 (by decide) ?_
              refine lv_iload_n M.1 M.2.1 dX9_fits_182 rfl (lv_at hl 1 rfl) ?_
              refine lv_imul M.1 M.2.1 dX9_fits_183 ?_
              refine lv_iconst (v := 1) M.1 M.2.1 dX9_fits_184 (by decide) ?_
              refine lv_iadd M.1 M.2.1 dX9_fits_185 ?_
              refine g_iald M B dX9_fits_186 h (fun a22 h => ?_)
              refine lv_icmp_ne (tgt := 194) M.1 M.2.1 dX9_fits_187 (by decide) (fun c23 => ?_) (fun c23 => ?_)
              · have h := h.2 c23
                exact tX9_fits_194 M hr hlk hRf hRl hRc hRs ih _ _ _ _ _ _ h _ _ _ B (lv_sub hl [0, 1, 2, 3, 4] rfl)
              · have h := h.1 c23
                refine lv_iconst (v := 1) M.1 M.2.1 dX9_fits_190 (by decide) ?_
                refine lv_goto (tgt := 195) M.1 M.2.1 dX9_fits_191 (by decide) ?_
                exact tX9_fits_195 M hr hlk hRf hRl hRc hRs ih _ _ _ _ _ _ _ h _ _ _ B (lv_sub hl [0, 1, 2, 3, 4] rfl)
set_option maxRecDepth 100000 in
set_option maxHeartbeats 4000000 in
theorem tX9_fits_90 {K40 : Option Nat → Int32 → Int32 → Int32 → Int32 → Pool → Prop} {post : Int32 → Pool → Prop} (M : MC p m c cX9_fits 8 s args RX9) (hr : meth.sig.returnType = (some FieldType.boolean)) (hlk : meth.locks = false) (hRf : 0 ≤ R.frames) (hRl : 0 ≤ R.locals) (hRc : 0 ≤ R.cells) (hRs : 0 ≤ R.slots) (hK40 : ∀ (v0 : Option Nat) (v3 : Int32) (v4 : Int32) (v5 : Int32) (v6 : Int32) (S : Pool), K40 v0 v3 v4 v5 v6 S → ∀ (H : Heap) (locs : List Loc) (ls : Array Slot), PB D cy A s S H locs → lv_has ls 8 [(0, va_rf v0), (3, .int v3), (4, .int v4), (5, .int v5), (6, .int v6)] → W p l e R s m args below meth c H locs 0 0 (MQ below (va_Qi post (PQ D cy A) A) args s 0 0 A) (F0 m 40 ls [])) : ∀ (v0 : Option Nat) (v3 : Int32) (v4 : Int32) (v5 : Int32) (v6 : Int32) (S : Pool), wX9_fits_90 K40 post v0 v3 v4 v5 v6 S → ∀ (H : Heap) (locs : List Loc) (ls : Array Slot), PB D cy A s S H locs → lv_has ls 8 [(0, va_rf v0), (3, .int v3), (4, .int v4), (5, .int v5), (6, .int v6)] → W p l e R s m args below meth c H locs 0 0 (MQ below (va_Qi post (PQ D cy A) A) args s 0 0 A) (F0 m 90 ls []) := by
  intro v0 v3 v4 v5 v6 S h H locs ls B hl
  unfold wX9_fits_90 at h
  refine lv_iinc (v := v6 + 1) (lv' := [(6, .int (v6 + 1)), (0, va_rf v0), (3, .int v3), (4, .int v4), (5, .int v5)]) M.1 M.2.1 dX9_fits_90 hl (k := 4) rfl (by rfl) (by decide) (fl_e (fl_k rfl rfl (fl_k rfl rfl (fl_k rfl rfl (fl_i rfl (fl_d rfl fl_0)))))) (fun ls hl => ?_)
  refine lv_goto (tgt := 40) M.1 M.2.1 dX9_fits_93 (by decide) ?_
  exact hK40 _ _ _ _ _ _ h _ _ _ B (lv_sub hl [1, 2, 3, 4, 0] rfl)
set_option maxRecDepth 100000 in
set_option maxHeartbeats 4000000 in
theorem tX9_fits_40 {post : Int32 → Pool → Prop} (M : MC p m c cX9_fits 8 s args RX9) (hr : meth.sig.returnType = (some FieldType.boolean)) (hlk : meth.locks = false) (hRf : 0 ≤ R.frames) (hRl : 0 ≤ R.locals) (hRc : 0 ≤ R.cells) (hRs : 0 ≤ R.slots) : ∀ (n : Nat) (v0 : Option Nat) (v3 : Int32) (v4 : Int32) (v5 : Int32) (v6 : Int32) (S : Pool), wX9_fits_40 post n v0 v3 v4 v5 v6 S → ∀ (H : Heap) (locs : List Loc) (ls : Array Slot), PB D cy A s S H locs → lv_has ls 8 [(0, va_rf v0), (3, .int v3), (4, .int v4), (5, .int v5), (6, .int v6)] → W p l e R s m args below meth c H locs 0 0 (MQ below (va_Qi post (PQ D cy A) A) args s 0 0 A) (F0 m 40 ls []) := by
  intro n
  induction n with
  | zero => intro v0 v3 v4 v5 v6 S h; exact False.elim h
  | succ n ih =>
    intro v0 v3 v4 v5 v6 S h H locs ls B hl
    unfold wX9_fits_40 at h
    refine lv_iload M.1 M.2.1 dX9_fits_40 (lv_at hl 4 rfl) ?_
    refine lv_iconst (v := 3) M.1 M.2.1 dX9_fits_42 (by decide) ?_
    refine lv_icmp_ge (tgt := 96) M.1 M.2.1 dX9_fits_43 (by decide) (fun c1 => ?_) (fun c1 => ?_)
    · have h := h.1 c1
      refine lv_iconst (v := 0) M.1 M.2.1 dX9_fits_96 (by decide) ?_
      refine lv_istore (lv' := [(6, .int 0), (0, va_rf v0), (3, .int v3), (4, .int v4), (5, .int v5)]) M.1 M.2.1 dX9_fits_97 hl (by decide) (fl_e (fl_k rfl rfl (fl_k rfl rfl (fl_k rfl rfl (fl_i rfl (fl_d rfl fl_0)))))) (fun ls hl => ?_)
      obtain ⟨n1, h⟩ := h
      exact tX9_fits_99 M hr hlk hRf hRl hRc hRs n1 _ _ _ _ _ _ h _ _ _ B (lv_sub hl [1, 2, 3, 4, 0] rfl)
    · have h := h.2 c1
      refine g_aload_n M dX9_fits_46 rfl (lv_at hl 0 rfl) ?_
      refine gfX9_45 M B dX9_fits_47 h (fun a2 h => ?_)
      refine lv_iconst (v := 3) M.1 M.2.1 dX9_fits_50 (by decide) ?_
      refine lv_iload M.1 M.2.1 dX9_fits_51 (lv_at hl 3 rfl) ?_
      refine lv_imul M.1 M.2.1 dX9_fits_53 ?_
      refine lv_iload M.1 M.2.1 dX9_fits_54 (lv_at hl 4 rfl) ?_
      refine lv_iadd M.1 M.2.1 dX9_fits_56 ?_
      refine g_iald M B dX9_fits_57 h (fun a3 h => ?_)
      refine lv_iconst (v := (-1)) M.1 M.2.1 dX9_fits_58 (by decide) ?_
      refine lv_icmp_eq (tgt := 90) M.1 M.2.1 dX9_fits_59 (by decide) (fun c4 => ?_) (fun c4 => ?_)
      · have h := h.1 c4
        exact tX9_fits_90 M hr hlk hRf hRl hRc hRs ih _ _ _ _ _ _ h _ _ _ B (lv_sub hl [0, 1, 2, 3, 4] rfl)
      · have h := h.2 c4
        refine g_aload_n M dX9_fits_62 rfl (lv_at hl 0 rfl) ?_
        refine gfX9_45 M B dX9_fits_63 h (fun a5 h => ?_)
        refine lv_iconst (v := 3) M.1 M.2.1 dX9_fits_66 (by decide) ?_
        refine lv_iload M.1 M.2.1 dX9_fits_67 (lv_at hl 3 rfl) ?_
        refine lv_imul M.1 M.2.1 dX9_fits_69 ?_
        refine lv_iload M.1 M.2.1 dX9_fits_70 (lv_at hl 4 rfl) ?_
        refine lv_iadd M.1 M.2.1 dX9_fits_72 ?_
        refine g_iald M B dX9_fits_73 h (fun a6 h => ?_)
        refine g_aload_n M dX9_fits_74 rfl (lv_at hl 0 rfl) ?_
        refine gfX9_20 M B dX9_fits_75 h (fun a7 h => ?_)
        refine lv_iconst (v := 3) M.1 M.2.1 dX9_fits_78 (by decide) ?_
        refine lv_iload_n M.1 M.2.1 dX9_fits_79 rfl (lv_at hl 1 rfl) ?_
        refine lv_imul M.1 M.2.1 dX9_fits_80 ?_
        refine lv_iload M.1 M.2.1 dX9_fits_81 (lv_at hl 4 rfl) ?_
        refine lv_iadd M.1 M.2.1 dX9_fits_83 ?_
        refine g_iald M B dX9_fits_84 h (fun a8 h => ?_)
        refine lv_icmp_eq (tgt := 90) M.1 M.2.1 dX9_fits_85 (by decide) (fun c9 => ?_) (fun c9 => ?_)
        · have h := h.1 c9
          exact tX9_fits_90 M hr hlk hRf hRl hRc hRs ih _ _ _ _ _ _ h _ _ _ B (lv_sub hl [0, 1, 2, 3, 4] rfl)
        · have h := h.2 c9
          refine lv_iconst (v := 0) M.1 M.2.1 dX9_fits_88 (by decide) ?_
          exact g_zret M B hr hlk h (by decide) (by decide) dX9_fits_89
set_option maxRecDepth 100000 in
set_option maxHeartbeats 4000000 in
theorem tX9_fits {post : Int32 → Pool → Prop} (M : MC p m c cX9_fits 8 s args RX9) (hr : meth.sig.returnType = (some FieldType.boolean)) (hlk : meth.locks = false) (hRf : 0 ≤ R.frames) (hRl : 0 ≤ R.locals) (hRc : 0 ≤ R.cells) (hRs : 0 ≤ R.slots) : ∀ (v0 : Option Nat) (v1 : Int32) (v2 : Int32) (v3 : Int32) (v4 : Int32) (S : Pool), wX9_fits post v0 v1 v2 v3 v4 S → ∀ (H : Heap) (locs : List Loc) (ls : Array Slot), PB D cy A s S H locs → lv_has ls 8 [(0, va_rf v0), (1, .int v1), (2, .int v2), (3, .int v3), (4, .int v4)] → W p l e R s m args below meth c H locs 0 0 (MQ below (va_Qi post (PQ D cy A) A) args s 0 0 A) (F0 m 0 ls []) := by
  intro v0 v1 v2 v3 v4 S h H locs ls B hl
  unfold wX9_fits at h
  refine lv_bipush (v := 6) M.1 M.2.1 dX9_fits_0 (by decide) ?_
  refine lv_iload_n M.1 M.2.1 dX9_fits_2 rfl (lv_at hl 1 rfl) ?_
  refine lv_imul M.1 M.2.1 dX9_fits_3 ?_
  refine lv_iload_n M.1 M.2.1 dX9_fits_4 rfl (lv_at hl 2 rfl) ?_
  refine lv_iadd M.1 M.2.1 dX9_fits_5 ?_
  refine lv_istore (lv' := [(5, .int (((6 : Int32) * v1) + v2)), (0, va_rf v0), (1, .int v1), (2, .int v2), (3, .int v3), (4, .int v4)]) M.1 M.2.1 dX9_fits_6 hl (by decide) (fl_e (fl_k rfl rfl (fl_k rfl rfl (fl_k rfl rfl (fl_k rfl rfl (fl_i rfl fl_0)))))) (fun ls hl => ?_)
  refine g_aload_n M dX9_fits_8 rfl (lv_at hl 1 rfl) ?_
  refine gfX9_26 M B dX9_fits_9 h (fun a1 h => ?_)
  refine lv_iload_n M.1 M.2.1 dX9_fits_12 rfl (lv_at hl 4 rfl) ?_
  refine g_iald M B dX9_fits_13 h (fun a2 h => ?_)
  refine lv_iload M.1 M.2.1 dX9_fits_14 (lv_at hl 5 rfl) ?_
  refine lv_icmp_gt (tgt := 35) M.1 M.2.1 dX9_fits_16 (by decide) (fun c3 => ?_) (fun c3 => ?_)
  · have h := h.1 c3
    refine lv_iconst (v := 0) M.1 M.2.1 dX9_fits_35 (by decide) ?_
    exact g_zret M B hr hlk h (by decide) (by decide) dX9_fits_36
  · have h := h.2 c3
    refine g_aload_n M dX9_fits_19 rfl (lv_at hl 1 rfl) ?_
    refine gfX9_17 M B dX9_fits_20 h (fun a4 h => ?_)
    refine lv_iload_n M.1 M.2.1 dX9_fits_23 rfl (lv_at hl 4 rfl) ?_
    refine g_iald M B dX9_fits_24 h (fun a5 h => ?_)
    refine g_aload_n M dX9_fits_25 rfl (lv_at hl 1 rfl) ?_
    refine gfX9_42 M B dX9_fits_26 h (fun a6 h => ?_)
    refine lv_iload M.1 M.2.1 dX9_fits_29 (lv_at hl 0 rfl) ?_
    refine g_iald M B dX9_fits_31 h (fun a7 h => ?_)
    refine lv_icmp_eq (tgt := 37) M.1 M.2.1 dX9_fits_32 (by decide) (fun c8 => ?_) (fun c8 => ?_)
    · have h := h.1 c8
      refine lv_iconst (v := 0) M.1 M.2.1 dX9_fits_37 (by decide) ?_
      refine lv_istore (lv' := [(6, .int 0), (5, .int (((6 : Int32) * v1) + v2)), (0, va_rf v0), (1, .int v1), (2, .int v2), (3, .int v3), (4, .int v4)]) M.1 M.2.1 dX9_fits_38 hl (by decide) (fl_e (fl_i rfl (fl_k rfl rfl (fl_k rfl rfl (fl_k rfl rfl (fl_k rfl rfl (fl_k rfl rfl fl_0))))))) (fun ls hl => ?_)
      obtain ⟨n1, h⟩ := h
      exact tX9_fits_40 M hr hlk hRf hRl hRc hRs n1 _ _ _ _ _ _ h _ _ _ B (lv_sub hl [2, 5, 6, 1, 0] rfl)
    · have h := h.2 c8
      refine lv_iconst (v := 0) M.1 M.2.1 dX9_fits_35 (by decide) ?_
      exact g_zret M B hr hlk h (by decide) (by decide) dX9_fits_36
end
set_option maxRecDepth 100000 in
set_option maxHeartbeats 4000000 in
theorem kX9_fits (l : Launch) (D : va_G) (cy : Nat → ClassId) {post : Int32 → Pool → Prop} {v0 : Option Nat} {v1 : Int32} {v2 : Int32} {v3 : Int32} {v4 : Int32} {S : Pool} (h : wX9_fits post v0 v1 v2 v3 v4 S) : MetI l yX9_fits cX9_fits 8 (some FieldType.boolean) rmX9_fits [va_rf v0, .int v1, .int v2, .int v3, .int v4] D cy S post := by
  intro sz
  refine Met.ofW (cc := cX9_fits) (maxL := 8) (ret := (some FieldType.boolean)) (by decide) rfl ?_
  intro p e s m args below meth c s₁ B0 hml hv
  obtain ⟨rfl, hpp⟩ := hv
  have hts := atoms_spec (ws := .code yX9_fits cX9_fits 8 (some FieldType.boolean) :: Gw) B0.pre
  obtain rfl : s.heap.size = sz := hpp.1
  have hl := lv_entry [va_rf v0, .int v1, .int v2, .int v3, .int v4] (n := 8) (by rw [sl_r, sl_i, sl_i, sl_i, sl_i, sl_0]; decide)
  rw [lg_entry_eq]
  rw [la_r, la_i, la_i, la_i, la_i, la_0] at hl
  exact tX9_fits (l := l) (R := rmX9_fits) ⟨B0.exec, B0.bytes, hml, findClass_of_methodNamed B0.named, fun w hw => hts w (List.mem_cons_of_mem _ hw)⟩ B0.returns B0.notSynchronized (Nat.le_refl _) (Nat.le_refl _) (Nat.le_refl _) (Nat.le_refl _) _ _ _ _ _ _ h _ _ _ hpp.pb (lv_sub hl [0, 1, 2, 3, 4] rfl)
-- X9_value: LogHuntModel.value(II)I
def wX9_value (post : Int32 → Pool → Prop) (v0 : Option Nat) (v1 : Int32) (v2 : Int32) (S : Pool) : Prop := xR S v0 9 7 fun a1 => xR S v0 9 12 fun a2 => xaI S a2 10 v1 fun a3 => xaI S a1 10 (((3 : Int32) * v2) + a3) fun a4 => post a4 S
def rmX9_value : Room := { frames := 0, cells := 0, slots := 0, locals := 0 }
section
variable {p : Program} {l : Launch} {e : Env} {R : Room} {s : State} {m : MethodId} {args : Array Value} {below : List Frame} {meth : Method} {c : Code} {D : va_G} {cy : Nat → ClassId} {A : Nat → Prop}
set_option maxRecDepth 100000 in
set_option maxHeartbeats 4000000 in
theorem tX9_value {post : Int32 → Pool → Prop} (M : MC p m c cX9_value 3 s args RX9) (hr : meth.sig.returnType = (some FieldType.int)) (hlk : meth.locks = false) (hRf : 0 ≤ R.frames) (hRl : 0 ≤ R.locals) (hRc : 0 ≤ R.cells) (hRs : 0 ≤ R.slots) : ∀ (v0 : Option Nat) (v1 : Int32) (v2 : Int32) (S : Pool), wX9_value post v0 v1 v2 S → ∀ (H : Heap) (locs : List Loc) (ls : Array Slot), PB D cy A s S H locs → lv_has ls 3 [(0, va_rf v0), (1, .int v1), (2, .int v2)] → W p l e R s m args below meth c H locs 0 0 (MQ below (va_Qi post (PQ D cy A) A) args s 0 0 A) (F0 m 0 ls []) := by
  intro v0 v1 v2 S h H locs ls B hl
  unfold wX9_value at h
  refine g_aload_n M dX9_value_0 rfl (lv_at hl 0 rfl) ?_
  refine gfX9_20 M B dX9_value_1 h (fun a1 h => ?_)
  refine lv_iconst (v := 3) M.1 M.2.1 dX9_value_4 (by decide) ?_
  refine lv_iload_n M.1 M.2.1 dX9_value_5 rfl (lv_at hl 2 rfl) ?_
  refine lv_imul M.1 M.2.1 dX9_value_6 ?_
  refine g_aload_n M dX9_value_7 rfl (lv_at hl 0 rfl) ?_
  refine gfX9_32 M B dX9_value_8 h (fun a2 h => ?_)
  refine lv_iload_n M.1 M.2.1 dX9_value_11 rfl (lv_at hl 1 rfl) ?_
  refine g_iald M B dX9_value_12 h (fun a3 h => ?_)
  refine lv_iadd M.1 M.2.1 dX9_value_13 ?_
  refine g_iald M B dX9_value_14 h (fun a4 h => ?_)
  exact g_iret M B hr hlk h (by decide) (by decide) dX9_value_15
end
set_option maxRecDepth 100000 in
set_option maxHeartbeats 4000000 in
theorem kX9_value (l : Launch) (D : va_G) (cy : Nat → ClassId) {post : Int32 → Pool → Prop} {v0 : Option Nat} {v1 : Int32} {v2 : Int32} {S : Pool} (h : wX9_value post v0 v1 v2 S) : MetI l yX9_value cX9_value 3 (some FieldType.int) rmX9_value [va_rf v0, .int v1, .int v2] D cy S post := by
  intro sz
  refine Met.ofW (cc := cX9_value) (maxL := 3) (ret := (some FieldType.int)) (by decide) rfl ?_
  intro p e s m args below meth c s₁ B0 hml hv
  obtain ⟨rfl, hpp⟩ := hv
  have hts := atoms_spec (ws := .code yX9_value cX9_value 3 (some FieldType.int) :: Gw) B0.pre
  obtain rfl : s.heap.size = sz := hpp.1
  have hl := lv_entry [va_rf v0, .int v1, .int v2] (n := 3) (by rw [sl_r, sl_i, sl_i, sl_0]; decide)
  rw [lg_entry_eq]
  rw [la_r, la_i, la_i, la_0] at hl
  exact tX9_value (l := l) (R := rmX9_value) ⟨B0.exec, B0.bytes, hml, findClass_of_methodNamed B0.named, fun w hw => hts w (List.mem_cons_of_mem _ hw)⟩ B0.returns B0.notSynchronized (Nat.le_refl _) (Nat.le_refl _) (Nat.le_refl _) (Nat.le_refl _) _ _ _ _ h _ _ _ hpp.pb (lv_sub hl [0, 1, 2] rfl)
-- X9_before: LogHuntModel.before(II)I
def wX9_before_4 (post : Int32 → Pool → Prop) : Nat → Option Nat → Int32 → Int32 → Pool → Prop
  | 0 => fun _ _ _ _ => False
  | n + 1 => fun v0 v1 v3 S => br (v3 < 0) (post v3 S) (xR S v0 9 14 fun a2 => xaI S a2 11 (((6 : Int32) * v1) + v3) fun a3 => br (a3 = 0) (post v3 S) (wX9_before_4 post n v0 v1 (v3 + (-1)) S))
def wX9_before (post : Int32 → Pool → Prop) (v0 : Option Nat) (v1 : Int32) (v2 : Int32) (S : Pool) : Prop := ∃ n1, wX9_before_4 post n1 v0 v1 (v2 - 1) S
def rmX9_before : Room := { frames := 0, cells := 0, slots := 0, locals := 0 }
section
variable {p : Program} {l : Launch} {e : Env} {R : Room} {s : State} {m : MethodId} {args : Array Value} {below : List Frame} {meth : Method} {c : Code} {D : va_G} {cy : Nat → ClassId} {A : Nat → Prop}
set_option maxRecDepth 100000 in
set_option maxHeartbeats 4000000 in
theorem tX9_before_4 {post : Int32 → Pool → Prop} (M : MC p m c cX9_before 4 s args RX9) (hr : meth.sig.returnType = (some FieldType.int)) (hlk : meth.locks = false) (hRf : 0 ≤ R.frames) (hRl : 0 ≤ R.locals) (hRc : 0 ≤ R.cells) (hRs : 0 ≤ R.slots) : ∀ (n : Nat) (v0 : Option Nat) (v1 : Int32) (v3 : Int32) (S : Pool), wX9_before_4 post n v0 v1 v3 S → ∀ (H : Heap) (locs : List Loc) (ls : Array Slot), PB D cy A s S H locs → lv_has ls 4 [(0, va_rf v0), (1, .int v1), (3, .int v3)] → W p l e R s m args below meth c H locs 0 0 (MQ below (va_Qi post (PQ D cy A) A) args s 0 0 A) (F0 m 4 ls []) := by
  intro n
  induction n with
  | zero => intro v0 v1 v3 S h; exact False.elim h
  | succ n ih =>
    intro v0 v1 v3 S h H locs ls B hl
    unfold wX9_before_4 at h
    refine lv_iload_n M.1 M.2.1 dX9_before_4 rfl (lv_at hl 2 rfl) ?_
    refine lv_if_lt (tgt := 28) M.1 M.2.1 dX9_before_5 (by decide) (fun c1 => ?_) (fun c1 => ?_)
    · have h := h.1 c1
      refine lv_iload_n M.1 M.2.1 dX9_before_28 rfl (lv_at hl 2 rfl) ?_
      exact g_iret M B hr hlk h (by decide) (by decide) dX9_before_29
    · have h := h.2 c1
      refine g_aload_n M dX9_before_8 rfl (lv_at hl 0 rfl) ?_
      refine gfX9_38 M B dX9_before_9 h (fun a2 h => ?_)
      refine lv_bipush (v := 6) M.1 M.2.1 dX9_before_12 (by decide) ?_
      refine lv_iload_n M.1 M.2.1 dX9_before_14 rfl (lv_at hl 1 rfl) ?_
      refine lv_imul M.1 M.2.1 dX9_before_15 ?_
      refine lv_iload_n M.1 M.2.1 dX9_before_16 rfl (lv_at hl 2 rfl) ?_
      refine lv_iadd M.1 M.2.1 dX9_before_17 ?_
      refine g_zald M B dX9_before_18 h (fun a3 h => ?_)
      refine lv_if_eq (tgt := 28) M.1 M.2.1 dX9_before_19 (by decide) (fun c4 => ?_) (fun c4 => ?_)
      · have h := h.1 c4
        refine lv_iload_n M.1 M.2.1 dX9_before_28 rfl (lv_at hl 2 rfl) ?_
        exact g_iret M B hr hlk h (by decide) (by decide) dX9_before_29
      · have h := h.2 c4
        refine lv_iinc (v := v3 + (-1)) (lv' := [(3, .int (v3 + (-1))), (0, va_rf v0), (1, .int v1)]) M.1 M.2.1 dX9_before_22 hl (k := 2) rfl (by rfl) (by decide) (fl_e (fl_k rfl rfl (fl_k rfl rfl (fl_d rfl fl_0)))) (fun ls hl => ?_)
        refine lv_goto (tgt := 4) M.1 M.2.1 dX9_before_25 (by decide) ?_
        exact ih _ _ _ _ h _ _ _ B (lv_sub hl [1, 2, 0] rfl)
set_option maxRecDepth 100000 in
set_option maxHeartbeats 4000000 in
theorem tX9_before {post : Int32 → Pool → Prop} (M : MC p m c cX9_before 4 s args RX9) (hr : meth.sig.returnType = (some FieldType.int)) (hlk : meth.locks = false) (hRf : 0 ≤ R.frames) (hRl : 0 ≤ R.locals) (hRc : 0 ≤ R.cells) (hRs : 0 ≤ R.slots) : ∀ (v0 : Option Nat) (v1 : Int32) (v2 : Int32) (S : Pool), wX9_before post v0 v1 v2 S → ∀ (H : Heap) (locs : List Loc) (ls : Array Slot), PB D cy A s S H locs → lv_has ls 4 [(0, va_rf v0), (1, .int v1), (2, .int v2)] → W p l e R s m args below meth c H locs 0 0 (MQ below (va_Qi post (PQ D cy A) A) args s 0 0 A) (F0 m 0 ls []) := by
  intro v0 v1 v2 S h H locs ls B hl
  unfold wX9_before at h
  refine lv_iload_n M.1 M.2.1 dX9_before_0 rfl (lv_at hl 2 rfl) ?_
  refine lv_iconst (v := 1) M.1 M.2.1 dX9_before_1 (by decide) ?_
  refine lv_isub M.1 M.2.1 dX9_before_2 ?_
  refine lv_istore_n (lv' := [(3, .int (v2 - 1)), (0, va_rf v0), (1, .int v1), (2, .int v2)]) M.1 M.2.1 dX9_before_3 rfl hl (by decide) (fl_e (fl_k rfl rfl (fl_k rfl rfl (fl_i rfl fl_0)))) (fun ls hl => ?_)
  obtain ⟨n1, h⟩ := h
  exact tX9_before_4 M hr hlk hRf hRl hRc hRs n1 _ _ _ _ h _ _ _ B (lv_sub hl [1, 2, 0] rfl)
end
set_option maxRecDepth 100000 in
set_option maxHeartbeats 4000000 in
theorem kX9_before (l : Launch) (D : va_G) (cy : Nat → ClassId) {post : Int32 → Pool → Prop} {v0 : Option Nat} {v1 : Int32} {v2 : Int32} {S : Pool} (h : wX9_before post v0 v1 v2 S) : MetI l yX9_before cX9_before 4 (some FieldType.int) rmX9_before [va_rf v0, .int v1, .int v2] D cy S post := by
  intro sz
  refine Met.ofW (cc := cX9_before) (maxL := 4) (ret := (some FieldType.int)) (by decide) rfl ?_
  intro p e s m args below meth c s₁ B0 hml hv
  obtain ⟨rfl, hpp⟩ := hv
  have hts := atoms_spec (ws := .code yX9_before cX9_before 4 (some FieldType.int) :: Gw) B0.pre
  obtain rfl : s.heap.size = sz := hpp.1
  have hl := lv_entry [va_rf v0, .int v1, .int v2] (n := 4) (by rw [sl_r, sl_i, sl_i, sl_0]; decide)
  rw [lg_entry_eq]
  rw [la_r, la_i, la_i, la_0] at hl
  exact tX9_before (l := l) (R := rmX9_before) ⟨B0.exec, B0.bytes, hml, findClass_of_methodNamed B0.named, fun w hw => hts w (List.mem_cons_of_mem _ hw)⟩ B0.returns B0.notSynchronized (Nat.le_refl _) (Nat.le_refl _) (Nat.le_refl _) (Nat.le_refl _) _ _ _ _ h _ _ _ hpp.pb (lv_sub hl [0, 1, 2] rfl)
-- X9_leads: LogHuntModel.leads(IIIII)Z
def wX9_leads_166 (K78 : Option Nat → Int32 → Int32 → Int32 → Int32 → Int32 → Pool → Prop) (K88 : Option Nat → Int32 → Int32 → Int32 → Int32 → Int32 → Int32 → Pool → Prop) (post : Int32 → Pool → Prop) (v0 : Option Nat) (v1 : Int32) (v3 : Int32) (v4 : Int32) (v5 : Int32) (v7 : Int32) (v8 : Int32) (S : Pool) : Prop := K88 v0 v1 v3 v4 v5 v7 (v8 + 1) S
def wX9_leads_88 (K78 : Option Nat → Int32 → Int32 → Int32 → Int32 → Int32 → Pool → Prop) (post : Int32 → Pool → Prop) : Nat → Option Nat → Int32 → Int32 → Int32 → Int32 → Int32 → Int32 → Pool → Prop
  | 0 => fun _ _ _ _ _ _ _ _ => False
  | n + 1 => fun v0 v1 v3 v4 v5 v7 v8 S => xI S v0 9 4 fun a1 => br (a1 ≤ v8) (K78 v0 v1 v3 v4 v5 (v7 + 1) S) (xR S v0 9 33 fun a3 => xaI S a3 11 (((250 : Int32) * v7) + v8) fun a4 => br (a4 = 0) (wX9_leads_166 K78 (wX9_leads_88 K78 post n) post v0 v1 v3 v4 v5 v7 v8 S) (xrc S v0 9 (wX9_value (fun a7 S6 => xrc S6 v0 9 (wX9_value (fun a9 S8 => br (a7 = a9) (xR S8 v0 9 8 fun a11 => xaI S8 a11 10 v8 fun a12 => xR S8 v0 9 8 fun a13 => xaI S8 a13 10 v3 fun a14 => br (a12 ≤ a14) (wX9_leads_166 K78 (wX9_leads_88 K78 post n) post v0 v1 v3 v4 v5 v7 v8 S8) (xR S8 v0 9 8 fun a16 => xaI S8 a16 10 v8 fun a17 => xR S8 v0 9 8 fun a18 => xaI S8 a18 10 v5 fun a19 => br (a19 ≤ a17) (wX9_leads_166 K78 (wX9_leads_88 K78 post n) post v0 v1 v3 v4 v5 v7 v8 S8) (((0 : Int32) = 0 ∨ (0 : Int32) = 1) ∧ post (0 : Int32) S8))) (wX9_leads_166 K78 (wX9_leads_88 K78 post n) post v0 v1 v3 v4 v5 v7 v8 S8)) v0 v1 v5 S6)) v0 v1 v8 S)))
def wX9_leads_78 (post : Int32 → Pool → Prop) : Nat → Option Nat → Int32 → Int32 → Int32 → Int32 → Int32 → Pool → Prop
  | 0 => fun _ _ _ _ _ _ _ => False
  | n + 1 => fun v0 v1 v3 v4 v5 v7 S => br (v4 ≤ v7) (((1 : Int32) = 0 ∨ (1 : Int32) = 1) ∧ post (1 : Int32) S) (∃ n1, wX9_leads_88 (wX9_leads_78 post n) post n1 v0 v1 v3 v4 v5 v7 0 S)
def wX9_leads_73 (post : Int32 → Pool → Prop) (v0 : Option Nat) (v1 : Int32) (v2 : Int32) (v3 : Int32) (v4 : Int32) (v5 : Int32) (S : Pool) : Prop := ∃ n1, wX9_leads_78 post n1 v0 v1 v3 v4 v5 (v2 + 1) S
def wX9_leads (post : Int32 → Pool → Prop) (v0 : Option Nat) (v1 : Int32) (v2 : Int32) (v3 : Int32) (v4 : Int32) (v5 : Int32) (S : Pool) : Prop := xR S v0 9 18 fun a1 => xaI S a1 10 (((6 : Int32) * v1) + v4) fun a2 => xrc S v0 9 (wX9_value (fun a4 S3 => xrc S3 v0 9 (wX9_value (fun a6 S5 => br (a4 = a6) (xR S5 v0 9 8 fun a8 => xaI S5 a8 10 v3 fun a9 => xR S5 v0 9 8 fun a10 => xaI S5 a10 10 v5 fun a11 => br (a11 ≤ a9) (((0 : Int32) = 0 ∨ (0 : Int32) = 1) ∧ post (0 : Int32) S5) (br (a2 = ((-1))) (wX9_leads_73 post v0 v1 v2 v3 v4 v5 S5) (xR S5 v0 9 8 fun a14 => xaI S5 a14 10 v5 fun a15 => xR S5 v0 9 8 fun a16 => xaI S5 a16 10 v3 fun a17 => br ((a15 - a17) ≤ a2) (wX9_leads_73 post v0 v1 v2 v3 v4 v5 S5) (((0 : Int32) = 0 ∨ (0 : Int32) = 1) ∧ post (0 : Int32) S5)))) (((0 : Int32) = 0 ∨ (0 : Int32) = 1) ∧ post (0 : Int32) S5)) v0 v1 v5 S3)) v0 v1 v3 S)
def rmX9_leads : Room := { frames := 1, cells := 0, slots := 0, locals := 22 }
section
variable {p : Program} {l : Launch} {e : Env} {R : Room} {s : State} {m : MethodId} {args : Array Value} {below : List Frame} {meth : Method} {c : Code} {D : va_G} {cy : Nat → ClassId} {A : Nat → Prop}
set_option maxRecDepth 100000 in
set_option maxHeartbeats 4000000 in
theorem tX9_leads_166 {K78 : Option Nat → Int32 → Int32 → Int32 → Int32 → Int32 → Pool → Prop} {K88 : Option Nat → Int32 → Int32 → Int32 → Int32 → Int32 → Int32 → Pool → Prop} {post : Int32 → Pool → Prop} (M : MC p m c cX9_leads 9 s args RX9) (hr : meth.sig.returnType = (some FieldType.boolean)) (hlk : meth.locks = false) (hRf : 1 ≤ R.frames) (hRl : 22 ≤ R.locals) (hRc : 0 ≤ R.cells) (hRs : 0 ≤ R.slots) (hK78 : ∀ (v0 : Option Nat) (v1 : Int32) (v3 : Int32) (v4 : Int32) (v5 : Int32) (v7 : Int32) (S : Pool), K78 v0 v1 v3 v4 v5 v7 S → ∀ (H : Heap) (locs : List Loc) (ls : Array Slot), PB D cy A s S H locs → lv_has ls 9 [(0, va_rf v0), (1, .int v1), (3, .int v3), (4, .int v4), (5, .int v5), (7, .int v7)] → W p l e R s m args below meth c H locs 0 0 (MQ below (va_Qi post (PQ D cy A) A) args s 0 0 A) (F0 m 78 ls [])) (hK88 : ∀ (v0 : Option Nat) (v1 : Int32) (v3 : Int32) (v4 : Int32) (v5 : Int32) (v7 : Int32) (v8 : Int32) (S : Pool), K88 v0 v1 v3 v4 v5 v7 v8 S → ∀ (H : Heap) (locs : List Loc) (ls : Array Slot), PB D cy A s S H locs → lv_has ls 9 [(0, va_rf v0), (1, .int v1), (3, .int v3), (4, .int v4), (5, .int v5), (7, .int v7), (8, .int v8)] → W p l e R s m args below meth c H locs 0 0 (MQ below (va_Qi post (PQ D cy A) A) args s 0 0 A) (F0 m 88 ls [])) : ∀ (v0 : Option Nat) (v1 : Int32) (v3 : Int32) (v4 : Int32) (v5 : Int32) (v7 : Int32) (v8 : Int32) (S : Pool), wX9_leads_166 K78 K88 post v0 v1 v3 v4 v5 v7 v8 S → ∀ (H : Heap) (locs : List Loc) (ls : Array Slot), PB D cy A s S H locs → lv_has ls 9 [(0, va_rf v0), (1, .int v1), (3, .int v3), (4, .int v4), (5, .int v5), (7, .int v7), (8, .int v8)] → W p l e R s m args below meth c H locs 0 0 (MQ below (va_Qi post (PQ D cy A) A) args s 0 0 A) (F0 m 166 ls []) := by
  intro v0 v1 v3 v4 v5 v7 v8 S h H locs ls B hl
  unfold wX9_leads_166 at h
  refine lv_iinc (v := v8 + 1) (lv' := [(8, .int (v8 + 1)), (0, va_rf v0), (1, .int v1), (3, .int v3), (4, .int v4), (5, .int v5), (7, .int v7)]) M.1 M.2.1 dX9_leads_166 hl (k := 6) rfl (by rfl) (by decide) (fl_e (fl_k rfl rfl (fl_k rfl rfl (fl_k rfl rfl (fl_k rfl rfl (fl_k rfl rfl (fl_i rfl (fl_d rfl fl_0)))))))) (fun ls hl => ?_)
  refine lv_goto (tgt := 88) M.1 M.2.1 dX9_leads_169 (by decide) ?_
  exact hK88 _ _ _ _ _ _ _ _ h _ _ _ B (lv_sub hl [1, 2, 3, 4, 5, 6, 0] rfl)
set_option maxRecDepth 100000 in
set_option maxHeartbeats 4000000 in
theorem tX9_leads_88 {K78 : Option Nat → Int32 → Int32 → Int32 → Int32 → Int32 → Pool → Prop} {post : Int32 → Pool → Prop} (M : MC p m c cX9_leads 9 s args RX9) (hr : meth.sig.returnType = (some FieldType.boolean)) (hlk : meth.locks = false) (hRf : 1 ≤ R.frames) (hRl : 22 ≤ R.locals) (hRc : 0 ≤ R.cells) (hRs : 0 ≤ R.slots) (hK78 : ∀ (v0 : Option Nat) (v1 : Int32) (v3 : Int32) (v4 : Int32) (v5 : Int32) (v7 : Int32) (S : Pool), K78 v0 v1 v3 v4 v5 v7 S → ∀ (H : Heap) (locs : List Loc) (ls : Array Slot), PB D cy A s S H locs → lv_has ls 9 [(0, va_rf v0), (1, .int v1), (3, .int v3), (4, .int v4), (5, .int v5), (7, .int v7)] → W p l e R s m args below meth c H locs 0 0 (MQ below (va_Qi post (PQ D cy A) A) args s 0 0 A) (F0 m 78 ls [])) : ∀ (n : Nat) (v0 : Option Nat) (v1 : Int32) (v3 : Int32) (v4 : Int32) (v5 : Int32) (v7 : Int32) (v8 : Int32) (S : Pool), wX9_leads_88 K78 post n v0 v1 v3 v4 v5 v7 v8 S → ∀ (H : Heap) (locs : List Loc) (ls : Array Slot), PB D cy A s S H locs → lv_has ls 9 [(0, va_rf v0), (1, .int v1), (3, .int v3), (4, .int v4), (5, .int v5), (7, .int v7), (8, .int v8)] → W p l e R s m args below meth c H locs 0 0 (MQ below (va_Qi post (PQ D cy A) A) args s 0 0 A) (F0 m 88 ls []) := by
  intro n
  induction n with
  | zero => intro v0 v1 v3 v4 v5 v7 v8 S h; exact False.elim h
  | succ n ih =>
    intro v0 v1 v3 v4 v5 v7 v8 S h H locs ls B hl
    unfold wX9_leads_88 at h
    refine lv_iload M.1 M.2.1 dX9_leads_88 (lv_at hl 6 rfl) ?_
    refine g_aload_n M dX9_leads_90 rfl (lv_at hl 0 rfl) ?_
    refine gfX9_105 M B dX9_leads_91 h (fun a1 h => ?_)
    refine lv_icmp_ge (tgt := 172) M.1 M.2.1 dX9_leads_94 (by decide) (fun c2 => ?_) (fun c2 => ?_)
    · have h := h.1 c2
      refine lv_iinc (v := v7 + 1) (lv' := [(7, .int (v7 + 1)), (0, va_rf v0), (1, .int v1), (3, .int v3), (4, .int v4), (5, .int v5), (8, .int v8)]) M.1 M.2.1 dX9_leads_172 hl (k := 5) rfl (by rfl) (by decide) (fl_e (fl_k rfl rfl (fl_k rfl rfl (fl_k rfl rfl (fl_k rfl rfl (fl_k rfl rfl (fl_d rfl (fl_k rfl rfl fl_0)))))))) (fun ls hl => ?_)
      refine lv_goto (tgt := 78) M.1 M.2.1 dX9_leads_175 (by decide) ?_
      exact hK78 _ _ _ _ _ _ _ h _ _ _ B (lv_sub hl [1, 2, 3, 4, 5, 0] rfl)
    · have h := h.2 c2
      refine g_aload_n M dX9_leads_97 rfl (lv_at hl 0 rfl) ?_
      refine gfX9_78 M B dX9_leads_98 h (fun a3 h => ?_)
      refine lv_sipush (v := 250) M.1 M.2.1 dX9_leads_101 (by decide) ?_
      refine lv_iload M.1 M.2.1 dX9_leads_104 (lv_at hl 5 rfl) ?_
      refine lv_imul M.1 M.2.1 dX9_leads_106 ?_
      refine lv_iload M.1 M.2.1 dX9_leads_107 (lv_at hl 6 rfl) ?_
      refine lv_iadd M.1 M.2.1 dX9_leads_109 ?_
      refine g_zald M B dX9_leads_110 h (fun a4 h => ?_)
      refine lv_if_eq (tgt := 166) M.1 M.2.1 dX9_leads_111 (by decide) (fun c5 => ?_) (fun c5 => ?_)
      · have h := h.1 c5
        exact tX9_leads_166 M hr hlk hRf hRl hRc hRs hK78 ih _ _ _ _ _ _ _ _ h _ _ _ B (lv_sub hl [0, 1, 2, 3, 4, 5, 6] rfl)
      · have h := h.2 c5
        refine g_aload_n M dX9_leads_114 rfl (lv_at hl 0 rfl) ?_
        refine lv_iload_n M.1 M.2.1 dX9_leads_115 rfl (lv_at hl 1 rfl) ?_
        refine lv_iload M.1 M.2.1 dX9_leads_116 (lv_at hl 6 rfl) ?_
        obtain ⟨o1, e1, hL1, hK1, h⟩ := h
        refine g_calli (k1 := 0) (k2 := 0) B (g_runV (n := 2) (As := [.int v1, .int v8]) (rm := rmX9_value) M B e1 (kX9_value (v0 := v0) (v1 := v1) (v2 := v8) l D cy h _) wmX9_205 wiX9_value wsX9_value wnX9 wcdX9_value ⟨rfl, by decide, by decide, by decide +kernel⟩ ⟨Nat.le_trans (by decide) hRf, Nat.le_trans (by decide) hRl⟩ ⟨Nat.le_trans (by decide) hRc, Nat.le_trans (by decide) hRs⟩ hL1 hK1 (by decide) rfl rfl rfl hl.1 rfl ct_0 (by decide) dX9_leads_118) (by decide) (by decide) (fun a7 S6 H locs h B => ?_)
        refine g_aload_n M dX9_leads_121 rfl (lv_at hl 0 rfl) ?_
        refine lv_iload_n M.1 M.2.1 dX9_leads_122 rfl (lv_at hl 1 rfl) ?_
        refine lv_iload M.1 M.2.1 dX9_leads_123 (lv_at hl 4 rfl) ?_
        obtain ⟨o1, e1, hL1, hK1, h⟩ := h
        refine g_calli (k1 := 0) (k2 := 0) B (g_runV (n := 2) (As := [.int v1, .int v5]) (rm := rmX9_value) M B e1 (kX9_value (v0 := v0) (v1 := v1) (v2 := v5) l D cy h _) wmX9_205 wiX9_value wsX9_value wnX9 wcdX9_value ⟨rfl, by decide, by decide, by decide +kernel⟩ ⟨Nat.le_trans (by decide) hRf, Nat.le_trans (by decide) hRl⟩ ⟨Nat.le_trans (by decide) hRc, Nat.le_trans (by decide) hRs⟩ hL1 hK1 (by decide) rfl rfl rfl hl.1 rfl (ct_i ct_0) (by decide) dX9_leads_125) (by decide) (by decide) (fun a9 S8 H locs h B => ?_)
        refine lv_icmp_ne (tgt := 166) M.1 M.2.1 dX9_leads_128 (by decide) (fun c10 => ?_) (fun c10 => ?_)
        · have h := h.2 c10
          exact tX9_leads_166 M hr hlk hRf hRl hRc hRs hK78 ih _ _ _ _ _ _ _ _ h _ _ _ B (lv_sub hl [0, 1, 2, 3, 4, 5, 6] rfl)
        · have h := h.1 c10
          refine g_aload_n M dX9_leads_131 rfl (lv_at hl 0 rfl) ?_
          refine gfX9_23 M B dX9_leads_132 h (fun a11 h => ?_)
          refine lv_iload M.1 M.2.1 dX9_leads_135 (lv_at hl 6 rfl) ?_
          refine g_iald M B dX9_leads_137 h (fun a12 h => ?_)
          refine g_aload_n M dX9_leads_138 rfl (lv_at hl 0 rfl) ?_
          refine gfX9_23 M B dX9_leads_139 h (fun a13 h => ?_)
          refine lv_iload_n M.1 M.2.1 dX9_leads_142 rfl (lv_at hl 2 rfl) ?_
          refine g_iald M B dX9_leads_143 h (fun a14 h => ?_)
          refine lv_icmp_le (tgt := 166) M.1 M.2.1 dX9_leads_144 (by decide) (fun c15 => ?_) (fun c15 => ?_)
          · have h := h.1 c15
            exact tX9_leads_166 M hr hlk hRf hRl hRc hRs hK78 ih _ _ _ _ _ _ _ _ h _ _ _ B (lv_sub hl [0, 1, 2, 3, 4, 5, 6] rfl)
          · have h := h.2 c15
            refine g_aload_n M dX9_leads_147 rfl (lv_at hl 0 rfl) ?_
            refine gfX9_23 M B dX9_leads_148 h (fun a16 h => ?_)
            refine lv_iload M.1 M.2.1 dX9_leads_151 (lv_at hl 6 rfl) ?_
            refine g_iald M B dX9_leads_153 h (fun a17 h => ?_)
            refine g_aload_n M dX9_leads_154 rfl (lv_at hl 0 rfl) ?_
            refine gfX9_23 M B dX9_leads_155 h (fun a18 h => ?_)
            refine lv_iload M.1 M.2.1 dX9_leads_158 (lv_at hl 4 rfl) ?_
            refine g_iald M B dX9_leads_160 h (fun a19 h => ?_)
            refine lv_icmp_ge (tgt := 166) M.1 M.2.1 dX9_leads_161 (by decide) (fun c20 => ?_) (fun c20 => ?_)
            · have h := h.1 c20
              exact tX9_leads_166 M hr hlk hRf hRl hRc hRs hK78 ih _ _ _ _ _ _ _ _ h _ _ _ B (lv_sub hl [0, 1, 2, 3, 4, 5, 6] rfl)
            · have h := h.2 c20
              refine lv_iconst (v := 0) M.1 M.2.1 dX9_leads_164 (by decide) ?_
              exact g_zret M B hr hlk h (by decide) (by decide) dX9_leads_165
set_option maxRecDepth 100000 in
set_option maxHeartbeats 4000000 in
theorem tX9_leads_78 {post : Int32 → Pool → Prop} (M : MC p m c cX9_leads 9 s args RX9) (hr : meth.sig.returnType = (some FieldType.boolean)) (hlk : meth.locks = false) (hRf : 1 ≤ R.frames) (hRl : 22 ≤ R.locals) (hRc : 0 ≤ R.cells) (hRs : 0 ≤ R.slots) : ∀ (n : Nat) (v0 : Option Nat) (v1 : Int32) (v3 : Int32) (v4 : Int32) (v5 : Int32) (v7 : Int32) (S : Pool), wX9_leads_78 post n v0 v1 v3 v4 v5 v7 S → ∀ (H : Heap) (locs : List Loc) (ls : Array Slot), PB D cy A s S H locs → lv_has ls 9 [(0, va_rf v0), (1, .int v1), (3, .int v3), (4, .int v4), (5, .int v5), (7, .int v7)] → W p l e R s m args below meth c H locs 0 0 (MQ below (va_Qi post (PQ D cy A) A) args s 0 0 A) (F0 m 78 ls []) := by
  intro n
  induction n with
  | zero => intro v0 v1 v3 v4 v5 v7 S h; exact False.elim h
  | succ n ih =>
    intro v0 v1 v3 v4 v5 v7 S h H locs ls B hl
    unfold wX9_leads_78 at h
    refine lv_iload M.1 M.2.1 dX9_leads_78 (lv_at hl 5 rfl) ?_
    refine lv_iload M.1 M.2.1 dX9_leads_80 (lv_at hl 3 rfl) ?_
    refine lv_icmp_ge (tgt := 178) M.1 M.2.1 dX9_leads_82 (by decide) (fun c1 => ?_) (fun c1 => ?_)
    · have h := h.1 c1
      refine lv_iconst (v := 1) M.1 M.2.1 dX9_leads_178 (by decide) ?_
      exact g_zret M B hr hlk h (by decide) (by decide) dX9_leads_179
    · have h := h.2 c1
      refine lv_iconst (v := 0) M.1 M.2.1 dX9_leads_85 (by decide) ?_
      refine lv_istore (lv' := [(8, .int 0), (0, va_rf v0), (1, .int v1), (3, .int v3), (4, .int v4), (5, .int v5), (7, .int v7)]) M.1 M.2.1 dX9_leads_86 hl (by decide) (fl_e (fl_k rfl rfl (fl_k rfl rfl (fl_k rfl rfl (fl_k rfl rfl (fl_k rfl rfl (fl_i rfl fl_0))))))) (fun ls hl => ?_)
      obtain ⟨n1, h⟩ := h
      exact tX9_leads_88 M hr hlk hRf hRl hRc hRs ih n1 _ _ _ _ _ _ _ _ h _ _ _ B (lv_sub hl [1, 2, 3, 4, 5, 6, 0] rfl)
set_option maxRecDepth 100000 in
set_option maxHeartbeats 4000000 in
theorem tX9_leads_73 {post : Int32 → Pool → Prop} (M : MC p m c cX9_leads 9 s args RX9) (hr : meth.sig.returnType = (some FieldType.boolean)) (hlk : meth.locks = false) (hRf : 1 ≤ R.frames) (hRl : 22 ≤ R.locals) (hRc : 0 ≤ R.cells) (hRs : 0 ≤ R.slots) : ∀ (v0 : Option Nat) (v1 : Int32) (v2 : Int32) (v3 : Int32) (v4 : Int32) (v5 : Int32) (S : Pool), wX9_leads_73 post v0 v1 v2 v3 v4 v5 S → ∀ (H : Heap) (locs : List Loc) (ls : Array Slot), PB D cy A s S H locs → lv_has ls 9 [(0, va_rf v0), (1, .int v1), (2, .int v2), (3, .int v3), (4, .int v4), (5, .int v5)] → W p l e R s m args below meth c H locs 0 0 (MQ below (va_Qi post (PQ D cy A) A) args s 0 0 A) (F0 m 73 ls []) := by
  intro v0 v1 v2 v3 v4 v5 S h H locs ls B hl
  unfold wX9_leads_73 at h
  refine lv_iload_n M.1 M.2.1 dX9_leads_73 rfl (lv_at hl 2 rfl) ?_
  refine lv_iconst (v := 1) M.1 M.2.1 dX9_leads_74 (by decide) ?_
  refine lv_iadd M.1 M.2.1 dX9_leads_75 ?_
  refine lv_istore (lv' := [(7, .int (v2 + 1)), (0, va_rf v0), (1, .int v1), (2, .int v2), (3, .int v3), (4, .int v4), (5, .int v5)]) M.1 M.2.1 dX9_leads_76 hl (by decide) (fl_e (fl_k rfl rfl (fl_k rfl rfl (fl_k rfl rfl (fl_k rfl rfl (fl_k rfl rfl (fl_k rfl rfl fl_0))))))) (fun ls hl => ?_)
  obtain ⟨n1, h⟩ := h
  exact tX9_leads_78 M hr hlk hRf hRl hRc hRs n1 _ _ _ _ _ _ _ h _ _ _ B (lv_sub hl [1, 2, 4, 5, 6, 0] rfl)
set_option maxRecDepth 100000 in
set_option maxHeartbeats 4000000 in
theorem tX9_leads {post : Int32 → Pool → Prop} (M : MC p m c cX9_leads 9 s args RX9) (hr : meth.sig.returnType = (some FieldType.boolean)) (hlk : meth.locks = false) (hRf : 1 ≤ R.frames) (hRl : 22 ≤ R.locals) (hRc : 0 ≤ R.cells) (hRs : 0 ≤ R.slots) : ∀ (v0 : Option Nat) (v1 : Int32) (v2 : Int32) (v3 : Int32) (v4 : Int32) (v5 : Int32) (S : Pool), wX9_leads post v0 v1 v2 v3 v4 v5 S → ∀ (H : Heap) (locs : List Loc) (ls : Array Slot), PB D cy A s S H locs → lv_has ls 9 [(0, va_rf v0), (1, .int v1), (2, .int v2), (3, .int v3), (4, .int v4), (5, .int v5)] → W p l e R s m args below meth c H locs 0 0 (MQ below (va_Qi post (PQ D cy A) A) args s 0 0 A) (F0 m 0 ls []) := by
  intro v0 v1 v2 v3 v4 v5 S h H locs ls B hl
  unfold wX9_leads at h
  refine g_aload_n M dX9_leads_0 rfl (lv_at hl 0 rfl) ?_
  refine gfX9_51 M B dX9_leads_1 h (fun a1 h => ?_)
  refine lv_bipush (v := 6) M.1 M.2.1 dX9_leads_4 (by decide) ?_
  refine lv_iload_n M.1 M.2.1 dX9_leads_6 rfl (lv_at hl 1 rfl) ?_
  refine lv_imul M.1 M.2.1 dX9_leads_7 ?_
  refine lv_iload M.1 M.2.1 dX9_leads_8 (lv_at hl 4 rfl) ?_
  refine lv_iadd M.1 M.2.1 dX9_leads_10 ?_
  refine g_iald M B dX9_leads_11 h (fun a2 h => ?_)
  refine lv_istore (lv' := [(6, .int a2), (0, va_rf v0), (1, .int v1), (2, .int v2), (3, .int v3), (4, .int v4), (5, .int v5)]) M.1 M.2.1 dX9_leads_12 hl (by decide) (fl_e (fl_k rfl rfl (fl_k rfl rfl (fl_k rfl rfl (fl_k rfl rfl (fl_k rfl rfl (fl_i rfl fl_0))))))) (fun ls hl => ?_)
  refine g_aload_n M dX9_leads_14 rfl (lv_at hl 1 rfl) ?_
  refine lv_iload_n M.1 M.2.1 dX9_leads_15 rfl (lv_at hl 2 rfl) ?_
  refine lv_iload_n M.1 M.2.1 dX9_leads_16 rfl (lv_at hl 4 rfl) ?_
  obtain ⟨o1, e1, hL1, hK1, h⟩ := h
  refine g_calli (k1 := 0) (k2 := 0) B (g_runV (n := 2) (As := [.int v1, .int v3]) (rm := rmX9_value) M B e1 (kX9_value (v0 := v0) (v1 := v1) (v2 := v3) l D cy h _) wmX9_205 wiX9_value wsX9_value wnX9 wcdX9_value ⟨rfl, by decide, by decide, by decide +kernel⟩ ⟨Nat.le_trans (by decide) hRf, Nat.le_trans (by decide) hRl⟩ ⟨Nat.le_trans (by decide) hRc, Nat.le_trans (by decide) hRs⟩ hL1 hK1 (by decide) rfl rfl rfl hl.1 rfl ct_0 (by decide) dX9_leads_17) (by decide) (by decide) (fun a4 S3 H locs h B => ?_)
  refine g_aload_n M dX9_leads_20 rfl (lv_at hl 1 rfl) ?_
  refine lv_iload_n M.1 M.2.1 dX9_leads_21 rfl (lv_at hl 2 rfl) ?_
  refine lv_iload M.1 M.2.1 dX9_leads_22 (lv_at hl 6 rfl) ?_
  obtain ⟨o1, e1, hL1, hK1, h⟩ := h
  refine g_calli (k1 := 0) (k2 := 0) B (g_runV (n := 2) (As := [.int v1, .int v5]) (rm := rmX9_value) M B e1 (kX9_value (v0 := v0) (v1 := v1) (v2 := v5) l D cy h _) wmX9_205 wiX9_value wsX9_value wnX9 wcdX9_value ⟨rfl, by decide, by decide, by decide +kernel⟩ ⟨Nat.le_trans (by decide) hRf, Nat.le_trans (by decide) hRl⟩ ⟨Nat.le_trans (by decide) hRc, Nat.le_trans (by decide) hRs⟩ hL1 hK1 (by decide) rfl rfl rfl hl.1 rfl (ct_i ct_0) (by decide) dX9_leads_24) (by decide) (by decide) (fun a6 S5 H locs h B => ?_)
  refine lv_icmp_ne (tgt := 71) M.1 M.2.1 dX9_leads_27 (by decide) (fun c7 => ?_) (fun c7 => ?_)
  · have h := h.2 c7
    refine lv_iconst (v := 0) M.1 M.2.1 dX9_leads_71 (by decide) ?_
    exact g_zret M B hr hlk h (by decide) (by decide) dX9_leads_72
  · have h := h.1 c7
    refine g_aload_n M dX9_leads_30 rfl (lv_at hl 1 rfl) ?_
    refine gfX9_23 M B dX9_leads_31 h (fun a8 h => ?_)
    refine lv_iload_n M.1 M.2.1 dX9_leads_34 rfl (lv_at hl 4 rfl) ?_
    refine g_iald M B dX9_leads_35 h (fun a9 h => ?_)
    refine g_aload_n M dX9_leads_36 rfl (lv_at hl 1 rfl) ?_
    refine gfX9_23 M B dX9_leads_37 h (fun a10 h => ?_)
    refine lv_iload M.1 M.2.1 dX9_leads_40 (lv_at hl 6 rfl) ?_
    refine g_iald M B dX9_leads_42 h (fun a11 h => ?_)
    refine lv_icmp_ge (tgt := 71) M.1 M.2.1 dX9_leads_43 (by decide) (fun c12 => ?_) (fun c12 => ?_)
    · have h := h.1 c12
      refine lv_iconst (v := 0) M.1 M.2.1 dX9_leads_71 (by decide) ?_
      exact g_zret M B hr hlk h (by decide) (by decide) dX9_leads_72
    · have h := h.2 c12
      refine lv_iload M.1 M.2.1 dX9_leads_46 (lv_at hl 0 rfl) ?_
      refine lv_iconst (v := (-1)) M.1 M.2.1 dX9_leads_48 (by decide) ?_
      refine lv_icmp_eq (tgt := 73) M.1 M.2.1 dX9_leads_49 (by decide) (fun c13 => ?_) (fun c13 => ?_)
      · have h := h.1 c13
        exact tX9_leads_73 M hr hlk hRf hRl hRc hRs _ _ _ _ _ _ _ h _ _ _ B (lv_sub hl [1, 2, 3, 4, 5, 6] rfl)
      · have h := h.2 c13
        refine g_aload_n M dX9_leads_52 rfl (lv_at hl 1 rfl) ?_
        refine gfX9_23 M B dX9_leads_53 h (fun a14 h => ?_)
        refine lv_iload M.1 M.2.1 dX9_leads_56 (lv_at hl 6 rfl) ?_
        refine g_iald M B dX9_leads_58 h (fun a15 h => ?_)
        refine g_aload_n M dX9_leads_59 rfl (lv_at hl 1 rfl) ?_
        refine gfX9_23 M B dX9_leads_60 h (fun a16 h => ?_)
        refine lv_iload_n M.1 M.2.1 dX9_leads_63 rfl (lv_at hl 4 rfl) ?_
        refine g_iald M B dX9_leads_64 h (fun a17 h => ?_)
        refine lv_isub M.1 M.2.1 dX9_leads_65 ?_
        refine lv_iload M.1 M.2.1 dX9_leads_66 (lv_at hl 0 rfl) ?_
        refine lv_icmp_le (tgt := 73) M.1 M.2.1 dX9_leads_68 (by decide) (fun c18 => ?_) (fun c18 => ?_)
        · have h := h.1 c18
          exact tX9_leads_73 M hr hlk hRf hRl hRc hRs _ _ _ _ _ _ _ h _ _ _ B (lv_sub hl [1, 2, 3, 4, 5, 6] rfl)
        · have h := h.2 c18
          refine lv_iconst (v := 0) M.1 M.2.1 dX9_leads_71 (by decide) ?_
          exact g_zret M B hr hlk h (by decide) (by decide) dX9_leads_72
end
set_option maxRecDepth 100000 in
set_option maxHeartbeats 4000000 in
theorem kX9_leads (l : Launch) (D : va_G) (cy : Nat → ClassId) {post : Int32 → Pool → Prop} {v0 : Option Nat} {v1 : Int32} {v2 : Int32} {v3 : Int32} {v4 : Int32} {v5 : Int32} {S : Pool} (h : wX9_leads post v0 v1 v2 v3 v4 v5 S) : MetI l yX9_leads cX9_leads 9 (some FieldType.boolean) rmX9_leads [va_rf v0, .int v1, .int v2, .int v3, .int v4, .int v5] D cy S post := by
  intro sz
  refine Met.ofW (cc := cX9_leads) (maxL := 9) (ret := (some FieldType.boolean)) (by decide) rfl ?_
  intro p e s m args below meth c s₁ B0 hml hv
  obtain ⟨rfl, hpp⟩ := hv
  have hts := atoms_spec (ws := .code yX9_leads cX9_leads 9 (some FieldType.boolean) :: Gw) B0.pre
  obtain rfl : s.heap.size = sz := hpp.1
  have hl := lv_entry [va_rf v0, .int v1, .int v2, .int v3, .int v4, .int v5] (n := 9) (by rw [sl_r, sl_i, sl_i, sl_i, sl_i, sl_i, sl_0]; decide)
  rw [lg_entry_eq]
  rw [la_r, la_i, la_i, la_i, la_i, la_i, la_0] at hl
  exact tX9_leads (l := l) (R := rmX9_leads) ⟨B0.exec, B0.bytes, hml, findClass_of_methodNamed B0.named, fun w hw => hts w (List.mem_cons_of_mem _ hw)⟩ B0.returns B0.notSynchronized (Nat.le_refl _) (Nat.le_refl _) (Nat.le_refl _) (Nat.le_refl _) _ _ _ _ _ _ _ h _ _ _ hpp.pb (lv_sub hl [0, 1, 2, 3, 4, 5] rfl)
-- X9_quietBehind: LogHuntModel.quietBehind(IIII)Z
def wX9_quietBehind_127 (K5 : Option Nat → Int32 → Int32 → Int32 → Int32 → Pool → Prop) (K53 : Option Nat → Int32 → Int32 → Int32 → Int32 → Int64 → Int32 → Pool → Prop) (post : Int32 → Pool → Prop) (v0 : Option Nat) (v1 : Int32) (v3 : Int32) (v4 : Int32) (v5 : Int32) (v6 : Int64) (v8 : Int32) (S : Pool) : Prop := K53 v0 v1 v3 v4 v5 v6 (v8 + 1) S
def wX9_quietBehind_53 (K5 : Option Nat → Int32 → Int32 → Int32 → Int32 → Pool → Prop) (post : Int32 → Pool → Prop) : Nat → Option Nat → Int32 → Int32 → Int32 → Int32 → Int64 → Int32 → Pool → Prop
  | 0 => fun _ _ _ _ _ _ _ _ => False
  | n + 1 => fun v0 v1 v3 v4 v5 v6 v8 S => xI S v0 9 4 fun a1 => br (a1 ≤ v8) (K5 v0 v1 v3 v4 (v5 + 1) S) (xR S v0 9 33 fun a3 => xaI S a3 11 (((250 : Int32) * v5) + v8) fun a4 => br (a4 = 0) (wX9_quietBehind_127 K5 (wX9_quietBehind_53 K5 post n) post v0 v1 v3 v4 v5 v6 v8 S) (xrc S v0 9 (wX9_value (fun a7 S6 => xrc S6 v0 9 (wX9_value (fun a9 S8 => br (a7 = a9) (xR S8 v0 9 8 fun a11 => xaI S8 a11 10 v8 fun a12 => xR S8 v0 9 8 fun a13 => xaI S8 a13 10 v3 fun a14 => br (a12 ≤ a14) (wX9_quietBehind_127 K5 (wX9_quietBehind_53 K5 post n) post v0 v1 v3 v4 v5 v6 v8 S8) (xR S8 v0 9 8 fun a16 => xaI S8 a16 10 v8 fun a17 => br (0 < (lg_cmp (a17.toInt64) v6)) (wX9_quietBehind_127 K5 (wX9_quietBehind_53 K5 post n) post v0 v1 v3 v4 v5 v6 v8 S8) (((0 : Int32) = 0 ∨ (0 : Int32) = 1) ∧ post (0 : Int32) S8))) (wX9_quietBehind_127 K5 (wX9_quietBehind_53 K5 post n) post v0 v1 v3 v4 v5 v6 v8 S8)) v0 v1 v3 S6)) v0 v1 v8 S)))
def wX9_quietBehind_5 (post : Int32 → Pool → Prop) : Nat → Option Nat → Int32 → Int32 → Int32 → Int32 → Pool → Prop
  | 0 => fun _ _ _ _ _ _ => False
  | n + 1 => fun v0 v1 v3 v4 v5 S => xR S v0 9 13 fun a1 => xaI S a1 10 v1 fun a2 => br (a2 ≤ v5) (((1 : Int32) = 0 ∨ (1 : Int32) = 1) ∧ post (1 : Int32) S) (xR S v0 9 8 fun a4 => xaI S a4 10 v3 fun a5 => xR S v0 9 18 fun a6 => xaI S a6 10 (((6 : Int32) * v1) + v5) fun a7 => br (0 ≤ (lg_cmp (v4.toInt64) ((a5.toInt64) + (a7.toInt64)))) (∃ n1, wX9_quietBehind_53 (wX9_quietBehind_5 post n) post n1 v0 v1 v3 v4 v5 ((a5.toInt64) + (a7.toInt64)) 0 S) (((0 : Int32) = 0 ∨ (0 : Int32) = 1) ∧ post (0 : Int32) S))
def wX9_quietBehind (post : Int32 → Pool → Prop) (v0 : Option Nat) (v1 : Int32) (v2 : Int32) (v3 : Int32) (v4 : Int32) (S : Pool) : Prop := ∃ n1, wX9_quietBehind_5 post n1 v0 v1 v3 v4 (v2 + 1) S
def rmX9_quietBehind : Room := { frames := 1, cells := 0, slots := 0, locals := 22 }
section
variable {p : Program} {l : Launch} {e : Env} {R : Room} {s : State} {m : MethodId} {args : Array Value} {below : List Frame} {meth : Method} {c : Code} {D : va_G} {cy : Nat → ClassId} {A : Nat → Prop}
set_option maxRecDepth 100000 in
set_option maxHeartbeats 4000000 in
theorem tX9_quietBehind_127 {K5 : Option Nat → Int32 → Int32 → Int32 → Int32 → Pool → Prop} {K53 : Option Nat → Int32 → Int32 → Int32 → Int32 → Int64 → Int32 → Pool → Prop} {post : Int32 → Pool → Prop} (M : MC p m c cX9_quietBehind 9 s args RX9) (hr : meth.sig.returnType = (some FieldType.boolean)) (hlk : meth.locks = false) (hRf : 1 ≤ R.frames) (hRl : 22 ≤ R.locals) (hRc : 0 ≤ R.cells) (hRs : 0 ≤ R.slots) (hK5 : ∀ (v0 : Option Nat) (v1 : Int32) (v3 : Int32) (v4 : Int32) (v5 : Int32) (S : Pool), K5 v0 v1 v3 v4 v5 S → ∀ (H : Heap) (locs : List Loc) (ls : Array Slot), PB D cy A s S H locs → lv_has ls 9 [(0, va_rf v0), (1, .int v1), (3, .int v3), (4, .int v4), (5, .int v5)] → W p l e R s m args below meth c H locs 0 0 (MQ below (va_Qi post (PQ D cy A) A) args s 0 0 A) (F0 m 5 ls [])) (hK53 : ∀ (v0 : Option Nat) (v1 : Int32) (v3 : Int32) (v4 : Int32) (v5 : Int32) (v6 : Int64) (v8 : Int32) (S : Pool), K53 v0 v1 v3 v4 v5 v6 v8 S → ∀ (H : Heap) (locs : List Loc) (ls : Array Slot), PB D cy A s S H locs → lv_has ls 9 [(0, va_rf v0), (1, .int v1), (3, .int v3), (4, .int v4), (5, .int v5), (6, .long v6), (8, .int v8)] → W p l e R s m args below meth c H locs 0 0 (MQ below (va_Qi post (PQ D cy A) A) args s 0 0 A) (F0 m 53 ls [])) : ∀ (v0 : Option Nat) (v1 : Int32) (v3 : Int32) (v4 : Int32) (v5 : Int32) (v6 : Int64) (v8 : Int32) (S : Pool), wX9_quietBehind_127 K5 K53 post v0 v1 v3 v4 v5 v6 v8 S → ∀ (H : Heap) (locs : List Loc) (ls : Array Slot), PB D cy A s S H locs → lv_has ls 9 [(0, va_rf v0), (1, .int v1), (3, .int v3), (4, .int v4), (5, .int v5), (6, .long v6), (8, .int v8)] → W p l e R s m args below meth c H locs 0 0 (MQ below (va_Qi post (PQ D cy A) A) args s 0 0 A) (F0 m 127 ls []) := by
  intro v0 v1 v3 v4 v5 v6 v8 S h H locs ls B hl
  unfold wX9_quietBehind_127 at h
  refine lv_iinc (v := v8 + 1) (lv' := [(8, .int (v8 + 1)), (0, va_rf v0), (1, .int v1), (3, .int v3), (4, .int v4), (5, .int v5), (6, .long v6)]) M.1 M.2.1 dX9_quietBehind_127 hl (k := 6) rfl (by rfl) (by decide) (fl_e (fl_k rfl rfl (fl_k rfl rfl (fl_k rfl rfl (fl_k rfl rfl (fl_k rfl rfl (fl_k rfl rfl (fl_d rfl fl_0)))))))) (fun ls hl => ?_)
  refine lv_goto (tgt := 53) M.1 M.2.1 dX9_quietBehind_130 (by decide) ?_
  exact hK53 _ _ _ _ _ _ _ _ h _ _ _ B (lv_sub hl [1, 2, 3, 4, 5, 6, 0] rfl)
set_option maxRecDepth 100000 in
set_option maxHeartbeats 4000000 in
theorem tX9_quietBehind_53 {K5 : Option Nat → Int32 → Int32 → Int32 → Int32 → Pool → Prop} {post : Int32 → Pool → Prop} (M : MC p m c cX9_quietBehind 9 s args RX9) (hr : meth.sig.returnType = (some FieldType.boolean)) (hlk : meth.locks = false) (hRf : 1 ≤ R.frames) (hRl : 22 ≤ R.locals) (hRc : 0 ≤ R.cells) (hRs : 0 ≤ R.slots) (hK5 : ∀ (v0 : Option Nat) (v1 : Int32) (v3 : Int32) (v4 : Int32) (v5 : Int32) (S : Pool), K5 v0 v1 v3 v4 v5 S → ∀ (H : Heap) (locs : List Loc) (ls : Array Slot), PB D cy A s S H locs → lv_has ls 9 [(0, va_rf v0), (1, .int v1), (3, .int v3), (4, .int v4), (5, .int v5)] → W p l e R s m args below meth c H locs 0 0 (MQ below (va_Qi post (PQ D cy A) A) args s 0 0 A) (F0 m 5 ls [])) : ∀ (n : Nat) (v0 : Option Nat) (v1 : Int32) (v3 : Int32) (v4 : Int32) (v5 : Int32) (v6 : Int64) (v8 : Int32) (S : Pool), wX9_quietBehind_53 K5 post n v0 v1 v3 v4 v5 v6 v8 S → ∀ (H : Heap) (locs : List Loc) (ls : Array Slot), PB D cy A s S H locs → lv_has ls 9 [(0, va_rf v0), (1, .int v1), (3, .int v3), (4, .int v4), (5, .int v5), (6, .long v6), (8, .int v8)] → W p l e R s m args below meth c H locs 0 0 (MQ below (va_Qi post (PQ D cy A) A) args s 0 0 A) (F0 m 53 ls []) := by
  intro n
  induction n with
  | zero => intro v0 v1 v3 v4 v5 v6 v8 S h; exact False.elim h
  | succ n ih =>
    intro v0 v1 v3 v4 v5 v6 v8 S h H locs ls B hl
    unfold wX9_quietBehind_53 at h
    refine lv_iload M.1 M.2.1 dX9_quietBehind_53 (lv_at hl 6 rfl) ?_
    refine g_aload_n M dX9_quietBehind_55 rfl (lv_at hl 0 rfl) ?_
    refine gfX9_105 M B dX9_quietBehind_56 h (fun a1 h => ?_)
    refine lv_icmp_ge (tgt := 133) M.1 M.2.1 dX9_quietBehind_59 (by decide) (fun c2 => ?_) (fun c2 => ?_)
    · have h := h.1 c2
      refine lv_iinc (v := v5 + 1) (lv' := [(5, .int (v5 + 1)), (0, va_rf v0), (1, .int v1), (3, .int v3), (4, .int v4), (6, .long v6), (8, .int v8)]) M.1 M.2.1 dX9_quietBehind_133 hl (k := 4) rfl (by rfl) (by decide) (fl_e (fl_k rfl rfl (fl_k rfl rfl (fl_k rfl rfl (fl_i rfl (fl_d rfl (fl_k rfl rfl (fl_k rfl rfl fl_0)))))))) (fun ls hl => ?_)
      refine lv_goto (tgt := 5) M.1 M.2.1 dX9_quietBehind_136 (by decide) ?_
      exact hK5 _ _ _ _ _ _ h _ _ _ B (lv_sub hl [1, 2, 3, 4, 0] rfl)
    · have h := h.2 c2
      refine g_aload_n M dX9_quietBehind_62 rfl (lv_at hl 0 rfl) ?_
      refine gfX9_78 M B dX9_quietBehind_63 h (fun a3 h => ?_)
      refine lv_sipush (v := 250) M.1 M.2.1 dX9_quietBehind_66 (by decide) ?_
      refine lv_iload M.1 M.2.1 dX9_quietBehind_69 (lv_at hl 4 rfl) ?_
      refine lv_imul M.1 M.2.1 dX9_quietBehind_71 ?_
      refine lv_iload M.1 M.2.1 dX9_quietBehind_72 (lv_at hl 6 rfl) ?_
      refine lv_iadd M.1 M.2.1 dX9_quietBehind_74 ?_
      refine g_zald M B dX9_quietBehind_75 h (fun a4 h => ?_)
      refine lv_if_eq (tgt := 127) M.1 M.2.1 dX9_quietBehind_76 (by decide) (fun c5 => ?_) (fun c5 => ?_)
      · have h := h.1 c5
        exact tX9_quietBehind_127 M hr hlk hRf hRl hRc hRs hK5 ih _ _ _ _ _ _ _ _ h _ _ _ B (lv_sub hl [0, 1, 2, 3, 4, 5, 6] rfl)
      · have h := h.2 c5
        refine g_aload_n M dX9_quietBehind_79 rfl (lv_at hl 0 rfl) ?_
        refine lv_iload_n M.1 M.2.1 dX9_quietBehind_80 rfl (lv_at hl 1 rfl) ?_
        refine lv_iload M.1 M.2.1 dX9_quietBehind_81 (lv_at hl 6 rfl) ?_
        obtain ⟨o1, e1, hL1, hK1, h⟩ := h
        refine g_calli (k1 := 0) (k2 := 0) B (g_runV (n := 2) (As := [.int v1, .int v8]) (rm := rmX9_value) M B e1 (kX9_value (v0 := v0) (v1 := v1) (v2 := v8) l D cy h _) wmX9_205 wiX9_value wsX9_value wnX9 wcdX9_value ⟨rfl, by decide, by decide, by decide +kernel⟩ ⟨Nat.le_trans (by decide) hRf, Nat.le_trans (by decide) hRl⟩ ⟨Nat.le_trans (by decide) hRc, Nat.le_trans (by decide) hRs⟩ hL1 hK1 (by decide) rfl rfl rfl hl.1 rfl ct_0 (by decide) dX9_quietBehind_83) (by decide) (by decide) (fun a7 S6 H locs h B => ?_)
        refine g_aload_n M dX9_quietBehind_86 rfl (lv_at hl 0 rfl) ?_
        refine lv_iload_n M.1 M.2.1 dX9_quietBehind_87 rfl (lv_at hl 1 rfl) ?_
        refine lv_iload_n M.1 M.2.1 dX9_quietBehind_88 rfl (lv_at hl 2 rfl) ?_
        obtain ⟨o1, e1, hL1, hK1, h⟩ := h
        refine g_calli (k1 := 0) (k2 := 0) B (g_runV (n := 2) (As := [.int v1, .int v3]) (rm := rmX9_value) M B e1 (kX9_value (v0 := v0) (v1 := v1) (v2 := v3) l D cy h _) wmX9_205 wiX9_value wsX9_value wnX9 wcdX9_value ⟨rfl, by decide, by decide, by decide +kernel⟩ ⟨Nat.le_trans (by decide) hRf, Nat.le_trans (by decide) hRl⟩ ⟨Nat.le_trans (by decide) hRc, Nat.le_trans (by decide) hRs⟩ hL1 hK1 (by decide) rfl rfl rfl hl.1 rfl (ct_i ct_0) (by decide) dX9_quietBehind_89) (by decide) (by decide) (fun a9 S8 H locs h B => ?_)
        refine lv_icmp_ne (tgt := 127) M.1 M.2.1 dX9_quietBehind_92 (by decide) (fun c10 => ?_) (fun c10 => ?_)
        · have h := h.2 c10
          exact tX9_quietBehind_127 M hr hlk hRf hRl hRc hRs hK5 ih _ _ _ _ _ _ _ _ h _ _ _ B (lv_sub hl [0, 1, 2, 3, 4, 5, 6] rfl)
        · have h := h.1 c10
          refine g_aload_n M dX9_quietBehind_95 rfl (lv_at hl 0 rfl) ?_
          refine gfX9_23 M B dX9_quietBehind_96 h (fun a11 h => ?_)
          refine lv_iload M.1 M.2.1 dX9_quietBehind_99 (lv_at hl 6 rfl) ?_
          refine g_iald M B dX9_quietBehind_101 h (fun a12 h => ?_)
          refine g_aload_n M dX9_quietBehind_102 rfl (lv_at hl 0 rfl) ?_
          refine gfX9_23 M B dX9_quietBehind_103 h (fun a13 h => ?_)
          refine lv_iload_n M.1 M.2.1 dX9_quietBehind_106 rfl (lv_at hl 2 rfl) ?_
          refine g_iald M B dX9_quietBehind_107 h (fun a14 h => ?_)
          refine lv_icmp_le (tgt := 127) M.1 M.2.1 dX9_quietBehind_108 (by decide) (fun c15 => ?_) (fun c15 => ?_)
          · have h := h.1 c15
            exact tX9_quietBehind_127 M hr hlk hRf hRl hRc hRs hK5 ih _ _ _ _ _ _ _ _ h _ _ _ B (lv_sub hl [0, 1, 2, 3, 4, 5, 6] rfl)
          · have h := h.2 c15
            refine g_aload_n M dX9_quietBehind_111 rfl (lv_at hl 0 rfl) ?_
            refine gfX9_23 M B dX9_quietBehind_112 h (fun a16 h => ?_)
            refine lv_iload M.1 M.2.1 dX9_quietBehind_115 (lv_at hl 6 rfl) ?_
            refine g_iald M B dX9_quietBehind_117 h (fun a17 h => ?_)
            refine lv_i2l (v := a17.toInt64) M.1 M.2.1 dX9_quietBehind_118 rfl ?_
            refine lv_lload M.1 M.2.1 dX9_quietBehind_119 (lv_at hl 5 rfl) ?_
            refine W.lcmp M.1 M.2.1 dX9_quietBehind_121 ?_
            refine lv_if_gt (tgt := 127) M.1 M.2.1 dX9_quietBehind_122 (by decide) (fun c18 => ?_) (fun c18 => ?_)
            · have h := h.1 c18
              exact tX9_quietBehind_127 M hr hlk hRf hRl hRc hRs hK5 ih _ _ _ _ _ _ _ _ h _ _ _ B (lv_sub hl [0, 1, 2, 3, 4, 5, 6] rfl)
            · have h := h.2 c18
              refine lv_iconst (v := 0) M.1 M.2.1 dX9_quietBehind_125 (by decide) ?_
              exact g_zret M B hr hlk h (by decide) (by decide) dX9_quietBehind_126
set_option maxRecDepth 100000 in
set_option maxHeartbeats 4000000 in
theorem tX9_quietBehind_5 {post : Int32 → Pool → Prop} (M : MC p m c cX9_quietBehind 9 s args RX9) (hr : meth.sig.returnType = (some FieldType.boolean)) (hlk : meth.locks = false) (hRf : 1 ≤ R.frames) (hRl : 22 ≤ R.locals) (hRc : 0 ≤ R.cells) (hRs : 0 ≤ R.slots) : ∀ (n : Nat) (v0 : Option Nat) (v1 : Int32) (v3 : Int32) (v4 : Int32) (v5 : Int32) (S : Pool), wX9_quietBehind_5 post n v0 v1 v3 v4 v5 S → ∀ (H : Heap) (locs : List Loc) (ls : Array Slot), PB D cy A s S H locs → lv_has ls 9 [(0, va_rf v0), (1, .int v1), (3, .int v3), (4, .int v4), (5, .int v5)] → W p l e R s m args below meth c H locs 0 0 (MQ below (va_Qi post (PQ D cy A) A) args s 0 0 A) (F0 m 5 ls []) := by
  intro n
  induction n with
  | zero => intro v0 v1 v3 v4 v5 S h; exact False.elim h
  | succ n ih =>
    intro v0 v1 v3 v4 v5 S h H locs ls B hl
    unfold wX9_quietBehind_5 at h
    refine lv_iload M.1 M.2.1 dX9_quietBehind_5 (lv_at hl 4 rfl) ?_
    refine g_aload_n M dX9_quietBehind_7 rfl (lv_at hl 0 rfl) ?_
    refine gfX9_35 M B dX9_quietBehind_8 h (fun a1 h => ?_)
    refine lv_iload_n M.1 M.2.1 dX9_quietBehind_11 rfl (lv_at hl 1 rfl) ?_
    refine g_iald M B dX9_quietBehind_12 h (fun a2 h => ?_)
    refine lv_icmp_ge (tgt := 139) M.1 M.2.1 dX9_quietBehind_13 (by decide) (fun c3 => ?_) (fun c3 => ?_)
    · have h := h.1 c3
      refine lv_iconst (v := 1) M.1 M.2.1 dX9_quietBehind_139 (by decide) ?_
      exact g_zret M B hr hlk h (by decide) (by decide) dX9_quietBehind_140
    · have h := h.2 c3
      refine g_aload_n M dX9_quietBehind_16 rfl (lv_at hl 0 rfl) ?_
      refine gfX9_23 M B dX9_quietBehind_17 h (fun a4 h => ?_)
      refine lv_iload_n M.1 M.2.1 dX9_quietBehind_20 rfl (lv_at hl 2 rfl) ?_
      refine g_iald M B dX9_quietBehind_21 h (fun a5 h => ?_)
      refine lv_i2l (v := a5.toInt64) M.1 M.2.1 dX9_quietBehind_22 rfl ?_
      refine g_aload_n M dX9_quietBehind_23 rfl (lv_at hl 0 rfl) ?_
      refine gfX9_51 M B dX9_quietBehind_24 h (fun a6 h => ?_)
      refine lv_bipush (v := 6) M.1 M.2.1 dX9_quietBehind_27 (by decide) ?_
      refine lv_iload_n M.1 M.2.1 dX9_quietBehind_29 rfl (lv_at hl 1 rfl) ?_
      refine lv_imul M.1 M.2.1 dX9_quietBehind_30 ?_
      refine lv_iload M.1 M.2.1 dX9_quietBehind_31 (lv_at hl 4 rfl) ?_
      refine lv_iadd M.1 M.2.1 dX9_quietBehind_33 ?_
      refine g_iald M B dX9_quietBehind_34 h (fun a7 h => ?_)
      refine lv_i2l (v := a7.toInt64) M.1 M.2.1 dX9_quietBehind_35 rfl ?_
      refine lv_ladd M.1 M.2.1 dX9_quietBehind_36 ?_
      refine lv_lstore (lv' := [(6, .long ((a5.toInt64) + (a7.toInt64))), (0, va_rf v0), (1, .int v1), (3, .int v3), (4, .int v4), (5, .int v5)]) M.1 M.2.1 dX9_quietBehind_37 hl (by decide) (fm_e (fm_k rfl rfl rfl (fm_k rfl rfl rfl (fm_k rfl rfl rfl (fm_k rfl rfl rfl (fm_i rfl rfl fm_0)))))) (fun ls hl => ?_)
      refine lv_iload M.1 M.2.1 dX9_quietBehind_39 (lv_at hl 4 rfl) ?_
      refine lv_i2l (v := v4.toInt64) M.1 M.2.1 dX9_quietBehind_41 rfl ?_
      refine lv_lload M.1 M.2.1 dX9_quietBehind_42 (lv_at hl 0 rfl) ?_
      refine W.lcmp M.1 M.2.1 dX9_quietBehind_44 ?_
      refine lv_if_ge (tgt := 50) M.1 M.2.1 dX9_quietBehind_45 (by decide) (fun c8 => ?_) (fun c8 => ?_)
      · have h := h.1 c8
        refine lv_iconst (v := 0) M.1 M.2.1 dX9_quietBehind_50 (by decide) ?_
        refine lv_istore (lv' := [(8, .int 0), (6, .long ((a5.toInt64) + (a7.toInt64))), (0, va_rf v0), (1, .int v1), (3, .int v3), (4, .int v4), (5, .int v5)]) M.1 M.2.1 dX9_quietBehind_51 hl (by decide) (fl_e (fl_k rfl rfl (fl_k rfl rfl (fl_k rfl rfl (fl_k rfl rfl (fl_k rfl rfl (fl_k rfl rfl fl_0))))))) (fun ls hl => ?_)
        obtain ⟨n1, h⟩ := h
        exact tX9_quietBehind_53 M hr hlk hRf hRl hRc hRs ih n1 _ _ _ _ _ _ _ _ h _ _ _ B (lv_sub hl [2, 3, 4, 5, 6, 1, 0] rfl)
      · have h := h.2 c8
        refine lv_iconst (v := 0) M.1 M.2.1 dX9_quietBehind_48 (by decide) ?_
        exact g_zret M B hr hlk h (by decide) (by decide) dX9_quietBehind_49
set_option maxRecDepth 100000 in
set_option maxHeartbeats 4000000 in
theorem tX9_quietBehind {post : Int32 → Pool → Prop} (M : MC p m c cX9_quietBehind 9 s args RX9) (hr : meth.sig.returnType = (some FieldType.boolean)) (hlk : meth.locks = false) (hRf : 1 ≤ R.frames) (hRl : 22 ≤ R.locals) (hRc : 0 ≤ R.cells) (hRs : 0 ≤ R.slots) : ∀ (v0 : Option Nat) (v1 : Int32) (v2 : Int32) (v3 : Int32) (v4 : Int32) (S : Pool), wX9_quietBehind post v0 v1 v2 v3 v4 S → ∀ (H : Heap) (locs : List Loc) (ls : Array Slot), PB D cy A s S H locs → lv_has ls 9 [(0, va_rf v0), (1, .int v1), (2, .int v2), (3, .int v3), (4, .int v4)] → W p l e R s m args below meth c H locs 0 0 (MQ below (va_Qi post (PQ D cy A) A) args s 0 0 A) (F0 m 0 ls []) := by
  intro v0 v1 v2 v3 v4 S h H locs ls B hl
  unfold wX9_quietBehind at h
  refine lv_iload_n M.1 M.2.1 dX9_quietBehind_0 rfl (lv_at hl 2 rfl) ?_
  refine lv_iconst (v := 1) M.1 M.2.1 dX9_quietBehind_1 (by decide) ?_
  refine lv_iadd M.1 M.2.1 dX9_quietBehind_2 ?_
  refine lv_istore (lv' := [(5, .int (v2 + 1)), (0, va_rf v0), (1, .int v1), (2, .int v2), (3, .int v3), (4, .int v4)]) M.1 M.2.1 dX9_quietBehind_3 hl (by decide) (fl_e (fl_k rfl rfl (fl_k rfl rfl (fl_k rfl rfl (fl_k rfl rfl (fl_i rfl fl_0)))))) (fun ls hl => ?_)
  obtain ⟨n1, h⟩ := h
  exact tX9_quietBehind_5 M hr hlk hRf hRl hRc hRs n1 _ _ _ _ _ _ h _ _ _ B (lv_sub hl [1, 2, 4, 5, 0] rfl)
end
set_option maxRecDepth 100000 in
set_option maxHeartbeats 4000000 in
theorem kX9_quietBehind (l : Launch) (D : va_G) (cy : Nat → ClassId) {post : Int32 → Pool → Prop} {v0 : Option Nat} {v1 : Int32} {v2 : Int32} {v3 : Int32} {v4 : Int32} {S : Pool} (h : wX9_quietBehind post v0 v1 v2 v3 v4 S) : MetI l yX9_quietBehind cX9_quietBehind 9 (some FieldType.boolean) rmX9_quietBehind [va_rf v0, .int v1, .int v2, .int v3, .int v4] D cy S post := by
  intro sz
  refine Met.ofW (cc := cX9_quietBehind) (maxL := 9) (ret := (some FieldType.boolean)) (by decide) rfl ?_
  intro p e s m args below meth c s₁ B0 hml hv
  obtain ⟨rfl, hpp⟩ := hv
  have hts := atoms_spec (ws := .code yX9_quietBehind cX9_quietBehind 9 (some FieldType.boolean) :: Gw) B0.pre
  obtain rfl : s.heap.size = sz := hpp.1
  have hl := lv_entry [va_rf v0, .int v1, .int v2, .int v3, .int v4] (n := 9) (by rw [sl_r, sl_i, sl_i, sl_i, sl_i, sl_0]; decide)
  rw [lg_entry_eq]
  rw [la_r, la_i, la_i, la_i, la_i, la_0] at hl
  exact tX9_quietBehind (l := l) (R := rmX9_quietBehind) ⟨B0.exec, B0.bytes, hml, findClass_of_methodNamed B0.named, fun w hw => hts w (List.mem_cons_of_mem _ hw)⟩ B0.returns B0.notSynchronized (Nat.le_refl _) (Nat.le_refl _) (Nat.le_refl _) (Nat.le_refl _) _ _ _ _ _ _ h _ _ _ hpp.pb (lv_sub hl [0, 1, 2, 3, 4] rfl)
-- X9_spreads: LogHuntModel.spreads(III)Z
def wX9_spreads_154 (K21 : Option Nat → Int32 → Int32 → Int32 → Int32 → Int32 → Int32 → Pool → Prop) (post : Int32 → Pool → Prop) (v0 : Option Nat) (v1 : Int32) (v2 : Int32) (v3 : Int32) (v4 : Int32) (v5 : Int32) (v6 : Int32) (S : Pool) : Prop := K21 v0 v1 v2 v3 v4 v5 (v6 + 1) S
def wX9_spreads_106 (K21 : Option Nat → Int32 → Int32 → Int32 → Int32 → Int32 → Int32 → Pool → Prop) (post : Int32 → Pool → Prop) (v0 : Option Nat) (v1 : Int32) (v2 : Int32) (v3 : Int32) (v4 : Int32) (v5 : Int32) (v6 : Int32) (z0 : Int32) (S : Pool) : Prop := xR S v0 9 7 fun a1 => xR S v0 9 19 fun a2 => xaI S a2 10 v1 fun a3 => xaI S a1 10 (((3 : Int32) * v6) + a3) fun a4 => br (z0 = 0) (wX9_spreads_154 K21 post v0 v1 v2 v3 v4 v5 v6 S) (br ((v4 &&& ((1 : Int32) <<< (a4 &&& 31))) = 0) (wX9_spreads_154 K21 post v0 v1 v2 v3 (v4 ||| ((1 : Int32) <<< (a4 &&& 31))) (v5 + 1) v6 S) (wX9_spreads_154 K21 post v0 v1 v2 v3 v4 v5 v6 S))
def wX9_spreads_105 (K21 : Option Nat → Int32 → Int32 → Int32 → Int32 → Int32 → Int32 → Pool → Prop) (post : Int32 → Pool → Prop) (v0 : Option Nat) (v1 : Int32) (v2 : Int32) (v3 : Int32) (v4 : Int32) (v5 : Int32) (v6 : Int32) (S : Pool) : Prop := wX9_spreads_106 K21 post v0 v1 v2 v3 v4 v5 v6 0 S
def wX9_spreads_21 (post : Int32 → Pool → Prop) : Nat → Option Nat → Int32 → Int32 → Int32 → Int32 → Int32 → Int32 → Pool → Prop
  | 0 => fun _ _ _ _ _ _ _ _ => False
  | n + 1 => fun v0 v1 v2 v3 v4 v5 v6 S => xI S v0 9 4 fun a1 => br (a1 ≤ v6) (xR S v0 9 20 fun a3 => xaI S a3 10 v1 fun a4 => br (v5 < a4) (((0 : Int32) = 0 ∨ (0 : Int32) = 1) ∧ post (0 : Int32) S) (((1 : Int32) = 0 ∨ (1 : Int32) = 1) ∧ post (1 : Int32) S)) (xR S v0 9 33 fun a6 => xaI S a6 11 (((250 : Int32) * v2) + v6) fun a7 => br (a7 = 0) (wX9_spreads_105 (wX9_spreads_21 post n) post v0 v1 v2 v3 v4 v5 v6 S) (xrc S v0 9 (wX9_value (fun a10 S9 => xrc S9 v0 9 (wX9_value (fun a12 S11 => br (a10 = a12) (xR S11 v0 9 8 fun a14 => xaI S11 a14 10 v6 fun a15 => xR S11 v0 9 8 fun a16 => xaI S11 a16 10 v3 fun a17 => br (a17 < a15) (wX9_spreads_105 (wX9_spreads_21 post n) post v0 v1 v2 v3 v4 v5 v6 S11) (xR S11 v0 9 8 fun a19 => xaI S11 a19 10 v6 fun a20 => xR S11 v0 9 8 fun a21 => xaI S11 a21 10 v3 fun a22 => xR S11 v0 9 21 fun a23 => xaI S11 a23 10 v1 fun a24 => br (a20 ≤ (a22 - a24)) (wX9_spreads_105 (wX9_spreads_21 post n) post v0 v1 v2 v3 v4 v5 v6 S11) (wX9_spreads_106 (wX9_spreads_21 post n) post v0 v1 v2 v3 v4 v5 v6 1 S11))) (wX9_spreads_105 (wX9_spreads_21 post n) post v0 v1 v2 v3 v4 v5 v6 S11)) v0 v1 v3 S9)) v0 v1 v6 S)))
def wX9_spreads (post : Int32 → Pool → Prop) (v0 : Option Nat) (v1 : Int32) (v2 : Int32) (v3 : Int32) (S : Pool) : Prop := xR S v0 9 19 fun a1 => xaI S a1 10 v1 fun a2 => br (a2 = ((-1))) (((1 : Int32) = 0 ∨ (1 : Int32) = 1) ∧ post (1 : Int32) S) (∃ n1, wX9_spreads_21 post n1 v0 v1 v2 v3 0 0 0 S)
def rmX9_spreads : Room := { frames := 1, cells := 0, slots := 0, locals := 22 }
section
variable {p : Program} {l : Launch} {e : Env} {R : Room} {s : State} {m : MethodId} {args : Array Value} {below : List Frame} {meth : Method} {c : Code} {D : va_G} {cy : Nat → ClassId} {A : Nat → Prop}
set_option maxRecDepth 100000 in
set_option maxHeartbeats 4000000 in
theorem tX9_spreads_154 {K21 : Option Nat → Int32 → Int32 → Int32 → Int32 → Int32 → Int32 → Pool → Prop} {post : Int32 → Pool → Prop} (M : MC p m c cX9_spreads 9 s args RX9) (hr : meth.sig.returnType = (some FieldType.boolean)) (hlk : meth.locks = false) (hRf : 1 ≤ R.frames) (hRl : 22 ≤ R.locals) (hRc : 0 ≤ R.cells) (hRs : 0 ≤ R.slots) (hK21 : ∀ (v0 : Option Nat) (v1 : Int32) (v2 : Int32) (v3 : Int32) (v4 : Int32) (v5 : Int32) (v6 : Int32) (S : Pool), K21 v0 v1 v2 v3 v4 v5 v6 S → ∀ (H : Heap) (locs : List Loc) (ls : Array Slot), PB D cy A s S H locs → lv_has ls 9 [(0, va_rf v0), (1, .int v1), (2, .int v2), (3, .int v3), (4, .int v4), (5, .int v5), (6, .int v6)] → W p l e R s m args below meth c H locs 0 0 (MQ below (va_Qi post (PQ D cy A) A) args s 0 0 A) (F0 m 21 ls [])) : ∀ (v0 : Option Nat) (v1 : Int32) (v2 : Int32) (v3 : Int32) (v4 : Int32) (v5 : Int32) (v6 : Int32) (S : Pool), wX9_spreads_154 K21 post v0 v1 v2 v3 v4 v5 v6 S → ∀ (H : Heap) (locs : List Loc) (ls : Array Slot), PB D cy A s S H locs → lv_has ls 9 [(0, va_rf v0), (1, .int v1), (2, .int v2), (3, .int v3), (4, .int v4), (5, .int v5), (6, .int v6)] → W p l e R s m args below meth c H locs 0 0 (MQ below (va_Qi post (PQ D cy A) A) args s 0 0 A) (F0 m 154 ls []) := by
  intro v0 v1 v2 v3 v4 v5 v6 S h H locs ls B hl
  unfold wX9_spreads_154 at h
  refine lv_iinc (v := v6 + 1) (lv' := [(6, .int (v6 + 1)), (0, va_rf v0), (1, .int v1), (2, .int v2), (3, .int v3), (4, .int v4), (5, .int v5)]) M.1 M.2.1 dX9_spreads_154 hl (k := 6) rfl (by rfl) (by decide) (fl_e (fl_k rfl rfl (fl_k rfl rfl (fl_k rfl rfl (fl_k rfl rfl (fl_k rfl rfl (fl_i rfl (fl_d rfl fl_0)))))))) (fun ls hl => ?_)
  refine lv_goto (tgt := 21) M.1 M.2.1 dX9_spreads_157 (by decide) ?_
  exact hK21 _ _ _ _ _ _ _ _ h _ _ _ B (lv_sub hl [1, 2, 3, 4, 5, 6, 0] rfl)
set_option maxRecDepth 100000 in
set_option maxHeartbeats 4000000 in
theorem tX9_spreads_106 {K21 : Option Nat → Int32 → Int32 → Int32 → Int32 → Int32 → Int32 → Pool → Prop} {post : Int32 → Pool → Prop} (M : MC p m c cX9_spreads 9 s args RX9) (hr : meth.sig.returnType = (some FieldType.boolean)) (hlk : meth.locks = false) (hRf : 1 ≤ R.frames) (hRl : 22 ≤ R.locals) (hRc : 0 ≤ R.cells) (hRs : 0 ≤ R.slots) (hK21 : ∀ (v0 : Option Nat) (v1 : Int32) (v2 : Int32) (v3 : Int32) (v4 : Int32) (v5 : Int32) (v6 : Int32) (S : Pool), K21 v0 v1 v2 v3 v4 v5 v6 S → ∀ (H : Heap) (locs : List Loc) (ls : Array Slot), PB D cy A s S H locs → lv_has ls 9 [(0, va_rf v0), (1, .int v1), (2, .int v2), (3, .int v3), (4, .int v4), (5, .int v5), (6, .int v6)] → W p l e R s m args below meth c H locs 0 0 (MQ below (va_Qi post (PQ D cy A) A) args s 0 0 A) (F0 m 21 ls [])) : ∀ (v0 : Option Nat) (v1 : Int32) (v2 : Int32) (v3 : Int32) (v4 : Int32) (v5 : Int32) (v6 : Int32) (z0 : Int32) (S : Pool), wX9_spreads_106 K21 post v0 v1 v2 v3 v4 v5 v6 z0 S → ∀ (H : Heap) (locs : List Loc) (ls : Array Slot), PB D cy A s S H locs → lv_has ls 9 [(0, va_rf v0), (1, .int v1), (2, .int v2), (3, .int v3), (4, .int v4), (5, .int v5), (6, .int v6)] → W p l e R s m args below meth c H locs 0 0 (MQ below (va_Qi post (PQ D cy A) A) args s 0 0 A) (F0 m 106 ls [.int z0]) := by
  intro v0 v1 v2 v3 v4 v5 v6 z0 S h H locs ls B hl
  unfold wX9_spreads_106 at h
  refine lv_istore (lv' := [(7, .int z0), (0, va_rf v0), (1, .int v1), (2, .int v2), (3, .int v3), (4, .int v4), (5, .int v5), (6, .int v6)]) M.1 M.2.1 dX9_spreads_106 hl (by decide) (fl_e (fl_k rfl rfl (fl_k rfl rfl (fl_k rfl rfl (fl_k rfl rfl (fl_k rfl rfl (fl_k rfl rfl (fl_i rfl fl_0)))))))) (fun ls hl => ?_)
  refine lv_iconst (v := 1) M.1 M.2.1 dX9_spreads_108 (by decide) ?_
  refine g_aload_n M dX9_spreads_109 rfl (lv_at hl 1 rfl) ?_
  refine gfX9_20 M B dX9_spreads_110 h (fun a1 h => ?_)
  refine lv_iconst (v := 3) M.1 M.2.1 dX9_spreads_113 (by decide) ?_
  refine lv_iload M.1 M.2.1 dX9_spreads_114 (lv_at hl 7 rfl) ?_
  refine lv_imul M.1 M.2.1 dX9_spreads_116 ?_
  refine g_aload_n M dX9_spreads_117 rfl (lv_at hl 1 rfl) ?_
  refine gfX9_54 M B dX9_spreads_118 h (fun a2 h => ?_)
  refine lv_iload_n M.1 M.2.1 dX9_spreads_121 rfl (lv_at hl 2 rfl) ?_
  refine g_iald M B dX9_spreads_122 h (fun a3 h => ?_)
  refine lv_iadd M.1 M.2.1 dX9_spreads_123 ?_
  refine g_iald M B dX9_spreads_124 h (fun a4 h => ?_)
  refine lv_ishl M.1 M.2.1 dX9_spreads_125 ?_
  refine lv_istore (lv' := [(8, .int ((1 : Int32) <<< (a4 &&& 31))), (7, .int z0), (0, va_rf v0), (1, .int v1), (2, .int v2), (3, .int v3), (4, .int v4), (5, .int v5), (6, .int v6)]) M.1 M.2.1 dX9_spreads_126 hl (by decide) (fl_e (fl_i rfl (fl_k rfl rfl (fl_k rfl rfl (fl_k rfl rfl (fl_k rfl rfl (fl_k rfl rfl (fl_k rfl rfl (fl_k rfl rfl fl_0))))))))) (fun ls hl => ?_)
  refine lv_iload M.1 M.2.1 dX9_spreads_128 (lv_at hl 1 rfl) ?_
  refine lv_if_eq (tgt := 154) M.1 M.2.1 dX9_spreads_130 (by decide) (fun c5 => ?_) (fun c5 => ?_)
  · have h := h.1 c5
    exact tX9_spreads_154 M hr hlk hRf hRl hRc hRs hK21 _ _ _ _ _ _ _ _ h _ _ _ B (lv_sub hl [2, 3, 4, 5, 6, 7, 8] rfl)
  · have h := h.2 c5
    refine lv_iload M.1 M.2.1 dX9_spreads_133 (lv_at hl 6 rfl) ?_
    refine lv_iload M.1 M.2.1 dX9_spreads_135 (lv_at hl 0 rfl) ?_
    refine lv_iand M.1 M.2.1 dX9_spreads_137 ?_
    refine lv_if_eq (tgt := 144) M.1 M.2.1 dX9_spreads_138 (by decide) (fun c6 => ?_) (fun c6 => ?_)
    · have h := h.1 c6
      refine lv_iload M.1 M.2.1 dX9_spreads_144 (lv_at hl 6 rfl) ?_
      refine lv_iload M.1 M.2.1 dX9_spreads_146 (lv_at hl 0 rfl) ?_
      refine lv_ior M.1 M.2.1 dX9_spreads_148 ?_
      refine lv_istore (lv' := [(4, .int (v4 ||| ((1 : Int32) <<< (a4 &&& 31)))), (8, .int ((1 : Int32) <<< (a4 &&& 31))), (7, .int z0), (0, va_rf v0), (1, .int v1), (2, .int v2), (3, .int v3), (5, .int v5), (6, .int v6)]) M.1 M.2.1 dX9_spreads_149 hl (by decide) (fl_e (fl_k rfl rfl (fl_k rfl rfl (fl_k rfl rfl (fl_k rfl rfl (fl_k rfl rfl (fl_i rfl (fl_d rfl (fl_k rfl rfl (fl_k rfl rfl fl_0)))))))))) (fun ls hl => ?_)
      refine lv_iinc (v := v5 + 1) (lv' := [(5, .int (v5 + 1)), (4, .int (v4 ||| ((1 : Int32) <<< (a4 &&& 31)))), (8, .int ((1 : Int32) <<< (a4 &&& 31))), (7, .int z0), (0, va_rf v0), (1, .int v1), (2, .int v2), (3, .int v3), (6, .int v6)]) M.1 M.2.1 dX9_spreads_151 hl (k := 7) rfl (by rfl) (by decide) (fl_e (fl_i rfl (fl_k rfl rfl (fl_k rfl rfl (fl_k rfl rfl (fl_k rfl rfl (fl_k rfl rfl (fl_k rfl rfl (fl_d rfl (fl_k rfl rfl fl_0)))))))))) (fun ls hl => ?_)
      exact tX9_spreads_154 M hr hlk hRf hRl hRc hRs hK21 _ _ _ _ _ _ _ _ h _ _ _ B (lv_sub hl [4, 5, 6, 7, 1, 0, 8] rfl)
    · have h := h.2 c6
      refine lv_goto (tgt := 154) M.1 M.2.1 dX9_spreads_141 (by decide) ?_
      exact tX9_spreads_154 M hr hlk hRf hRl hRc hRs hK21 _ _ _ _ _ _ _ _ h _ _ _ B (lv_sub hl [2, 3, 4, 5, 6, 7, 8] rfl)
set_option maxRecDepth 100000 in
set_option maxHeartbeats 4000000 in
theorem tX9_spreads_105 {K21 : Option Nat → Int32 → Int32 → Int32 → Int32 → Int32 → Int32 → Pool → Prop} {post : Int32 → Pool → Prop} (M : MC p m c cX9_spreads 9 s args RX9) (hr : meth.sig.returnType = (some FieldType.boolean)) (hlk : meth.locks = false) (hRf : 1 ≤ R.frames) (hRl : 22 ≤ R.locals) (hRc : 0 ≤ R.cells) (hRs : 0 ≤ R.slots) (hK21 : ∀ (v0 : Option Nat) (v1 : Int32) (v2 : Int32) (v3 : Int32) (v4 : Int32) (v5 : Int32) (v6 : Int32) (S : Pool), K21 v0 v1 v2 v3 v4 v5 v6 S → ∀ (H : Heap) (locs : List Loc) (ls : Array Slot), PB D cy A s S H locs → lv_has ls 9 [(0, va_rf v0), (1, .int v1), (2, .int v2), (3, .int v3), (4, .int v4), (5, .int v5), (6, .int v6)] → W p l e R s m args below meth c H locs 0 0 (MQ below (va_Qi post (PQ D cy A) A) args s 0 0 A) (F0 m 21 ls [])) : ∀ (v0 : Option Nat) (v1 : Int32) (v2 : Int32) (v3 : Int32) (v4 : Int32) (v5 : Int32) (v6 : Int32) (S : Pool), wX9_spreads_105 K21 post v0 v1 v2 v3 v4 v5 v6 S → ∀ (H : Heap) (locs : List Loc) (ls : Array Slot), PB D cy A s S H locs → lv_has ls 9 [(0, va_rf v0), (1, .int v1), (2, .int v2), (3, .int v3), (4, .int v4), (5, .int v5), (6, .int v6)] → W p l e R s m args below meth c H locs 0 0 (MQ below (va_Qi post (PQ D cy A) A) args s 0 0 A) (F0 m 105 ls []) := by
  intro v0 v1 v2 v3 v4 v5 v6 S h H locs ls B hl
  unfold wX9_spreads_105 at h
  refine lv_iconst (v := 0) M.1 M.2.1 dX9_spreads_105 (by decide) ?_
  exact tX9_spreads_106 M hr hlk hRf hRl hRc hRs hK21 _ _ _ _ _ _ _ _ _ h _ _ _ B (lv_sub hl [0, 1, 2, 3, 4, 5, 6] rfl)
set_option maxRecDepth 100000 in
set_option maxHeartbeats 4000000 in
theorem tX9_spreads_21 {post : Int32 → Pool → Prop} (M : MC p m c cX9_spreads 9 s args RX9) (hr : meth.sig.returnType = (some FieldType.boolean)) (hlk : meth.locks = false) (hRf : 1 ≤ R.frames) (hRl : 22 ≤ R.locals) (hRc : 0 ≤ R.cells) (hRs : 0 ≤ R.slots) : ∀ (n : Nat) (v0 : Option Nat) (v1 : Int32) (v2 : Int32) (v3 : Int32) (v4 : Int32) (v5 : Int32) (v6 : Int32) (S : Pool), wX9_spreads_21 post n v0 v1 v2 v3 v4 v5 v6 S → ∀ (H : Heap) (locs : List Loc) (ls : Array Slot), PB D cy A s S H locs → lv_has ls 9 [(0, va_rf v0), (1, .int v1), (2, .int v2), (3, .int v3), (4, .int v4), (5, .int v5), (6, .int v6)] → W p l e R s m args below meth c H locs 0 0 (MQ below (va_Qi post (PQ D cy A) A) args s 0 0 A) (F0 m 21 ls []) := by
  intro n
  induction n with
  | zero => intro v0 v1 v2 v3 v4 v5 v6 S h; exact False.elim h
  | succ n ih =>
    intro v0 v1 v2 v3 v4 v5 v6 S h H locs ls B hl
    unfold wX9_spreads_21 at h
    refine lv_iload M.1 M.2.1 dX9_spreads_21 (lv_at hl 6 rfl) ?_
    refine g_aload_n M dX9_spreads_23 rfl (lv_at hl 0 rfl) ?_
    refine gfX9_105 M B dX9_spreads_24 h (fun a1 h => ?_)
    refine lv_icmp_ge (tgt := 160) M.1 M.2.1 dX9_spreads_27 (by decide) (fun c2 => ?_) (fun c2 => ?_)
    · have h := h.1 c2
      refine lv_iload M.1 M.2.1 dX9_spreads_160 (lv_at hl 5 rfl) ?_
      refine g_aload_n M dX9_spreads_162 rfl (lv_at hl 0 rfl) ?_
      refine gfX9_57 M B dX9_spreads_163 h (fun a3 h => ?_)
      refine lv_iload_n M.1 M.2.1 dX9_spreads_166 rfl (lv_at hl 1 rfl) ?_
      refine g_iald M B dX9_spreads_167 h (fun a4 h => ?_)
      refine lv_icmp_lt (tgt := 175) M.1 M.2.1 dX9_spreads_168 (by decide) (fun c5 => ?_) (fun c5 => ?_)
      · have h := h.1 c5
        refine lv_iconst (v := 0) M.1 M.2.1 dX9_spreads_175 (by decide) ?_
        exact g_zret M B hr hlk h (by decide) (by decide) dX9_spreads_176
      · have h := h.2 c5
        refine lv_iconst (v := 1) M.1 M.2.1 dX9_spreads_171 (by decide) ?_
        refine lv_goto (tgt := 176) M.1 M.2.1 dX9_spreads_172 (by decide) ?_
        exact g_zret M B hr hlk h (by decide) (by decide) dX9_spreads_176
    · have h := h.2 c2
      refine g_aload_n M dX9_spreads_30 rfl (lv_at hl 0 rfl) ?_
      refine gfX9_78 M B dX9_spreads_31 h (fun a6 h => ?_)
      refine lv_sipush (v := 250) M.1 M.2.1 dX9_spreads_34 (by decide) ?_
      refine lv_iload_n M.1 M.2.1 dX9_spreads_37 rfl (lv_at hl 2 rfl) ?_
      refine lv_imul M.1 M.2.1 dX9_spreads_38 ?_
      refine lv_iload M.1 M.2.1 dX9_spreads_39 (lv_at hl 6 rfl) ?_
      refine lv_iadd M.1 M.2.1 dX9_spreads_41 ?_
      refine g_zald M B dX9_spreads_42 h (fun a7 h => ?_)
      refine lv_if_eq (tgt := 105) M.1 M.2.1 dX9_spreads_43 (by decide) (fun c8 => ?_) (fun c8 => ?_)
      · have h := h.1 c8
        exact tX9_spreads_105 M hr hlk hRf hRl hRc hRs ih _ _ _ _ _ _ _ _ h _ _ _ B (lv_sub hl [0, 1, 2, 3, 4, 5, 6] rfl)
      · have h := h.2 c8
        refine g_aload_n M dX9_spreads_46 rfl (lv_at hl 0 rfl) ?_
        refine lv_iload_n M.1 M.2.1 dX9_spreads_47 rfl (lv_at hl 1 rfl) ?_
        refine lv_iload M.1 M.2.1 dX9_spreads_48 (lv_at hl 6 rfl) ?_
        obtain ⟨o1, e1, hL1, hK1, h⟩ := h
        refine g_calli (k1 := 0) (k2 := 0) B (g_runV (n := 2) (As := [.int v1, .int v6]) (rm := rmX9_value) M B e1 (kX9_value (v0 := v0) (v1 := v1) (v2 := v6) l D cy h _) wmX9_205 wiX9_value wsX9_value wnX9 wcdX9_value ⟨rfl, by decide, by decide, by decide +kernel⟩ ⟨Nat.le_trans (by decide) hRf, Nat.le_trans (by decide) hRl⟩ ⟨Nat.le_trans (by decide) hRc, Nat.le_trans (by decide) hRs⟩ hL1 hK1 (by decide) rfl rfl rfl hl.1 rfl ct_0 (by decide) dX9_spreads_50) (by decide) (by decide) (fun a10 S9 H locs h B => ?_)
        refine g_aload_n M dX9_spreads_53 rfl (lv_at hl 0 rfl) ?_
        refine lv_iload_n M.1 M.2.1 dX9_spreads_54 rfl (lv_at hl 1 rfl) ?_
        refine lv_iload_n M.1 M.2.1 dX9_spreads_55 rfl (lv_at hl 3 rfl) ?_
        obtain ⟨o1, e1, hL1, hK1, h⟩ := h
        refine g_calli (k1 := 0) (k2 := 0) B (g_runV (n := 2) (As := [.int v1, .int v3]) (rm := rmX9_value) M B e1 (kX9_value (v0 := v0) (v1 := v1) (v2 := v3) l D cy h _) wmX9_205 wiX9_value wsX9_value wnX9 wcdX9_value ⟨rfl, by decide, by decide, by decide +kernel⟩ ⟨Nat.le_trans (by decide) hRf, Nat.le_trans (by decide) hRl⟩ ⟨Nat.le_trans (by decide) hRc, Nat.le_trans (by decide) hRs⟩ hL1 hK1 (by decide) rfl rfl rfl hl.1 rfl (ct_i ct_0) (by decide) dX9_spreads_56) (by decide) (by decide) (fun a12 S11 H locs h B => ?_)
        refine lv_icmp_ne (tgt := 105) M.1 M.2.1 dX9_spreads_59 (by decide) (fun c13 => ?_) (fun c13 => ?_)
        · have h := h.2 c13
          exact tX9_spreads_105 M hr hlk hRf hRl hRc hRs ih _ _ _ _ _ _ _ _ h _ _ _ B (lv_sub hl [0, 1, 2, 3, 4, 5, 6] rfl)
        · have h := h.1 c13
          refine g_aload_n M dX9_spreads_62 rfl (lv_at hl 0 rfl) ?_
          refine gfX9_23 M B dX9_spreads_63 h (fun a14 h => ?_)
          refine lv_iload M.1 M.2.1 dX9_spreads_66 (lv_at hl 6 rfl) ?_
          refine g_iald M B dX9_spreads_68 h (fun a15 h => ?_)
          refine g_aload_n M dX9_spreads_69 rfl (lv_at hl 0 rfl) ?_
          refine gfX9_23 M B dX9_spreads_70 h (fun a16 h => ?_)
          refine lv_iload_n M.1 M.2.1 dX9_spreads_73 rfl (lv_at hl 3 rfl) ?_
          refine g_iald M B dX9_spreads_74 h (fun a17 h => ?_)
          refine lv_icmp_gt (tgt := 105) M.1 M.2.1 dX9_spreads_75 (by decide) (fun c18 => ?_) (fun c18 => ?_)
          · have h := h.1 c18
            exact tX9_spreads_105 M hr hlk hRf hRl hRc hRs ih _ _ _ _ _ _ _ _ h _ _ _ B (lv_sub hl [0, 1, 2, 3, 4, 5, 6] rfl)
          · have h := h.2 c18
            refine g_aload_n M dX9_spreads_78 rfl (lv_at hl 0 rfl) ?_
            refine gfX9_23 M B dX9_spreads_79 h (fun a19 h => ?_)
            refine lv_iload M.1 M.2.1 dX9_spreads_82 (lv_at hl 6 rfl) ?_
            refine g_iald M B dX9_spreads_84 h (fun a20 h => ?_)
            refine g_aload_n M dX9_spreads_85 rfl (lv_at hl 0 rfl) ?_
            refine gfX9_23 M B dX9_spreads_86 h (fun a21 h => ?_)
            refine lv_iload_n M.1 M.2.1 dX9_spreads_89 rfl (lv_at hl 3 rfl) ?_
            refine g_iald M B dX9_spreads_90 h (fun a22 h => ?_)
            refine g_aload_n M dX9_spreads_91 rfl (lv_at hl 0 rfl) ?_
            refine gfX9_60 M B dX9_spreads_92 h (fun a23 h => ?_)
            refine lv_iload_n M.1 M.2.1 dX9_spreads_95 rfl (lv_at hl 1 rfl) ?_
            refine g_iald M B dX9_spreads_96 h (fun a24 h => ?_)
            refine lv_isub M.1 M.2.1 dX9_spreads_97 ?_
            refine lv_icmp_le (tgt := 105) M.1 M.2.1 dX9_spreads_98 (by decide) (fun c25 => ?_) (fun c25 => ?_)
            · have h := h.1 c25
              exact tX9_spreads_105 M hr hlk hRf hRl hRc hRs ih _ _ _ _ _ _ _ _ h _ _ _ B (lv_sub hl [0, 1, 2, 3, 4, 5, 6] rfl)
            · have h := h.2 c25
              refine lv_iconst (v := 1) M.1 M.2.1 dX9_spreads_101 (by decide) ?_
              refine lv_goto (tgt := 106) M.1 M.2.1 dX9_spreads_102 (by decide) ?_
              exact tX9_spreads_106 M hr hlk hRf hRl hRc hRs ih _ _ _ _ _ _ _ _ _ h _ _ _ B (lv_sub hl [0, 1, 2, 3, 4, 5, 6] rfl)
set_option maxRecDepth 100000 in
set_option maxHeartbeats 4000000 in
theorem tX9_spreads {post : Int32 → Pool → Prop} (M : MC p m c cX9_spreads 9 s args RX9) (hr : meth.sig.returnType = (some FieldType.boolean)) (hlk : meth.locks = false) (hRf : 1 ≤ R.frames) (hRl : 22 ≤ R.locals) (hRc : 0 ≤ R.cells) (hRs : 0 ≤ R.slots) : ∀ (v0 : Option Nat) (v1 : Int32) (v2 : Int32) (v3 : Int32) (S : Pool), wX9_spreads post v0 v1 v2 v3 S → ∀ (H : Heap) (locs : List Loc) (ls : Array Slot), PB D cy A s S H locs → lv_has ls 9 [(0, va_rf v0), (1, .int v1), (2, .int v2), (3, .int v3)] → W p l e R s m args below meth c H locs 0 0 (MQ below (va_Qi post (PQ D cy A) A) args s 0 0 A) (F0 m 0 ls []) := by
  intro v0 v1 v2 v3 S h H locs ls B hl
  unfold wX9_spreads at h
  refine g_aload_n M dX9_spreads_0 rfl (lv_at hl 0 rfl) ?_
  refine gfX9_54 M B dX9_spreads_1 h (fun a1 h => ?_)
  refine lv_iload_n M.1 M.2.1 dX9_spreads_4 rfl (lv_at hl 1 rfl) ?_
  refine g_iald M B dX9_spreads_5 h (fun a2 h => ?_)
  refine lv_iconst (v := (-1)) M.1 M.2.1 dX9_spreads_6 (by decide) ?_
  refine lv_icmp_ne (tgt := 12) M.1 M.2.1 dX9_spreads_7 (by decide) (fun c3 => ?_) (fun c3 => ?_)
  · have h := h.2 c3
    refine lv_iconst (v := 0) M.1 M.2.1 dX9_spreads_12 (by decide) ?_
    refine lv_istore (lv' := [(4, .int 0), (0, va_rf v0), (1, .int v1), (2, .int v2), (3, .int v3)]) M.1 M.2.1 dX9_spreads_13 hl (by decide) (fl_e (fl_k rfl rfl (fl_k rfl rfl (fl_k rfl rfl (fl_i rfl fl_0))))) (fun ls hl => ?_)
    refine lv_iconst (v := 0) M.1 M.2.1 dX9_spreads_15 (by decide) ?_
    refine lv_istore (lv' := [(5, .int 0), (4, .int 0), (0, va_rf v0), (1, .int v1), (2, .int v2), (3, .int v3)]) M.1 M.2.1 dX9_spreads_16 hl (by decide) (fl_e (fl_i rfl (fl_k rfl rfl (fl_k rfl rfl (fl_k rfl rfl (fl_k rfl rfl fl_0)))))) (fun ls hl => ?_)
    refine lv_iconst (v := 0) M.1 M.2.1 dX9_spreads_18 (by decide) ?_
    refine lv_istore (lv' := [(6, .int 0), (5, .int 0), (4, .int 0), (0, va_rf v0), (1, .int v1), (2, .int v2), (3, .int v3)]) M.1 M.2.1 dX9_spreads_19 hl (by decide) (fl_e (fl_i rfl (fl_k rfl rfl (fl_k rfl rfl (fl_k rfl rfl (fl_k rfl rfl (fl_k rfl rfl fl_0))))))) (fun ls hl => ?_)
    obtain ⟨n1, h⟩ := h
    exact tX9_spreads_21 M hr hlk hRf hRl hRc hRs n1 _ _ _ _ _ _ _ _ h _ _ _ B (lv_sub hl [3, 4, 5, 6, 2, 1, 0] rfl)
  · have h := h.1 c3
    refine lv_iconst (v := 1) M.1 M.2.1 dX9_spreads_10 (by decide) ?_
    exact g_zret M B hr hlk h (by decide) (by decide) dX9_spreads_11
end
set_option maxRecDepth 100000 in
set_option maxHeartbeats 4000000 in
theorem kX9_spreads (l : Launch) (D : va_G) (cy : Nat → ClassId) {post : Int32 → Pool → Prop} {v0 : Option Nat} {v1 : Int32} {v2 : Int32} {v3 : Int32} {S : Pool} (h : wX9_spreads post v0 v1 v2 v3 S) : MetI l yX9_spreads cX9_spreads 9 (some FieldType.boolean) rmX9_spreads [va_rf v0, .int v1, .int v2, .int v3] D cy S post := by
  intro sz
  refine Met.ofW (cc := cX9_spreads) (maxL := 9) (ret := (some FieldType.boolean)) (by decide) rfl ?_
  intro p e s m args below meth c s₁ B0 hml hv
  obtain ⟨rfl, hpp⟩ := hv
  have hts := atoms_spec (ws := .code yX9_spreads cX9_spreads 9 (some FieldType.boolean) :: Gw) B0.pre
  obtain rfl : s.heap.size = sz := hpp.1
  have hl := lv_entry [va_rf v0, .int v1, .int v2, .int v3] (n := 9) (by rw [sl_r, sl_i, sl_i, sl_i, sl_0]; decide)
  rw [lg_entry_eq]
  rw [la_r, la_i, la_i, la_i, la_0] at hl
  exact tX9_spreads (l := l) (R := rmX9_spreads) ⟨B0.exec, B0.bytes, hml, findClass_of_methodNamed B0.named, fun w hw => hts w (List.mem_cons_of_mem _ hw)⟩ B0.returns B0.notSynchronized (Nat.le_refl _) (Nat.le_refl _) (Nat.le_refl _) (Nat.le_refl _) _ _ _ _ _ h _ _ _ hpp.pb (lv_sub hl [0, 1, 2, 3] rfl)
-- X9_lastStep: LogHuntModel.lastStep(I)I
def wX9_lastStep (post : Int32 → Pool → Prop) (v0 : Option Nat) (v1 : Int32) (S : Pool) : Prop := xR S v0 9 13 fun a1 => xaI S a1 10 v1 fun a2 => xrc S v0 9 (wX9_before (fun a4 S3 => post a4 S3) v0 v1 a2 S)
def rmX9_lastStep : Room := { frames := 1, cells := 0, slots := 0, locals := 23 }
section
variable {p : Program} {l : Launch} {e : Env} {R : Room} {s : State} {m : MethodId} {args : Array Value} {below : List Frame} {meth : Method} {c : Code} {D : va_G} {cy : Nat → ClassId} {A : Nat → Prop}
set_option maxRecDepth 100000 in
set_option maxHeartbeats 4000000 in
theorem tX9_lastStep {post : Int32 → Pool → Prop} (M : MC p m c cX9_lastStep 2 s args RX9) (hr : meth.sig.returnType = (some FieldType.int)) (hlk : meth.locks = false) (hRf : 1 ≤ R.frames) (hRl : 23 ≤ R.locals) (hRc : 0 ≤ R.cells) (hRs : 0 ≤ R.slots) : ∀ (v0 : Option Nat) (v1 : Int32) (S : Pool), wX9_lastStep post v0 v1 S → ∀ (H : Heap) (locs : List Loc) (ls : Array Slot), PB D cy A s S H locs → lv_has ls 2 [(0, va_rf v0), (1, .int v1)] → W p l e R s m args below meth c H locs 0 0 (MQ below (va_Qi post (PQ D cy A) A) args s 0 0 A) (F0 m 0 ls []) := by
  intro v0 v1 S h H locs ls B hl
  unfold wX9_lastStep at h
  refine g_aload_n M dX9_lastStep_0 rfl (lv_at hl 0 rfl) ?_
  refine lv_iload_n M.1 M.2.1 dX9_lastStep_1 rfl (lv_at hl 1 rfl) ?_
  refine g_aload_n M dX9_lastStep_2 rfl (lv_at hl 0 rfl) ?_
  refine gfX9_35 M B dX9_lastStep_3 h (fun a1 h => ?_)
  refine lv_iload_n M.1 M.2.1 dX9_lastStep_6 rfl (lv_at hl 1 rfl) ?_
  refine g_iald M B dX9_lastStep_7 h (fun a2 h => ?_)
  obtain ⟨o1, e1, hL1, hK1, h⟩ := h
  refine g_calli (k1 := 0) (k2 := 0) B (g_runV (n := 2) (As := [.int v1, .int a2]) (rm := rmX9_before) M B e1 (kX9_before (v0 := v0) (v1 := v1) (v2 := a2) l D cy h _) wmX9_209 wiX9_before wsX9_before wnX9 wcdX9_before ⟨rfl, by decide, by decide, by decide +kernel⟩ ⟨Nat.le_trans (by decide) hRf, Nat.le_trans (by decide) hRl⟩ ⟨Nat.le_trans (by decide) hRc, Nat.le_trans (by decide) hRs⟩ hL1 hK1 (by decide) rfl rfl rfl hl.1 rfl ct_0 (by decide) dX9_lastStep_8) (by decide) (by decide) (fun a4 S3 H locs h B => ?_)
  exact g_iret M B hr hlk h (by decide) (by decide) dX9_lastStep_11
end
set_option maxRecDepth 100000 in
set_option maxHeartbeats 4000000 in
theorem kX9_lastStep (l : Launch) (D : va_G) (cy : Nat → ClassId) {post : Int32 → Pool → Prop} {v0 : Option Nat} {v1 : Int32} {S : Pool} (h : wX9_lastStep post v0 v1 S) : MetI l yX9_lastStep cX9_lastStep 2 (some FieldType.int) rmX9_lastStep [va_rf v0, .int v1] D cy S post := by
  intro sz
  refine Met.ofW (cc := cX9_lastStep) (maxL := 2) (ret := (some FieldType.int)) (by decide) rfl ?_
  intro p e s m args below meth c s₁ B0 hml hv
  obtain ⟨rfl, hpp⟩ := hv
  have hts := atoms_spec (ws := .code yX9_lastStep cX9_lastStep 2 (some FieldType.int) :: Gw) B0.pre
  obtain rfl : s.heap.size = sz := hpp.1
  have hl := lv_entry [va_rf v0, .int v1] (n := 2) (by rw [sl_r, sl_i, sl_0]; decide)
  rw [lg_entry_eq]
  rw [la_r, la_i, la_0] at hl
  exact tX9_lastStep (l := l) (R := rmX9_lastStep) ⟨B0.exec, B0.bytes, hml, findClass_of_methodNamed B0.named, fun w hw => hts w (List.mem_cons_of_mem _ hw)⟩ B0.returns B0.notSynchronized (Nat.le_refl _) (Nat.le_refl _) (Nat.le_refl _) (Nat.le_refl _) _ _ _ h _ _ _ hpp.pb (lv_sub hl [0, 1] rfl)
-- X9_work: LogHuntModel.work(II)V
def wX9_work_401 (K274 : Option Nat → Int32 → Int32 → Int32 → Int32 → Pool → Prop) (post : Pool → Prop) (v0 : Option Nat) (v1 : Int32) (v2 : Int32) (v3 : Int32) (v4 : Int32) (S : Pool) : Prop := K274 v0 v1 v2 v3 (v4 + 1) S
def wX9_work_382 (K274 : Option Nat → Int32 → Int32 → Int32 → Int32 → Pool → Prop) (post : Pool → Prop) (v0 : Option Nat) (v1 : Int32) (v2 : Int32) (v3 : Int32) (v4 : Int32) (v5 : Int32) (S : Pool) : Prop := xR S v0 9 37 fun a1 => xsI S a1 10 v5 v4 fun S2 => xI S2 v0 9 36 fun a3 => xpI S2 v0 9 36 (a3 + 1) fun S4 => wX9_work_401 K274 post v0 v1 v2 v3 v4 S4
def wX9_work_331 (K274 : Option Nat → Int32 → Int32 → Int32 → Int32 → Pool → Prop) (post : Pool → Prop) : Nat → Option Nat → Int32 → Int32 → Int32 → Int32 → Int32 → Pool → Prop
  | 0 => fun _ _ _ _ _ _ _ => False
  | n + 1 => fun v0 v1 v2 v3 v4 v5 S => br (v5 ≤ 0) (wX9_work_382 K274 post v0 v1 v2 v3 v4 v5 S) (xR S v0 9 8 fun a2 => xR S v0 9 37 fun a3 => xaI S a3 10 (v5 - 1) fun a4 => xaI S a2 10 a4 fun a5 => xR S v0 9 8 fun a6 => xaI S a6 10 v4 fun a7 => br (a5 ≤ a7) (wX9_work_382 K274 post v0 v1 v2 v3 v4 v5 S) (xR S v0 9 37 fun a9 => xR S v0 9 37 fun a10 => xaI S a10 10 (v5 - 1) fun a11 => xsI S a9 10 v5 a11 fun S12 => wX9_work_331 K274 post n v0 v1 v2 v3 v4 (v5 + (-1)) S12))
def wX9_work_274 (post : Pool → Prop) : Nat → Option Nat → Int32 → Int32 → Int32 → Int32 → Pool → Prop
  | 0 => fun _ _ _ _ _ _ => False
  | n + 1 => fun v0 v1 v2 v3 v4 S => xI S v0 9 4 fun a1 => br (a1 ≤ v4) (post S) (xR S v0 9 34 fun a3 => xaI S a3 11 (((250 : Int32) * v3) + v4) fun a4 => br (a4 = 0) (wX9_work_401 (wX9_work_274 post n) post v0 v1 v2 v3 v4 S) (xrc S v0 9 (wX9_quietBehind (fun a7 S6 => br (a7 = 0) (wX9_work_401 (wX9_work_274 post n) post v0 v1 v2 v3 v4 S6) (xrc S6 v0 9 (wX9_spreads (fun a10 S9 => br (a10 = 0) (wX9_work_401 (wX9_work_274 post n) post v0 v1 v2 v3 v4 S9) (xI S9 v0 9 36 fun a12 => ∃ n1, wX9_work_331 (wX9_work_274 post n) post n1 v0 v1 v2 v3 v4 a12 S9)) v0 v1 v3 v4 S6))) v0 v1 v3 v4 v2 S)))
def wX9_work_259 (K94 : Option Nat → Int32 → Int32 → Int32 → Pool → Prop) (post : Pool → Prop) (v0 : Option Nat) (v1 : Int32) (v2 : Int32) (v3 : Int32) (S : Pool) : Prop := K94 v0 v1 v2 (v3 + 1) S
def wX9_work_253 (K94 : Option Nat → Int32 → Int32 → Int32 → Pool → Prop) (K132 : Option Nat → Int32 → Int32 → Int32 → Int32 → Int32 → Pool → Prop) (post : Pool → Prop) (v0 : Option Nat) (v1 : Int32) (v2 : Int32) (v3 : Int32) (v4 : Int32) (v5 : Int32) (S : Pool) : Prop := K132 v0 v1 v2 v3 v4 (v5 + 1) S
def wX9_work_238 (K94 : Option Nat → Int32 → Int32 → Int32 → Pool → Prop) (K132 : Option Nat → Int32 → Int32 → Int32 → Int32 → Int32 → Pool → Prop) (post : Pool → Prop) (v0 : Option Nat) (v1 : Int32) (v2 : Int32) (v3 : Int32) (v4 : Int32) (v5 : Int32) (v6 : Int32) (S : Pool) : Prop := xR S v0 9 34 fun a1 => xsZ S a1 11 (((250 : Int32) * v3) + v5) v6 fun S2 => wX9_work_253 K94 K132 post v0 v1 v2 v3 v4 v5 S2
def wX9_work_230 (K94 : Option Nat → Int32 → Int32 → Int32 → Pool → Prop) (K132 : Option Nat → Int32 → Int32 → Int32 → Int32 → Int32 → Pool → Prop) (K174 : Option Nat → Int32 → Int32 → Int32 → Int32 → Int32 → Int32 → Int32 → Pool → Prop) (post : Pool → Prop) (v0 : Option Nat) (v1 : Int32) (v2 : Int32) (v3 : Int32) (v4 : Int32) (v5 : Int32) (v7 : Int32) (z0 : Int32) (S : Pool) : Prop := K174 v0 v1 v2 v3 v4 v5 z0 (v7 + 1) S
def wX9_work_229 (K94 : Option Nat → Int32 → Int32 → Int32 → Pool → Prop) (K132 : Option Nat → Int32 → Int32 → Int32 → Int32 → Int32 → Pool → Prop) (K174 : Option Nat → Int32 → Int32 → Int32 → Int32 → Int32 → Int32 → Int32 → Pool → Prop) (post : Pool → Prop) (v0 : Option Nat) (v1 : Int32) (v2 : Int32) (v3 : Int32) (v4 : Int32) (v5 : Int32) (v7 : Int32) (S : Pool) : Prop := wX9_work_230 K94 K132 K174 post v0 v1 v2 v3 v4 v5 v7 0 S
def wX9_work_174 (K94 : Option Nat → Int32 → Int32 → Int32 → Pool → Prop) (K132 : Option Nat → Int32 → Int32 → Int32 → Int32 → Int32 → Pool → Prop) (post : Pool → Prop) : Nat → Option Nat → Int32 → Int32 → Int32 → Int32 → Int32 → Int32 → Int32 → Pool → Prop
  | 0 => fun _ _ _ _ _ _ _ _ _ => False
  | n + 1 => fun v0 v1 v2 v3 v4 v5 v6 v7 S => xI S v0 9 4 fun a1 => br (a1 ≤ v7) (wX9_work_238 K94 K132 post v0 v1 v2 v3 v4 v5 v6 S) (br (v4 < 0) (wX9_work_238 K94 K132 post v0 v1 v2 v3 v4 v5 v6 S) (br (v6 = 0) (xR S v0 9 34 fun a5 => xaI S a5 11 (((250 : Int32) * v4) + v7) fun a6 => br (a6 = 0) (wX9_work_229 K94 K132 (wX9_work_174 K94 K132 post n) post v0 v1 v2 v3 v4 v5 v7 S) (xrc S v0 9 (wX9_leads (fun a9 S8 => br (a9 = 0) (wX9_work_229 K94 K132 (wX9_work_174 K94 K132 post n) post v0 v1 v2 v3 v4 v5 v7 S8) (wX9_work_230 K94 K132 (wX9_work_174 K94 K132 post n) post v0 v1 v2 v3 v4 v5 v7 1 S8)) v0 v1 v4 v7 v3 v5 S))) (wX9_work_238 K94 K132 post v0 v1 v2 v3 v4 v5 v6 S)))
def wX9_work_171 (K94 : Option Nat → Int32 → Int32 → Int32 → Pool → Prop) (K132 : Option Nat → Int32 → Int32 → Int32 → Int32 → Int32 → Pool → Prop) (post : Pool → Prop) (v0 : Option Nat) (v1 : Int32) (v2 : Int32) (v3 : Int32) (v4 : Int32) (v5 : Int32) (v6 : Int32) (S : Pool) : Prop := ∃ n1, wX9_work_174 K94 K132 post n1 v0 v1 v2 v3 v4 v5 v6 0 S
def wX9_work_132 (K94 : Option Nat → Int32 → Int32 → Int32 → Pool → Prop) (post : Pool → Prop) : Nat → Option Nat → Int32 → Int32 → Int32 → Int32 → Int32 → Pool → Prop
  | 0 => fun _ _ _ _ _ _ _ => False
  | n + 1 => fun v0 v1 v2 v3 v4 v5 S => xI S v0 9 4 fun a1 => br (a1 ≤ v5) (wX9_work_259 K94 post v0 v1 v2 v3 S) (xR S v0 9 33 fun a3 => xaI S a3 11 (((250 : Int32) * v3) + v5) fun a4 => br (a4 = 0) (wX9_work_253 K94 (wX9_work_132 K94 post n) post v0 v1 v2 v3 v4 v5 S) (br (0 ≤ v4) (wX9_work_171 K94 (wX9_work_132 K94 post n) post v0 v1 v2 v3 v4 v5 0 S) (wX9_work_171 K94 (wX9_work_132 K94 post n) post v0 v1 v2 v3 v4 v5 1 S)))
def wX9_work_94 (post : Pool → Prop) : Nat → Option Nat → Int32 → Int32 → Int32 → Pool → Prop
  | 0 => fun _ _ _ _ _ => False
  | n + 1 => fun v0 v1 v2 v3 S => xR S v0 9 13 fun a1 => xaI S a1 10 v1 fun a2 => br (a2 ≤ v3) (xrc S v0 9 (wX9_lastStep (fun a5 S4 => ∃ n1, wX9_work_274 post n1 v0 v1 v2 a5 0 S4) v0 v1 S)) (xR S v0 9 14 fun a6 => xaI S a6 11 (((6 : Int32) * v1) + v3) fun a7 => br (a7 = 0) (xrc S v0 9 (wX9_before (fun a10 S9 => ∃ n1, wX9_work_132 (wX9_work_94 post n) post n1 v0 v1 v2 v3 a10 0 S9) v0 v1 v3 S)) (wX9_work_259 (wX9_work_94 post n) post v0 v1 v2 v3 S))
def wX9_work_49 (K36 : Option Nat → Int32 → Int32 → Int32 → Pool → Prop) (post : Pool → Prop) : Nat → Option Nat → Int32 → Int32 → Int32 → Int32 → Pool → Prop
  | 0 => fun _ _ _ _ _ _ => False
  | n + 1 => fun v0 v1 v2 v3 v4 S => xI S v0 9 4 fun a1 => br (a1 ≤ v4) (K36 v0 v1 v2 (v3 + 1) S) (xR S v0 9 33 fun a3 => xrc S v0 9 (wX9_fits (fun a5 S4 => xsZ S4 a3 11 (((250 : Int32) * v3) + v4) a5 fun S6 => wX9_work_49 K36 post n v0 v1 v2 v3 (v4 + 1) S6) v0 v1 v3 v4 v2 S))
def wX9_work_36 (post : Pool → Prop) : Nat → Option Nat → Int32 → Int32 → Int32 → Pool → Prop
  | 0 => fun _ _ _ _ _ => False
  | n + 1 => fun v0 v1 v2 v3 S => xR S v0 9 13 fun a1 => xaI S a1 10 v1 fun a2 => br (a2 ≤ v3) (∃ n1, wX9_work_94 post n1 v0 v1 v2 0 S) (∃ n1, wX9_work_49 (wX9_work_36 post n) post n1 v0 v1 v2 v3 0 S)
def wX9_work_7 (post : Pool → Prop) : Nat → Option Nat → Int32 → Int32 → Int32 → Pool → Prop
  | 0 => fun _ _ _ _ _ => False
  | n + 1 => fun v0 v1 v2 v3 S => br (1500 ≤ v3) (∃ n1, wX9_work_36 post n1 v0 v1 v2 0 S) (xR S v0 9 33 fun a2 => xsZ S a2 11 v3 0 fun S3 => xR S3 v0 9 34 fun a4 => xsZ S3 a4 11 v3 0 fun S5 => wX9_work_7 post n v0 v1 v2 (v3 + 1) S5)
def wX9_work (post : Pool → Prop) (v0 : Option Nat) (v1 : Int32) (v2 : Int32) (S : Pool) : Prop := xpI S v0 9 36 0 fun S1 => ∃ n1, wX9_work_7 post n1 v0 v1 v2 0 S1
def rmX9_work : Room := { frames := 2, cells := 0, slots := 0, locals := 50 }
section
variable {p : Program} {l : Launch} {e : Env} {R : Room} {s : State} {m : MethodId} {args : Array Value} {below : List Frame} {meth : Method} {c : Code} {D : va_G} {cy : Nat → ClassId} {A : Nat → Prop}
set_option maxRecDepth 100000 in
set_option maxHeartbeats 4000000 in
theorem tX9_work_401 {K274 : Option Nat → Int32 → Int32 → Int32 → Int32 → Pool → Prop} {post : Pool → Prop} (M : MC p m c cX9_work 8 s args RX9) (hr : meth.sig.returnType = none) (hlk : meth.locks = false) (hRf : 2 ≤ R.frames) (hRl : 50 ≤ R.locals) (hRc : 0 ≤ R.cells) (hRs : 0 ≤ R.slots) (hK274 : ∀ (v0 : Option Nat) (v1 : Int32) (v2 : Int32) (v3 : Int32) (v4 : Int32) (S : Pool), K274 v0 v1 v2 v3 v4 S → ∀ (H : Heap) (locs : List Loc) (ls : Array Slot), PB D cy A s S H locs → lv_has ls 8 [(0, va_rf v0), (1, .int v1), (2, .int v2), (3, .int v3), (4, .int v4)] → W p l e R s m args below meth c H locs 0 0 (MQ below (va_Qv post (PQ D cy A) A) args s 0 0 A) (F0 m 274 ls [])) : ∀ (v0 : Option Nat) (v1 : Int32) (v2 : Int32) (v3 : Int32) (v4 : Int32) (S : Pool), wX9_work_401 K274 post v0 v1 v2 v3 v4 S → ∀ (H : Heap) (locs : List Loc) (ls : Array Slot), PB D cy A s S H locs → lv_has ls 8 [(0, va_rf v0), (1, .int v1), (2, .int v2), (3, .int v3), (4, .int v4)] → W p l e R s m args below meth c H locs 0 0 (MQ below (va_Qv post (PQ D cy A) A) args s 0 0 A) (F0 m 401 ls []) := by
  intro v0 v1 v2 v3 v4 S h H locs ls B hl
  unfold wX9_work_401 at h
  refine lv_iinc (v := v4 + 1) (lv' := [(4, .int (v4 + 1)), (0, va_rf v0), (1, .int v1), (2, .int v2), (3, .int v3)]) M.1 M.2.1 dX9_work_401 hl (k := 4) rfl (by rfl) (by decide) (fl_e (fl_k rfl rfl (fl_k rfl rfl (fl_k rfl rfl (fl_i rfl (fl_d rfl fl_0)))))) (fun ls hl => ?_)
  refine lv_goto (tgt := 274) M.1 M.2.1 dX9_work_404 (by decide) ?_
  exact hK274 _ _ _ _ _ _ h _ _ _ B (lv_sub hl [1, 2, 3, 4, 0] rfl)
set_option maxRecDepth 100000 in
set_option maxHeartbeats 4000000 in
theorem tX9_work_382 {K274 : Option Nat → Int32 → Int32 → Int32 → Int32 → Pool → Prop} {post : Pool → Prop} (M : MC p m c cX9_work 8 s args RX9) (hr : meth.sig.returnType = none) (hlk : meth.locks = false) (hRf : 2 ≤ R.frames) (hRl : 50 ≤ R.locals) (hRc : 0 ≤ R.cells) (hRs : 0 ≤ R.slots) (hK274 : ∀ (v0 : Option Nat) (v1 : Int32) (v2 : Int32) (v3 : Int32) (v4 : Int32) (S : Pool), K274 v0 v1 v2 v3 v4 S → ∀ (H : Heap) (locs : List Loc) (ls : Array Slot), PB D cy A s S H locs → lv_has ls 8 [(0, va_rf v0), (1, .int v1), (2, .int v2), (3, .int v3), (4, .int v4)] → W p l e R s m args below meth c H locs 0 0 (MQ below (va_Qv post (PQ D cy A) A) args s 0 0 A) (F0 m 274 ls [])) : ∀ (v0 : Option Nat) (v1 : Int32) (v2 : Int32) (v3 : Int32) (v4 : Int32) (v5 : Int32) (S : Pool), wX9_work_382 K274 post v0 v1 v2 v3 v4 v5 S → ∀ (H : Heap) (locs : List Loc) (ls : Array Slot), PB D cy A s S H locs → lv_has ls 8 [(0, va_rf v0), (1, .int v1), (2, .int v2), (3, .int v3), (4, .int v4), (5, .int v5)] → W p l e R s m args below meth c H locs 0 0 (MQ below (va_Qv post (PQ D cy A) A) args s 0 0 A) (F0 m 382 ls []) := by
  intro v0 v1 v2 v3 v4 v5 S h H locs ls B hl
  unfold wX9_work_382 at h
  refine g_aload_n M dX9_work_382 rfl (lv_at hl 0 rfl) ?_
  refine gfX9_87 M B dX9_work_383 h (fun a1 h => ?_)
  refine lv_iload M.1 M.2.1 dX9_work_386 (lv_at hl 5 rfl) ?_
  refine lv_iload M.1 M.2.1 dX9_work_388 (lv_at hl 4 rfl) ?_
  refine g_iast M B dX9_work_390 h (fun S2 H locs h B => ?_)
  refine g_aload_n M dX9_work_391 rfl (lv_at hl 0 rfl) ?_
  refine lv_dup M.1 M.2.1 dX9_work_392 (rf_cat _) ?_
  refine gfX9_212 M B dX9_work_393 h (fun a3 h => ?_)
  refine lv_iconst (v := 1) M.1 M.2.1 dX9_work_396 (by decide) ?_
  refine lv_iadd M.1 M.2.1 dX9_work_397 ?_
  refine gpX9_212 M B dX9_work_398 h (fun S4 H locs h B => ?_)
  exact tX9_work_401 M hr hlk hRf hRl hRc hRs hK274 _ _ _ _ _ _ h _ _ _ B (lv_sub hl [0, 1, 2, 3, 4] rfl)
set_option maxRecDepth 100000 in
set_option maxHeartbeats 4000000 in
theorem tX9_work_331 {K274 : Option Nat → Int32 → Int32 → Int32 → Int32 → Pool → Prop} {post : Pool → Prop} (M : MC p m c cX9_work 8 s args RX9) (hr : meth.sig.returnType = none) (hlk : meth.locks = false) (hRf : 2 ≤ R.frames) (hRl : 50 ≤ R.locals) (hRc : 0 ≤ R.cells) (hRs : 0 ≤ R.slots) (hK274 : ∀ (v0 : Option Nat) (v1 : Int32) (v2 : Int32) (v3 : Int32) (v4 : Int32) (S : Pool), K274 v0 v1 v2 v3 v4 S → ∀ (H : Heap) (locs : List Loc) (ls : Array Slot), PB D cy A s S H locs → lv_has ls 8 [(0, va_rf v0), (1, .int v1), (2, .int v2), (3, .int v3), (4, .int v4)] → W p l e R s m args below meth c H locs 0 0 (MQ below (va_Qv post (PQ D cy A) A) args s 0 0 A) (F0 m 274 ls [])) : ∀ (n : Nat) (v0 : Option Nat) (v1 : Int32) (v2 : Int32) (v3 : Int32) (v4 : Int32) (v5 : Int32) (S : Pool), wX9_work_331 K274 post n v0 v1 v2 v3 v4 v5 S → ∀ (H : Heap) (locs : List Loc) (ls : Array Slot), PB D cy A s S H locs → lv_has ls 8 [(0, va_rf v0), (1, .int v1), (2, .int v2), (3, .int v3), (4, .int v4), (5, .int v5)] → W p l e R s m args below meth c H locs 0 0 (MQ below (va_Qv post (PQ D cy A) A) args s 0 0 A) (F0 m 331 ls []) := by
  intro n
  induction n with
  | zero => intro v0 v1 v2 v3 v4 v5 S h; exact False.elim h
  | succ n ih =>
    intro v0 v1 v2 v3 v4 v5 S h H locs ls B hl
    unfold wX9_work_331 at h
    refine lv_iload M.1 M.2.1 dX9_work_331 (lv_at hl 5 rfl) ?_
    refine lv_if_le (tgt := 382) M.1 M.2.1 dX9_work_333 (by decide) (fun c1 => ?_) (fun c1 => ?_)
    · have h := h.1 c1
      exact tX9_work_382 M hr hlk hRf hRl hRc hRs hK274 _ _ _ _ _ _ _ h _ _ _ B (lv_sub hl [0, 1, 2, 3, 4, 5] rfl)
    · have h := h.2 c1
      refine g_aload_n M dX9_work_336 rfl (lv_at hl 0 rfl) ?_
      refine gfX9_23 M B dX9_work_337 h (fun a2 h => ?_)
      refine g_aload_n M dX9_work_340 rfl (lv_at hl 0 rfl) ?_
      refine gfX9_87 M B dX9_work_341 h (fun a3 h => ?_)
      refine lv_iload M.1 M.2.1 dX9_work_344 (lv_at hl 5 rfl) ?_
      refine lv_iconst (v := 1) M.1 M.2.1 dX9_work_346 (by decide) ?_
      refine lv_isub M.1 M.2.1 dX9_work_347 ?_
      refine g_iald M B dX9_work_348 h (fun a4 h => ?_)
      refine g_iald M B dX9_work_349 h (fun a5 h => ?_)
      refine g_aload_n M dX9_work_350 rfl (lv_at hl 0 rfl) ?_
      refine gfX9_23 M B dX9_work_351 h (fun a6 h => ?_)
      refine lv_iload M.1 M.2.1 dX9_work_354 (lv_at hl 4 rfl) ?_
      refine g_iald M B dX9_work_356 h (fun a7 h => ?_)
      refine lv_icmp_le (tgt := 382) M.1 M.2.1 dX9_work_357 (by decide) (fun c8 => ?_) (fun c8 => ?_)
      · have h := h.1 c8
        exact tX9_work_382 M hr hlk hRf hRl hRc hRs hK274 _ _ _ _ _ _ _ h _ _ _ B (lv_sub hl [0, 1, 2, 3, 4, 5] rfl)
      · have h := h.2 c8
        refine g_aload_n M dX9_work_360 rfl (lv_at hl 0 rfl) ?_
        refine gfX9_87 M B dX9_work_361 h (fun a9 h => ?_)
        refine lv_iload M.1 M.2.1 dX9_work_364 (lv_at hl 5 rfl) ?_
        refine g_aload_n M dX9_work_366 rfl (lv_at hl 0 rfl) ?_
        refine gfX9_87 M B dX9_work_367 h (fun a10 h => ?_)
        refine lv_iload M.1 M.2.1 dX9_work_370 (lv_at hl 5 rfl) ?_
        refine lv_iconst (v := 1) M.1 M.2.1 dX9_work_372 (by decide) ?_
        refine lv_isub M.1 M.2.1 dX9_work_373 ?_
        refine g_iald M B dX9_work_374 h (fun a11 h => ?_)
        refine g_iast M B dX9_work_375 h (fun S12 H locs h B => ?_)
        refine lv_iinc (v := v5 + (-1)) (lv' := [(5, .int (v5 + (-1))), (0, va_rf v0), (1, .int v1), (2, .int v2), (3, .int v3), (4, .int v4)]) M.1 M.2.1 dX9_work_376 hl (k := 5) rfl (by rfl) (by decide) (fl_e (fl_k rfl rfl (fl_k rfl rfl (fl_k rfl rfl (fl_k rfl rfl (fl_i rfl (fl_d rfl fl_0))))))) (fun ls hl => ?_)
        refine lv_goto (tgt := 331) M.1 M.2.1 dX9_work_379 (by decide) ?_
        exact ih _ _ _ _ _ _ _ h _ _ _ B (lv_sub hl [1, 2, 3, 4, 5, 0] rfl)
set_option maxRecDepth 100000 in
set_option maxHeartbeats 4000000 in
theorem tX9_work_274 {post : Pool → Prop} (M : MC p m c cX9_work 8 s args RX9) (hr : meth.sig.returnType = none) (hlk : meth.locks = false) (hRf : 2 ≤ R.frames) (hRl : 50 ≤ R.locals) (hRc : 0 ≤ R.cells) (hRs : 0 ≤ R.slots) : ∀ (n : Nat) (v0 : Option Nat) (v1 : Int32) (v2 : Int32) (v3 : Int32) (v4 : Int32) (S : Pool), wX9_work_274 post n v0 v1 v2 v3 v4 S → ∀ (H : Heap) (locs : List Loc) (ls : Array Slot), PB D cy A s S H locs → lv_has ls 8 [(0, va_rf v0), (1, .int v1), (2, .int v2), (3, .int v3), (4, .int v4)] → W p l e R s m args below meth c H locs 0 0 (MQ below (va_Qv post (PQ D cy A) A) args s 0 0 A) (F0 m 274 ls []) := by
  intro n
  induction n with
  | zero => intro v0 v1 v2 v3 v4 S h; exact False.elim h
  | succ n ih =>
    intro v0 v1 v2 v3 v4 S h H locs ls B hl
    unfold wX9_work_274 at h
    refine lv_iload M.1 M.2.1 dX9_work_274 (lv_at hl 4 rfl) ?_
    refine g_aload_n M dX9_work_276 rfl (lv_at hl 0 rfl) ?_
    refine gfX9_105 M B dX9_work_277 h (fun a1 h => ?_)
    refine lv_icmp_ge (tgt := 407) M.1 M.2.1 dX9_work_280 (by decide) (fun c2 => ?_) (fun c2 => ?_)
    · have h := h.1 c2
      exact g_vret M B hr hlk h (by decide) (by decide) dX9_work_407
    · have h := h.2 c2
      refine g_aload_n M dX9_work_283 rfl (lv_at hl 0 rfl) ?_
      refine gfX9_81 M B dX9_work_284 h (fun a3 h => ?_)
      refine lv_sipush (v := 250) M.1 M.2.1 dX9_work_287 (by decide) ?_
      refine lv_iload_n M.1 M.2.1 dX9_work_290 rfl (lv_at hl 3 rfl) ?_
      refine lv_imul M.1 M.2.1 dX9_work_291 ?_
      refine lv_iload M.1 M.2.1 dX9_work_292 (lv_at hl 4 rfl) ?_
      refine lv_iadd M.1 M.2.1 dX9_work_294 ?_
      refine g_zald M B dX9_work_295 h (fun a4 h => ?_)
      refine lv_if_eq (tgt := 401) M.1 M.2.1 dX9_work_296 (by decide) (fun c5 => ?_) (fun c5 => ?_)
      · have h := h.1 c5
        exact tX9_work_401 M hr hlk hRf hRl hRc hRs ih _ _ _ _ _ _ h _ _ _ B (lv_sub hl [0, 1, 2, 3, 4] rfl)
      · have h := h.2 c5
        refine g_aload_n M dX9_work_299 rfl (lv_at hl 0 rfl) ?_
        refine lv_iload_n M.1 M.2.1 dX9_work_300 rfl (lv_at hl 1 rfl) ?_
        refine lv_iload_n M.1 M.2.1 dX9_work_301 rfl (lv_at hl 3 rfl) ?_
        refine lv_iload M.1 M.2.1 dX9_work_302 (lv_at hl 4 rfl) ?_
        refine lv_iload_n M.1 M.2.1 dX9_work_304 rfl (lv_at hl 2 rfl) ?_
        obtain ⟨o1, e1, hL1, hK1, h⟩ := h
        refine g_calli (k1 := 0) (k2 := 0) B (g_runV (n := 4) (As := [.int v1, .int v3, .int v4, .int v2]) (rm := rmX9_quietBehind) M B e1 (kX9_quietBehind (v0 := v0) (v1 := v1) (v2 := v3) (v3 := v4) (v4 := v2) l D cy h _) wmX9_227 wiX9_quietBehind wsX9_quietBehind wnX9 wcdX9_quietBehind ⟨rfl, by decide, by decide, by decide +kernel⟩ ⟨Nat.le_trans (by decide) hRf, Nat.le_trans (by decide) hRl⟩ ⟨Nat.le_trans (by decide) hRc, Nat.le_trans (by decide) hRs⟩ hL1 hK1 (by decide) rfl rfl rfl hl.1 rfl ct_0 (by decide) dX9_work_305) (by decide) (by decide) (fun a7 S6 H locs h B => ?_)
        refine lv_if_eq (tgt := 401) M.1 M.2.1 dX9_work_308 (by decide) (fun c8 => ?_) (fun c8 => ?_)
        · have h := h.1 c8
          exact tX9_work_401 M hr hlk hRf hRl hRc hRs ih _ _ _ _ _ _ h _ _ _ B (lv_sub hl [0, 1, 2, 3, 4] rfl)
        · have h := h.2 c8
          refine g_aload_n M dX9_work_311 rfl (lv_at hl 0 rfl) ?_
          refine lv_iload_n M.1 M.2.1 dX9_work_312 rfl (lv_at hl 1 rfl) ?_
          refine lv_iload_n M.1 M.2.1 dX9_work_313 rfl (lv_at hl 3 rfl) ?_
          refine lv_iload M.1 M.2.1 dX9_work_314 (lv_at hl 4 rfl) ?_
          obtain ⟨o1, e1, hL1, hK1, h⟩ := h
          refine g_calli (k1 := 0) (k2 := 0) B (g_runV (n := 3) (As := [.int v1, .int v3, .int v4]) (rm := rmX9_spreads) M B e1 (kX9_spreads (v0 := v0) (v1 := v1) (v2 := v3) (v3 := v4) l D cy h _) wmX9_230 wiX9_spreads wsX9_spreads wnX9 wcdX9_spreads ⟨rfl, by decide, by decide, by decide +kernel⟩ ⟨Nat.le_trans (by decide) hRf, Nat.le_trans (by decide) hRl⟩ ⟨Nat.le_trans (by decide) hRc, Nat.le_trans (by decide) hRs⟩ hL1 hK1 (by decide) rfl rfl rfl hl.1 rfl ct_0 (by decide) dX9_work_316) (by decide) (by decide) (fun a10 S9 H locs h B => ?_)
          refine lv_if_ne (tgt := 325) M.1 M.2.1 dX9_work_319 (by decide) (fun c11 => ?_) (fun c11 => ?_)
          · have h := h.2 c11
            refine g_aload_n M dX9_work_325 rfl (lv_at hl 0 rfl) ?_
            refine gfX9_212 M B dX9_work_326 h (fun a12 h => ?_)
            refine lv_istore (lv' := [(5, .int a12), (0, va_rf v0), (1, .int v1), (2, .int v2), (3, .int v3), (4, .int v4)]) M.1 M.2.1 dX9_work_329 hl (by decide) (fl_e (fl_k rfl rfl (fl_k rfl rfl (fl_k rfl rfl (fl_k rfl rfl (fl_i rfl fl_0)))))) (fun ls hl => ?_)
            obtain ⟨n1, h⟩ := h
            exact tX9_work_331 M hr hlk hRf hRl hRc hRs ih n1 _ _ _ _ _ _ _ h _ _ _ B (lv_sub hl [1, 2, 3, 4, 5, 0] rfl)
          · have h := h.1 c11
            refine lv_goto (tgt := 401) M.1 M.2.1 dX9_work_322 (by decide) ?_
            exact tX9_work_401 M hr hlk hRf hRl hRc hRs ih _ _ _ _ _ _ h _ _ _ B (lv_sub hl [0, 1, 2, 3, 4] rfl)
set_option maxRecDepth 100000 in
set_option maxHeartbeats 4000000 in
theorem tX9_work_259 {K94 : Option Nat → Int32 → Int32 → Int32 → Pool → Prop} {post : Pool → Prop} (M : MC p m c cX9_work 8 s args RX9) (hr : meth.sig.returnType = none) (hlk : meth.locks = false) (hRf : 2 ≤ R.frames) (hRl : 50 ≤ R.locals) (hRc : 0 ≤ R.cells) (hRs : 0 ≤ R.slots) (hK94 : ∀ (v0 : Option Nat) (v1 : Int32) (v2 : Int32) (v3 : Int32) (S : Pool), K94 v0 v1 v2 v3 S → ∀ (H : Heap) (locs : List Loc) (ls : Array Slot), PB D cy A s S H locs → lv_has ls 8 [(0, va_rf v0), (1, .int v1), (2, .int v2), (3, .int v3)] → W p l e R s m args below meth c H locs 0 0 (MQ below (va_Qv post (PQ D cy A) A) args s 0 0 A) (F0 m 94 ls [])) : ∀ (v0 : Option Nat) (v1 : Int32) (v2 : Int32) (v3 : Int32) (S : Pool), wX9_work_259 K94 post v0 v1 v2 v3 S → ∀ (H : Heap) (locs : List Loc) (ls : Array Slot), PB D cy A s S H locs → lv_has ls 8 [(0, va_rf v0), (1, .int v1), (2, .int v2), (3, .int v3)] → W p l e R s m args below meth c H locs 0 0 (MQ below (va_Qv post (PQ D cy A) A) args s 0 0 A) (F0 m 259 ls []) := by
  intro v0 v1 v2 v3 S h H locs ls B hl
  unfold wX9_work_259 at h
  refine lv_iinc (v := v3 + 1) (lv' := [(3, .int (v3 + 1)), (0, va_rf v0), (1, .int v1), (2, .int v2)]) M.1 M.2.1 dX9_work_259 hl (k := 3) rfl (by rfl) (by decide) (fl_e (fl_k rfl rfl (fl_k rfl rfl (fl_i rfl (fl_d rfl fl_0))))) (fun ls hl => ?_)
  refine lv_goto (tgt := 94) M.1 M.2.1 dX9_work_262 (by decide) ?_
  exact hK94 _ _ _ _ _ h _ _ _ B (lv_sub hl [1, 2, 3, 0] rfl)
set_option maxRecDepth 100000 in
set_option maxHeartbeats 4000000 in
theorem tX9_work_253 {K94 : Option Nat → Int32 → Int32 → Int32 → Pool → Prop} {K132 : Option Nat → Int32 → Int32 → Int32 → Int32 → Int32 → Pool → Prop} {post : Pool → Prop} (M : MC p m c cX9_work 8 s args RX9) (hr : meth.sig.returnType = none) (hlk : meth.locks = false) (hRf : 2 ≤ R.frames) (hRl : 50 ≤ R.locals) (hRc : 0 ≤ R.cells) (hRs : 0 ≤ R.slots) (hK94 : ∀ (v0 : Option Nat) (v1 : Int32) (v2 : Int32) (v3 : Int32) (S : Pool), K94 v0 v1 v2 v3 S → ∀ (H : Heap) (locs : List Loc) (ls : Array Slot), PB D cy A s S H locs → lv_has ls 8 [(0, va_rf v0), (1, .int v1), (2, .int v2), (3, .int v3)] → W p l e R s m args below meth c H locs 0 0 (MQ below (va_Qv post (PQ D cy A) A) args s 0 0 A) (F0 m 94 ls [])) (hK132 : ∀ (v0 : Option Nat) (v1 : Int32) (v2 : Int32) (v3 : Int32) (v4 : Int32) (v5 : Int32) (S : Pool), K132 v0 v1 v2 v3 v4 v5 S → ∀ (H : Heap) (locs : List Loc) (ls : Array Slot), PB D cy A s S H locs → lv_has ls 8 [(0, va_rf v0), (1, .int v1), (2, .int v2), (3, .int v3), (4, .int v4), (5, .int v5)] → W p l e R s m args below meth c H locs 0 0 (MQ below (va_Qv post (PQ D cy A) A) args s 0 0 A) (F0 m 132 ls [])) : ∀ (v0 : Option Nat) (v1 : Int32) (v2 : Int32) (v3 : Int32) (v4 : Int32) (v5 : Int32) (S : Pool), wX9_work_253 K94 K132 post v0 v1 v2 v3 v4 v5 S → ∀ (H : Heap) (locs : List Loc) (ls : Array Slot), PB D cy A s S H locs → lv_has ls 8 [(0, va_rf v0), (1, .int v1), (2, .int v2), (3, .int v3), (4, .int v4), (5, .int v5)] → W p l e R s m args below meth c H locs 0 0 (MQ below (va_Qv post (PQ D cy A) A) args s 0 0 A) (F0 m 253 ls []) := by
  intro v0 v1 v2 v3 v4 v5 S h H locs ls B hl
  unfold wX9_work_253 at h
  refine lv_iinc (v := v5 + 1) (lv' := [(5, .int (v5 + 1)), (0, va_rf v0), (1, .int v1), (2, .int v2), (3, .int v3), (4, .int v4)]) M.1 M.2.1 dX9_work_253 hl (k := 5) rfl (by rfl) (by decide) (fl_e (fl_k rfl rfl (fl_k rfl rfl (fl_k rfl rfl (fl_k rfl rfl (fl_i rfl (fl_d rfl fl_0))))))) (fun ls hl => ?_)
  refine lv_goto (tgt := 132) M.1 M.2.1 dX9_work_256 (by decide) ?_
  exact hK132 _ _ _ _ _ _ _ h _ _ _ B (lv_sub hl [1, 2, 3, 4, 5, 0] rfl)
set_option maxRecDepth 100000 in
set_option maxHeartbeats 4000000 in
theorem tX9_work_238 {K94 : Option Nat → Int32 → Int32 → Int32 → Pool → Prop} {K132 : Option Nat → Int32 → Int32 → Int32 → Int32 → Int32 → Pool → Prop} {post : Pool → Prop} (M : MC p m c cX9_work 8 s args RX9) (hr : meth.sig.returnType = none) (hlk : meth.locks = false) (hRf : 2 ≤ R.frames) (hRl : 50 ≤ R.locals) (hRc : 0 ≤ R.cells) (hRs : 0 ≤ R.slots) (hK94 : ∀ (v0 : Option Nat) (v1 : Int32) (v2 : Int32) (v3 : Int32) (S : Pool), K94 v0 v1 v2 v3 S → ∀ (H : Heap) (locs : List Loc) (ls : Array Slot), PB D cy A s S H locs → lv_has ls 8 [(0, va_rf v0), (1, .int v1), (2, .int v2), (3, .int v3)] → W p l e R s m args below meth c H locs 0 0 (MQ below (va_Qv post (PQ D cy A) A) args s 0 0 A) (F0 m 94 ls [])) (hK132 : ∀ (v0 : Option Nat) (v1 : Int32) (v2 : Int32) (v3 : Int32) (v4 : Int32) (v5 : Int32) (S : Pool), K132 v0 v1 v2 v3 v4 v5 S → ∀ (H : Heap) (locs : List Loc) (ls : Array Slot), PB D cy A s S H locs → lv_has ls 8 [(0, va_rf v0), (1, .int v1), (2, .int v2), (3, .int v3), (4, .int v4), (5, .int v5)] → W p l e R s m args below meth c H locs 0 0 (MQ below (va_Qv post (PQ D cy A) A) args s 0 0 A) (F0 m 132 ls [])) : ∀ (v0 : Option Nat) (v1 : Int32) (v2 : Int32) (v3 : Int32) (v4 : Int32) (v5 : Int32) (v6 : Int32) (S : Pool), wX9_work_238 K94 K132 post v0 v1 v2 v3 v4 v5 v6 S → ∀ (H : Heap) (locs : List Loc) (ls : Array Slot), PB D cy A s S H locs → lv_has ls 8 [(0, va_rf v0), (1, .int v1), (2, .int v2), (3, .int v3), (4, .int v4), (5, .int v5), (6, .int v6)] → W p l e R s m args below meth c H locs 0 0 (MQ below (va_Qv post (PQ D cy A) A) args s 0 0 A) (F0 m 238 ls []) := by
  intro v0 v1 v2 v3 v4 v5 v6 S h H locs ls B hl
  unfold wX9_work_238 at h
  refine g_aload_n M dX9_work_238 rfl (lv_at hl 0 rfl) ?_
  refine gfX9_81 M B dX9_work_239 h (fun a1 h => ?_)
  refine lv_sipush (v := 250) M.1 M.2.1 dX9_work_242 (by decide) ?_
  refine lv_iload_n M.1 M.2.1 dX9_work_245 rfl (lv_at hl 3 rfl) ?_
  refine lv_imul M.1 M.2.1 dX9_work_246 ?_
  refine lv_iload M.1 M.2.1 dX9_work_247 (lv_at hl 5 rfl) ?_
  refine lv_iadd M.1 M.2.1 dX9_work_249 ?_
  refine lv_iload M.1 M.2.1 dX9_work_250 (lv_at hl 6 rfl) ?_
  refine g_zast M B dX9_work_252 h (fun S2 H locs h B => ?_)
  exact tX9_work_253 M hr hlk hRf hRl hRc hRs hK94 hK132 _ _ _ _ _ _ _ h _ _ _ B (lv_sub hl [0, 1, 2, 3, 4, 5] rfl)
set_option maxRecDepth 100000 in
set_option maxHeartbeats 4000000 in
theorem tX9_work_230 {K94 : Option Nat → Int32 → Int32 → Int32 → Pool → Prop} {K132 : Option Nat → Int32 → Int32 → Int32 → Int32 → Int32 → Pool → Prop} {K174 : Option Nat → Int32 → Int32 → Int32 → Int32 → Int32 → Int32 → Int32 → Pool → Prop} {post : Pool → Prop} (M : MC p m c cX9_work 8 s args RX9) (hr : meth.sig.returnType = none) (hlk : meth.locks = false) (hRf : 2 ≤ R.frames) (hRl : 50 ≤ R.locals) (hRc : 0 ≤ R.cells) (hRs : 0 ≤ R.slots) (hK94 : ∀ (v0 : Option Nat) (v1 : Int32) (v2 : Int32) (v3 : Int32) (S : Pool), K94 v0 v1 v2 v3 S → ∀ (H : Heap) (locs : List Loc) (ls : Array Slot), PB D cy A s S H locs → lv_has ls 8 [(0, va_rf v0), (1, .int v1), (2, .int v2), (3, .int v3)] → W p l e R s m args below meth c H locs 0 0 (MQ below (va_Qv post (PQ D cy A) A) args s 0 0 A) (F0 m 94 ls [])) (hK132 : ∀ (v0 : Option Nat) (v1 : Int32) (v2 : Int32) (v3 : Int32) (v4 : Int32) (v5 : Int32) (S : Pool), K132 v0 v1 v2 v3 v4 v5 S → ∀ (H : Heap) (locs : List Loc) (ls : Array Slot), PB D cy A s S H locs → lv_has ls 8 [(0, va_rf v0), (1, .int v1), (2, .int v2), (3, .int v3), (4, .int v4), (5, .int v5)] → W p l e R s m args below meth c H locs 0 0 (MQ below (va_Qv post (PQ D cy A) A) args s 0 0 A) (F0 m 132 ls [])) (hK174 : ∀ (v0 : Option Nat) (v1 : Int32) (v2 : Int32) (v3 : Int32) (v4 : Int32) (v5 : Int32) (v6 : Int32) (v7 : Int32) (S : Pool), K174 v0 v1 v2 v3 v4 v5 v6 v7 S → ∀ (H : Heap) (locs : List Loc) (ls : Array Slot), PB D cy A s S H locs → lv_has ls 8 [(0, va_rf v0), (1, .int v1), (2, .int v2), (3, .int v3), (4, .int v4), (5, .int v5), (6, .int v6), (7, .int v7)] → W p l e R s m args below meth c H locs 0 0 (MQ below (va_Qv post (PQ D cy A) A) args s 0 0 A) (F0 m 174 ls [])) : ∀ (v0 : Option Nat) (v1 : Int32) (v2 : Int32) (v3 : Int32) (v4 : Int32) (v5 : Int32) (v7 : Int32) (z0 : Int32) (S : Pool), wX9_work_230 K94 K132 K174 post v0 v1 v2 v3 v4 v5 v7 z0 S → ∀ (H : Heap) (locs : List Loc) (ls : Array Slot), PB D cy A s S H locs → lv_has ls 8 [(0, va_rf v0), (1, .int v1), (2, .int v2), (3, .int v3), (4, .int v4), (5, .int v5), (7, .int v7)] → W p l e R s m args below meth c H locs 0 0 (MQ below (va_Qv post (PQ D cy A) A) args s 0 0 A) (F0 m 230 ls [.int z0]) := by
  intro v0 v1 v2 v3 v4 v5 v7 z0 S h H locs ls B hl
  unfold wX9_work_230 at h
  refine lv_istore (lv' := [(6, .int z0), (0, va_rf v0), (1, .int v1), (2, .int v2), (3, .int v3), (4, .int v4), (5, .int v5), (7, .int v7)]) M.1 M.2.1 dX9_work_230 hl (by decide) (fl_e (fl_k rfl rfl (fl_k rfl rfl (fl_k rfl rfl (fl_k rfl rfl (fl_k rfl rfl (fl_i rfl (fl_k rfl rfl fl_0)))))))) (fun ls hl => ?_)
  refine lv_iinc (v := v7 + 1) (lv' := [(7, .int (v7 + 1)), (6, .int z0), (0, va_rf v0), (1, .int v1), (2, .int v2), (3, .int v3), (4, .int v4), (5, .int v5)]) M.1 M.2.1 dX9_work_232 hl (k := 7) rfl (by rfl) (by decide) (fl_e (fl_i rfl (fl_k rfl rfl (fl_k rfl rfl (fl_k rfl rfl (fl_k rfl rfl (fl_k rfl rfl (fl_k rfl rfl (fl_d rfl fl_0))))))))) (fun ls hl => ?_)
  refine lv_goto (tgt := 174) M.1 M.2.1 dX9_work_235 (by decide) ?_
  exact hK174 _ _ _ _ _ _ _ _ _ h _ _ _ B (lv_sub hl [2, 3, 4, 5, 6, 7, 1, 0] rfl)
set_option maxRecDepth 100000 in
set_option maxHeartbeats 4000000 in
theorem tX9_work_229 {K94 : Option Nat → Int32 → Int32 → Int32 → Pool → Prop} {K132 : Option Nat → Int32 → Int32 → Int32 → Int32 → Int32 → Pool → Prop} {K174 : Option Nat → Int32 → Int32 → Int32 → Int32 → Int32 → Int32 → Int32 → Pool → Prop} {post : Pool → Prop} (M : MC p m c cX9_work 8 s args RX9) (hr : meth.sig.returnType = none) (hlk : meth.locks = false) (hRf : 2 ≤ R.frames) (hRl : 50 ≤ R.locals) (hRc : 0 ≤ R.cells) (hRs : 0 ≤ R.slots) (hK94 : ∀ (v0 : Option Nat) (v1 : Int32) (v2 : Int32) (v3 : Int32) (S : Pool), K94 v0 v1 v2 v3 S → ∀ (H : Heap) (locs : List Loc) (ls : Array Slot), PB D cy A s S H locs → lv_has ls 8 [(0, va_rf v0), (1, .int v1), (2, .int v2), (3, .int v3)] → W p l e R s m args below meth c H locs 0 0 (MQ below (va_Qv post (PQ D cy A) A) args s 0 0 A) (F0 m 94 ls [])) (hK132 : ∀ (v0 : Option Nat) (v1 : Int32) (v2 : Int32) (v3 : Int32) (v4 : Int32) (v5 : Int32) (S : Pool), K132 v0 v1 v2 v3 v4 v5 S → ∀ (H : Heap) (locs : List Loc) (ls : Array Slot), PB D cy A s S H locs → lv_has ls 8 [(0, va_rf v0), (1, .int v1), (2, .int v2), (3, .int v3), (4, .int v4), (5, .int v5)] → W p l e R s m args below meth c H locs 0 0 (MQ below (va_Qv post (PQ D cy A) A) args s 0 0 A) (F0 m 132 ls [])) (hK174 : ∀ (v0 : Option Nat) (v1 : Int32) (v2 : Int32) (v3 : Int32) (v4 : Int32) (v5 : Int32) (v6 : Int32) (v7 : Int32) (S : Pool), K174 v0 v1 v2 v3 v4 v5 v6 v7 S → ∀ (H : Heap) (locs : List Loc) (ls : Array Slot), PB D cy A s S H locs → lv_has ls 8 [(0, va_rf v0), (1, .int v1), (2, .int v2), (3, .int v3), (4, .int v4), (5, .int v5), (6, .int v6), (7, .int v7)] → W p l e R s m args below meth c H locs 0 0 (MQ below (va_Qv post (PQ D cy A) A) args s 0 0 A) (F0 m 174 ls [])) : ∀ (v0 : Option Nat) (v1 : Int32) (v2 : Int32) (v3 : Int32) (v4 : Int32) (v5 : Int32) (v7 : Int32) (S : Pool), wX9_work_229 K94 K132 K174 post v0 v1 v2 v3 v4 v5 v7 S → ∀ (H : Heap) (locs : List Loc) (ls : Array Slot), PB D cy A s S H locs → lv_has ls 8 [(0, va_rf v0), (1, .int v1), (2, .int v2), (3, .int v3), (4, .int v4), (5, .int v5), (7, .int v7)] → W p l e R s m args below meth c H locs 0 0 (MQ below (va_Qv post (PQ D cy A) A) args s 0 0 A) (F0 m 229 ls []) := by
  intro v0 v1 v2 v3 v4 v5 v7 S h H locs ls B hl
  unfold wX9_work_229 at h
  refine lv_iconst (v := 0) M.1 M.2.1 dX9_work_229 (by decide) ?_
  exact tX9_work_230 M hr hlk hRf hRl hRc hRs hK94 hK132 hK174 _ _ _ _ _ _ _ _ _ h _ _ _ B (lv_sub hl [0, 1, 2, 3, 4, 5, 6] rfl)
set_option maxRecDepth 100000 in
set_option maxHeartbeats 4000000 in
theorem tX9_work_174 {K94 : Option Nat → Int32 → Int32 → Int32 → Pool → Prop} {K132 : Option Nat → Int32 → Int32 → Int32 → Int32 → Int32 → Pool → Prop} {post : Pool → Prop} (M : MC p m c cX9_work 8 s args RX9) (hr : meth.sig.returnType = none) (hlk : meth.locks = false) (hRf : 2 ≤ R.frames) (hRl : 50 ≤ R.locals) (hRc : 0 ≤ R.cells) (hRs : 0 ≤ R.slots) (hK94 : ∀ (v0 : Option Nat) (v1 : Int32) (v2 : Int32) (v3 : Int32) (S : Pool), K94 v0 v1 v2 v3 S → ∀ (H : Heap) (locs : List Loc) (ls : Array Slot), PB D cy A s S H locs → lv_has ls 8 [(0, va_rf v0), (1, .int v1), (2, .int v2), (3, .int v3)] → W p l e R s m args below meth c H locs 0 0 (MQ below (va_Qv post (PQ D cy A) A) args s 0 0 A) (F0 m 94 ls [])) (hK132 : ∀ (v0 : Option Nat) (v1 : Int32) (v2 : Int32) (v3 : Int32) (v4 : Int32) (v5 : Int32) (S : Pool), K132 v0 v1 v2 v3 v4 v5 S → ∀ (H : Heap) (locs : List Loc) (ls : Array Slot), PB D cy A s S H locs → lv_has ls 8 [(0, va_rf v0), (1, .int v1), (2, .int v2), (3, .int v3), (4, .int v4), (5, .int v5)] → W p l e R s m args below meth c H locs 0 0 (MQ below (va_Qv post (PQ D cy A) A) args s 0 0 A) (F0 m 132 ls [])) : ∀ (n : Nat) (v0 : Option Nat) (v1 : Int32) (v2 : Int32) (v3 : Int32) (v4 : Int32) (v5 : Int32) (v6 : Int32) (v7 : Int32) (S : Pool), wX9_work_174 K94 K132 post n v0 v1 v2 v3 v4 v5 v6 v7 S → ∀ (H : Heap) (locs : List Loc) (ls : Array Slot), PB D cy A s S H locs → lv_has ls 8 [(0, va_rf v0), (1, .int v1), (2, .int v2), (3, .int v3), (4, .int v4), (5, .int v5), (6, .int v6), (7, .int v7)] → W p l e R s m args below meth c H locs 0 0 (MQ below (va_Qv post (PQ D cy A) A) args s 0 0 A) (F0 m 174 ls []) := by
  intro n
  induction n with
  | zero => intro v0 v1 v2 v3 v4 v5 v6 v7 S h; exact False.elim h
  | succ n ih =>
    intro v0 v1 v2 v3 v4 v5 v6 v7 S h H locs ls B hl
    unfold wX9_work_174 at h
    refine lv_iload M.1 M.2.1 dX9_work_174 (lv_at hl 7 rfl) ?_
    refine g_aload_n M dX9_work_176 rfl (lv_at hl 0 rfl) ?_
    refine gfX9_105 M B dX9_work_177 h (fun a1 h => ?_)
    refine lv_icmp_ge (tgt := 238) M.1 M.2.1 dX9_work_180 (by decide) (fun c2 => ?_) (fun c2 => ?_)
    · have h := h.1 c2
      exact tX9_work_238 M hr hlk hRf hRl hRc hRs hK94 hK132 _ _ _ _ _ _ _ _ h _ _ _ B (lv_sub hl [0, 1, 2, 3, 4, 5, 6] rfl)
    · have h := h.2 c2
      refine lv_iload M.1 M.2.1 dX9_work_183 (lv_at hl 4 rfl) ?_
      refine lv_if_lt (tgt := 238) M.1 M.2.1 dX9_work_185 (by decide) (fun c3 => ?_) (fun c3 => ?_)
      · have h := h.1 c3
        exact tX9_work_238 M hr hlk hRf hRl hRc hRs hK94 hK132 _ _ _ _ _ _ _ _ h _ _ _ B (lv_sub hl [0, 1, 2, 3, 4, 5, 6] rfl)
      · have h := h.2 c3
        refine lv_iload M.1 M.2.1 dX9_work_188 (lv_at hl 6 rfl) ?_
        refine lv_if_ne (tgt := 238) M.1 M.2.1 dX9_work_190 (by decide) (fun c4 => ?_) (fun c4 => ?_)
        · have h := h.2 c4
          exact tX9_work_238 M hr hlk hRf hRl hRc hRs hK94 hK132 _ _ _ _ _ _ _ _ h _ _ _ B (lv_sub hl [0, 1, 2, 3, 4, 5, 6] rfl)
        · have h := h.1 c4
          refine g_aload_n M dX9_work_193 rfl (lv_at hl 0 rfl) ?_
          refine gfX9_81 M B dX9_work_194 h (fun a5 h => ?_)
          refine lv_sipush (v := 250) M.1 M.2.1 dX9_work_197 (by decide) ?_
          refine lv_iload M.1 M.2.1 dX9_work_200 (lv_at hl 4 rfl) ?_
          refine lv_imul M.1 M.2.1 dX9_work_202 ?_
          refine lv_iload M.1 M.2.1 dX9_work_203 (lv_at hl 7 rfl) ?_
          refine lv_iadd M.1 M.2.1 dX9_work_205 ?_
          refine g_zald M B dX9_work_206 h (fun a6 h => ?_)
          refine lv_if_eq (tgt := 229) M.1 M.2.1 dX9_work_207 (by decide) (fun c7 => ?_) (fun c7 => ?_)
          · have h := h.1 c7
            exact tX9_work_229 M hr hlk hRf hRl hRc hRs hK94 hK132 ih _ _ _ _ _ _ _ _ h _ _ _ B (lv_sub hl [0, 1, 2, 3, 4, 5, 7] rfl)
          · have h := h.2 c7
            refine g_aload_n M dX9_work_210 rfl (lv_at hl 0 rfl) ?_
            refine lv_iload_n M.1 M.2.1 dX9_work_211 rfl (lv_at hl 1 rfl) ?_
            refine lv_iload M.1 M.2.1 dX9_work_212 (lv_at hl 4 rfl) ?_
            refine lv_iload M.1 M.2.1 dX9_work_214 (lv_at hl 7 rfl) ?_
            refine lv_iload_n M.1 M.2.1 dX9_work_216 rfl (lv_at hl 3 rfl) ?_
            refine lv_iload M.1 M.2.1 dX9_work_217 (lv_at hl 5 rfl) ?_
            obtain ⟨o1, e1, hL1, hK1, h⟩ := h
            refine g_calli (k1 := 0) (k2 := 0) B (g_runV (n := 5) (As := [.int v1, .int v4, .int v7, .int v3, .int v5]) (rm := rmX9_leads) M B e1 (kX9_leads (v0 := v0) (v1 := v1) (v2 := v4) (v3 := v7) (v4 := v3) (v5 := v5) l D cy h _) wmX9_219 wiX9_leads wsX9_leads wnX9 wcdX9_leads ⟨rfl, by decide, by decide, by decide +kernel⟩ ⟨Nat.le_trans (by decide) hRf, Nat.le_trans (by decide) hRl⟩ ⟨Nat.le_trans (by decide) hRc, Nat.le_trans (by decide) hRs⟩ hL1 hK1 (by decide) rfl rfl rfl hl.1 rfl ct_0 (by decide) dX9_work_219) (by decide) (by decide) (fun a9 S8 H locs h B => ?_)
            refine lv_if_eq (tgt := 229) M.1 M.2.1 dX9_work_222 (by decide) (fun c10 => ?_) (fun c10 => ?_)
            · have h := h.1 c10
              exact tX9_work_229 M hr hlk hRf hRl hRc hRs hK94 hK132 ih _ _ _ _ _ _ _ _ h _ _ _ B (lv_sub hl [0, 1, 2, 3, 4, 5, 7] rfl)
            · have h := h.2 c10
              refine lv_iconst (v := 1) M.1 M.2.1 dX9_work_225 (by decide) ?_
              refine lv_goto (tgt := 230) M.1 M.2.1 dX9_work_226 (by decide) ?_
              exact tX9_work_230 M hr hlk hRf hRl hRc hRs hK94 hK132 ih _ _ _ _ _ _ _ _ _ h _ _ _ B (lv_sub hl [0, 1, 2, 3, 4, 5, 7] rfl)
set_option maxRecDepth 100000 in
set_option maxHeartbeats 4000000 in
theorem tX9_work_171 {K94 : Option Nat → Int32 → Int32 → Int32 → Pool → Prop} {K132 : Option Nat → Int32 → Int32 → Int32 → Int32 → Int32 → Pool → Prop} {post : Pool → Prop} (M : MC p m c cX9_work 8 s args RX9) (hr : meth.sig.returnType = none) (hlk : meth.locks = false) (hRf : 2 ≤ R.frames) (hRl : 50 ≤ R.locals) (hRc : 0 ≤ R.cells) (hRs : 0 ≤ R.slots) (hK94 : ∀ (v0 : Option Nat) (v1 : Int32) (v2 : Int32) (v3 : Int32) (S : Pool), K94 v0 v1 v2 v3 S → ∀ (H : Heap) (locs : List Loc) (ls : Array Slot), PB D cy A s S H locs → lv_has ls 8 [(0, va_rf v0), (1, .int v1), (2, .int v2), (3, .int v3)] → W p l e R s m args below meth c H locs 0 0 (MQ below (va_Qv post (PQ D cy A) A) args s 0 0 A) (F0 m 94 ls [])) (hK132 : ∀ (v0 : Option Nat) (v1 : Int32) (v2 : Int32) (v3 : Int32) (v4 : Int32) (v5 : Int32) (S : Pool), K132 v0 v1 v2 v3 v4 v5 S → ∀ (H : Heap) (locs : List Loc) (ls : Array Slot), PB D cy A s S H locs → lv_has ls 8 [(0, va_rf v0), (1, .int v1), (2, .int v2), (3, .int v3), (4, .int v4), (5, .int v5)] → W p l e R s m args below meth c H locs 0 0 (MQ below (va_Qv post (PQ D cy A) A) args s 0 0 A) (F0 m 132 ls [])) : ∀ (v0 : Option Nat) (v1 : Int32) (v2 : Int32) (v3 : Int32) (v4 : Int32) (v5 : Int32) (v6 : Int32) (S : Pool), wX9_work_171 K94 K132 post v0 v1 v2 v3 v4 v5 v6 S → ∀ (H : Heap) (locs : List Loc) (ls : Array Slot), PB D cy A s S H locs → lv_has ls 8 [(0, va_rf v0), (1, .int v1), (2, .int v2), (3, .int v3), (4, .int v4), (5, .int v5), (6, .int v6)] → W p l e R s m args below meth c H locs 0 0 (MQ below (va_Qv post (PQ D cy A) A) args s 0 0 A) (F0 m 171 ls []) := by
  intro v0 v1 v2 v3 v4 v5 v6 S h H locs ls B hl
  unfold wX9_work_171 at h
  refine lv_iconst (v := 0) M.1 M.2.1 dX9_work_171 (by decide) ?_
  refine lv_istore (lv' := [(7, .int 0), (0, va_rf v0), (1, .int v1), (2, .int v2), (3, .int v3), (4, .int v4), (5, .int v5), (6, .int v6)]) M.1 M.2.1 dX9_work_172 hl (by decide) (fl_e (fl_k rfl rfl (fl_k rfl rfl (fl_k rfl rfl (fl_k rfl rfl (fl_k rfl rfl (fl_k rfl rfl (fl_i rfl fl_0)))))))) (fun ls hl => ?_)
  obtain ⟨n1, h⟩ := h
  exact tX9_work_174 M hr hlk hRf hRl hRc hRs hK94 hK132 n1 _ _ _ _ _ _ _ _ _ h _ _ _ B (lv_sub hl [1, 2, 3, 4, 5, 6, 7, 0] rfl)
set_option maxRecDepth 100000 in
set_option maxHeartbeats 4000000 in
theorem tX9_work_132 {K94 : Option Nat → Int32 → Int32 → Int32 → Pool → Prop} {post : Pool → Prop} (M : MC p m c cX9_work 8 s args RX9) (hr : meth.sig.returnType = none) (hlk : meth.locks = false) (hRf : 2 ≤ R.frames) (hRl : 50 ≤ R.locals) (hRc : 0 ≤ R.cells) (hRs : 0 ≤ R.slots) (hK94 : ∀ (v0 : Option Nat) (v1 : Int32) (v2 : Int32) (v3 : Int32) (S : Pool), K94 v0 v1 v2 v3 S → ∀ (H : Heap) (locs : List Loc) (ls : Array Slot), PB D cy A s S H locs → lv_has ls 8 [(0, va_rf v0), (1, .int v1), (2, .int v2), (3, .int v3)] → W p l e R s m args below meth c H locs 0 0 (MQ below (va_Qv post (PQ D cy A) A) args s 0 0 A) (F0 m 94 ls [])) : ∀ (n : Nat) (v0 : Option Nat) (v1 : Int32) (v2 : Int32) (v3 : Int32) (v4 : Int32) (v5 : Int32) (S : Pool), wX9_work_132 K94 post n v0 v1 v2 v3 v4 v5 S → ∀ (H : Heap) (locs : List Loc) (ls : Array Slot), PB D cy A s S H locs → lv_has ls 8 [(0, va_rf v0), (1, .int v1), (2, .int v2), (3, .int v3), (4, .int v4), (5, .int v5)] → W p l e R s m args below meth c H locs 0 0 (MQ below (va_Qv post (PQ D cy A) A) args s 0 0 A) (F0 m 132 ls []) := by
  intro n
  induction n with
  | zero => intro v0 v1 v2 v3 v4 v5 S h; exact False.elim h
  | succ n ih =>
    intro v0 v1 v2 v3 v4 v5 S h H locs ls B hl
    unfold wX9_work_132 at h
    refine lv_iload M.1 M.2.1 dX9_work_132 (lv_at hl 5 rfl) ?_
    refine g_aload_n M dX9_work_134 rfl (lv_at hl 0 rfl) ?_
    refine gfX9_105 M B dX9_work_135 h (fun a1 h => ?_)
    refine lv_icmp_ge (tgt := 259) M.1 M.2.1 dX9_work_138 (by decide) (fun c2 => ?_) (fun c2 => ?_)
    · have h := h.1 c2
      exact tX9_work_259 M hr hlk hRf hRl hRc hRs hK94 _ _ _ _ _ h _ _ _ B (lv_sub hl [0, 1, 2, 3] rfl)
    · have h := h.2 c2
      refine lv_iconst (v := 0) M.1 M.2.1 dX9_work_141 (by decide) ?_
      refine lv_istore (lv' := [(6, .int 0), (0, va_rf v0), (1, .int v1), (2, .int v2), (3, .int v3), (4, .int v4), (5, .int v5)]) M.1 M.2.1 dX9_work_142 hl (by decide) (fl_e (fl_k rfl rfl (fl_k rfl rfl (fl_k rfl rfl (fl_k rfl rfl (fl_k rfl rfl (fl_i rfl fl_0))))))) (fun ls hl => ?_)
      refine g_aload_n M dX9_work_144 rfl (lv_at hl 1 rfl) ?_
      refine gfX9_78 M B dX9_work_145 h (fun a3 h => ?_)
      refine lv_sipush (v := 250) M.1 M.2.1 dX9_work_148 (by decide) ?_
      refine lv_iload_n M.1 M.2.1 dX9_work_151 rfl (lv_at hl 4 rfl) ?_
      refine lv_imul M.1 M.2.1 dX9_work_152 ?_
      refine lv_iload M.1 M.2.1 dX9_work_153 (lv_at hl 6 rfl) ?_
      refine lv_iadd M.1 M.2.1 dX9_work_155 ?_
      refine g_zald M B dX9_work_156 h (fun a4 h => ?_)
      refine lv_if_ne (tgt := 163) M.1 M.2.1 dX9_work_157 (by decide) (fun c5 => ?_) (fun c5 => ?_)
      · have h := h.2 c5
        refine lv_iload M.1 M.2.1 dX9_work_163 (lv_at hl 5 rfl) ?_
        refine lv_if_ge (tgt := 171) M.1 M.2.1 dX9_work_165 (by decide) (fun c6 => ?_) (fun c6 => ?_)
        · have h := h.1 c6
          exact tX9_work_171 M hr hlk hRf hRl hRc hRs hK94 ih _ _ _ _ _ _ _ _ h _ _ _ B (lv_sub hl [1, 2, 3, 4, 5, 6, 0] rfl)
        · have h := h.2 c6
          refine lv_iconst (v := 1) M.1 M.2.1 dX9_work_168 (by decide) ?_
          refine lv_istore (lv' := [(6, .int 1), (0, va_rf v0), (1, .int v1), (2, .int v2), (3, .int v3), (4, .int v4), (5, .int v5)]) M.1 M.2.1 dX9_work_169 hl (by decide) (fl_e (fl_d rfl (fl_k rfl rfl (fl_k rfl rfl (fl_k rfl rfl (fl_k rfl rfl (fl_k rfl rfl (fl_i rfl fl_0)))))))) (fun ls hl => ?_)
          exact tX9_work_171 M hr hlk hRf hRl hRc hRs hK94 ih _ _ _ _ _ _ _ _ h _ _ _ B (lv_sub hl [1, 2, 3, 4, 5, 6, 0] rfl)
      · have h := h.1 c5
        refine lv_goto (tgt := 253) M.1 M.2.1 dX9_work_160 (by decide) ?_
        exact tX9_work_253 M hr hlk hRf hRl hRc hRs hK94 ih _ _ _ _ _ _ _ h _ _ _ B (lv_sub hl [1, 2, 3, 4, 5, 6] rfl)
set_option maxRecDepth 100000 in
set_option maxHeartbeats 4000000 in
theorem tX9_work_94 {post : Pool → Prop} (M : MC p m c cX9_work 8 s args RX9) (hr : meth.sig.returnType = none) (hlk : meth.locks = false) (hRf : 2 ≤ R.frames) (hRl : 50 ≤ R.locals) (hRc : 0 ≤ R.cells) (hRs : 0 ≤ R.slots) : ∀ (n : Nat) (v0 : Option Nat) (v1 : Int32) (v2 : Int32) (v3 : Int32) (S : Pool), wX9_work_94 post n v0 v1 v2 v3 S → ∀ (H : Heap) (locs : List Loc) (ls : Array Slot), PB D cy A s S H locs → lv_has ls 8 [(0, va_rf v0), (1, .int v1), (2, .int v2), (3, .int v3)] → W p l e R s m args below meth c H locs 0 0 (MQ below (va_Qv post (PQ D cy A) A) args s 0 0 A) (F0 m 94 ls []) := by
  intro n
  induction n with
  | zero => intro v0 v1 v2 v3 S h; exact False.elim h
  | succ n ih =>
    intro v0 v1 v2 v3 S h H locs ls B hl
    unfold wX9_work_94 at h
    refine lv_iload_n M.1 M.2.1 dX9_work_94 rfl (lv_at hl 3 rfl) ?_
    refine g_aload_n M dX9_work_95 rfl (lv_at hl 0 rfl) ?_
    refine gfX9_35 M B dX9_work_96 h (fun a1 h => ?_)
    refine lv_iload_n M.1 M.2.1 dX9_work_99 rfl (lv_at hl 1 rfl) ?_
    refine g_iald M B dX9_work_100 h (fun a2 h => ?_)
    refine lv_icmp_ge (tgt := 265) M.1 M.2.1 dX9_work_101 (by decide) (fun c3 => ?_) (fun c3 => ?_)
    · have h := h.1 c3
      refine g_aload_n M dX9_work_265 rfl (lv_at hl 0 rfl) ?_
      refine lv_iload_n M.1 M.2.1 dX9_work_266 rfl (lv_at hl 1 rfl) ?_
      obtain ⟨o1, e1, hL1, hK1, h⟩ := h
      refine g_calli (k1 := 0) (k2 := 0) B (g_runV (n := 1) (As := [.int v1]) (rm := rmX9_lastStep) M B e1 (kX9_lastStep (v0 := v0) (v1 := v1) l D cy h _) wmX9_223 wiX9_lastStep wsX9_lastStep wnX9 wcdX9_lastStep ⟨rfl, by decide, by decide, by decide +kernel⟩ ⟨Nat.le_trans (by decide) hRf, Nat.le_trans (by decide) hRl⟩ ⟨Nat.le_trans (by decide) hRc, Nat.le_trans (by decide) hRs⟩ hL1 hK1 (by decide) rfl rfl rfl hl.1 rfl ct_0 (by decide) dX9_work_267) (by decide) (by decide) (fun a5 S4 H locs h B => ?_)
      refine lv_istore_n (lv' := [(3, .int a5), (0, va_rf v0), (1, .int v1), (2, .int v2)]) M.1 M.2.1 dX9_work_270 rfl hl (by decide) (fl_e (fl_k rfl rfl (fl_k rfl rfl (fl_i rfl (fl_d rfl fl_0))))) (fun ls hl => ?_)
      refine lv_iconst (v := 0) M.1 M.2.1 dX9_work_271 (by decide) ?_
      refine lv_istore (lv' := [(4, .int 0), (3, .int a5), (0, va_rf v0), (1, .int v1), (2, .int v2)]) M.1 M.2.1 dX9_work_272 hl (by decide) (fl_e (fl_i rfl (fl_k rfl rfl (fl_k rfl rfl (fl_k rfl rfl fl_0))))) (fun ls hl => ?_)
      obtain ⟨n1, h⟩ := h
      exact tX9_work_274 M hr hlk hRf hRl hRc hRs n1 _ _ _ _ _ _ h _ _ _ B (lv_sub hl [2, 3, 4, 1, 0] rfl)
    · have h := h.2 c3
      refine g_aload_n M dX9_work_104 rfl (lv_at hl 0 rfl) ?_
      refine gfX9_38 M B dX9_work_105 h (fun a6 h => ?_)
      refine lv_bipush (v := 6) M.1 M.2.1 dX9_work_108 (by decide) ?_
      refine lv_iload_n M.1 M.2.1 dX9_work_110 rfl (lv_at hl 1 rfl) ?_
      refine lv_imul M.1 M.2.1 dX9_work_111 ?_
      refine lv_iload_n M.1 M.2.1 dX9_work_112 rfl (lv_at hl 3 rfl) ?_
      refine lv_iadd M.1 M.2.1 dX9_work_113 ?_
      refine g_zald M B dX9_work_114 h (fun a7 h => ?_)
      refine lv_if_eq (tgt := 121) M.1 M.2.1 dX9_work_115 (by decide) (fun c8 => ?_) (fun c8 => ?_)
      · have h := h.1 c8
        refine g_aload_n M dX9_work_121 rfl (lv_at hl 0 rfl) ?_
        refine lv_iload_n M.1 M.2.1 dX9_work_122 rfl (lv_at hl 1 rfl) ?_
        refine lv_iload_n M.1 M.2.1 dX9_work_123 rfl (lv_at hl 3 rfl) ?_
        obtain ⟨o1, e1, hL1, hK1, h⟩ := h
        refine g_calli (k1 := 0) (k2 := 0) B (g_runV (n := 2) (As := [.int v1, .int v3]) (rm := rmX9_before) M B e1 (kX9_before (v0 := v0) (v1 := v1) (v2 := v3) l D cy h _) wmX9_209 wiX9_before wsX9_before wnX9 wcdX9_before ⟨rfl, by decide, by decide, by decide +kernel⟩ ⟨Nat.le_trans (by decide) hRf, Nat.le_trans (by decide) hRl⟩ ⟨Nat.le_trans (by decide) hRc, Nat.le_trans (by decide) hRs⟩ hL1 hK1 (by decide) rfl rfl rfl hl.1 rfl ct_0 (by decide) dX9_work_124) (by decide) (by decide) (fun a10 S9 H locs h B => ?_)
        refine lv_istore (lv' := [(4, .int a10), (0, va_rf v0), (1, .int v1), (2, .int v2), (3, .int v3)]) M.1 M.2.1 dX9_work_127 hl (by decide) (fl_e (fl_k rfl rfl (fl_k rfl rfl (fl_k rfl rfl (fl_i rfl fl_0))))) (fun ls hl => ?_)
        refine lv_iconst (v := 0) M.1 M.2.1 dX9_work_129 (by decide) ?_
        refine lv_istore (lv' := [(5, .int 0), (4, .int a10), (0, va_rf v0), (1, .int v1), (2, .int v2), (3, .int v3)]) M.1 M.2.1 dX9_work_130 hl (by decide) (fl_e (fl_i rfl (fl_k rfl rfl (fl_k rfl rfl (fl_k rfl rfl (fl_k rfl rfl fl_0)))))) (fun ls hl => ?_)
        obtain ⟨n1, h⟩ := h
        exact tX9_work_132 M hr hlk hRf hRl hRc hRs ih n1 _ _ _ _ _ _ _ h _ _ _ B (lv_sub hl [2, 3, 4, 5, 1, 0] rfl)
      · have h := h.2 c8
        refine lv_goto (tgt := 259) M.1 M.2.1 dX9_work_118 (by decide) ?_
        exact tX9_work_259 M hr hlk hRf hRl hRc hRs ih _ _ _ _ _ h _ _ _ B (lv_sub hl [0, 1, 2, 3] rfl)
set_option maxRecDepth 100000 in
set_option maxHeartbeats 4000000 in
theorem tX9_work_49 {K36 : Option Nat → Int32 → Int32 → Int32 → Pool → Prop} {post : Pool → Prop} (M : MC p m c cX9_work 8 s args RX9) (hr : meth.sig.returnType = none) (hlk : meth.locks = false) (hRf : 2 ≤ R.frames) (hRl : 50 ≤ R.locals) (hRc : 0 ≤ R.cells) (hRs : 0 ≤ R.slots) (hK36 : ∀ (v0 : Option Nat) (v1 : Int32) (v2 : Int32) (v3 : Int32) (S : Pool), K36 v0 v1 v2 v3 S → ∀ (H : Heap) (locs : List Loc) (ls : Array Slot), PB D cy A s S H locs → lv_has ls 8 [(0, va_rf v0), (1, .int v1), (2, .int v2), (3, .int v3)] → W p l e R s m args below meth c H locs 0 0 (MQ below (va_Qv post (PQ D cy A) A) args s 0 0 A) (F0 m 36 ls [])) : ∀ (n : Nat) (v0 : Option Nat) (v1 : Int32) (v2 : Int32) (v3 : Int32) (v4 : Int32) (S : Pool), wX9_work_49 K36 post n v0 v1 v2 v3 v4 S → ∀ (H : Heap) (locs : List Loc) (ls : Array Slot), PB D cy A s S H locs → lv_has ls 8 [(0, va_rf v0), (1, .int v1), (2, .int v2), (3, .int v3), (4, .int v4)] → W p l e R s m args below meth c H locs 0 0 (MQ below (va_Qv post (PQ D cy A) A) args s 0 0 A) (F0 m 49 ls []) := by
  intro n
  induction n with
  | zero => intro v0 v1 v2 v3 v4 S h; exact False.elim h
  | succ n ih =>
    intro v0 v1 v2 v3 v4 S h H locs ls B hl
    unfold wX9_work_49 at h
    refine lv_iload M.1 M.2.1 dX9_work_49 (lv_at hl 4 rfl) ?_
    refine g_aload_n M dX9_work_51 rfl (lv_at hl 0 rfl) ?_
    refine gfX9_105 M B dX9_work_52 h (fun a1 h => ?_)
    refine lv_icmp_ge (tgt := 86) M.1 M.2.1 dX9_work_55 (by decide) (fun c2 => ?_) (fun c2 => ?_)
    · have h := h.1 c2
      refine lv_iinc (v := v3 + 1) (lv' := [(3, .int (v3 + 1)), (0, va_rf v0), (1, .int v1), (2, .int v2), (4, .int v4)]) M.1 M.2.1 dX9_work_86 hl (k := 3) rfl (by rfl) (by decide) (fl_e (fl_k rfl rfl (fl_k rfl rfl (fl_i rfl (fl_d rfl (fl_k rfl rfl fl_0)))))) (fun ls hl => ?_)
      refine lv_goto (tgt := 36) M.1 M.2.1 dX9_work_89 (by decide) ?_
      exact hK36 _ _ _ _ _ h _ _ _ B (lv_sub hl [1, 2, 3, 0] rfl)
    · have h := h.2 c2
      refine g_aload_n M dX9_work_58 rfl (lv_at hl 0 rfl) ?_
      refine gfX9_78 M B dX9_work_59 h (fun a3 h => ?_)
      refine lv_sipush (v := 250) M.1 M.2.1 dX9_work_62 (by decide) ?_
      refine lv_iload_n M.1 M.2.1 dX9_work_65 rfl (lv_at hl 3 rfl) ?_
      refine lv_imul M.1 M.2.1 dX9_work_66 ?_
      refine lv_iload M.1 M.2.1 dX9_work_67 (lv_at hl 4 rfl) ?_
      refine lv_iadd M.1 M.2.1 dX9_work_69 ?_
      refine g_aload_n M dX9_work_70 rfl (lv_at hl 0 rfl) ?_
      refine lv_iload_n M.1 M.2.1 dX9_work_71 rfl (lv_at hl 1 rfl) ?_
      refine lv_iload_n M.1 M.2.1 dX9_work_72 rfl (lv_at hl 3 rfl) ?_
      refine lv_iload M.1 M.2.1 dX9_work_73 (lv_at hl 4 rfl) ?_
      refine lv_iload_n M.1 M.2.1 dX9_work_75 rfl (lv_at hl 2 rfl) ?_
      obtain ⟨o1, e1, hL1, hK1, h⟩ := h
      refine g_calli (k1 := 0) (k2 := 0) B (g_runV (n := 4) (As := [.int v1, .int v3, .int v4, .int v2]) (rm := rmX9_fits) M B e1 (kX9_fits (v0 := v0) (v1 := v1) (v2 := v3) (v3 := v4) (v4 := v2) l D cy h _) wmX9_215 wiX9_fits wsX9_fits wnX9 wcdX9_fits ⟨rfl, by decide, by decide, by decide +kernel⟩ ⟨Nat.le_trans (by decide) hRf, Nat.le_trans (by decide) hRl⟩ ⟨Nat.le_trans (by decide) hRc, Nat.le_trans (by decide) hRs⟩ hL1 hK1 (by decide) rfl rfl rfl hl.1 rfl (ct_i (ct_r ct_0)) (by decide) dX9_work_76) (by decide) (by decide) (fun a5 S4 H locs h B => ?_)
      refine g_zast M B dX9_work_79 h (fun S6 H locs h B => ?_)
      refine lv_iinc (v := v4 + 1) (lv' := [(4, .int (v4 + 1)), (0, va_rf v0), (1, .int v1), (2, .int v2), (3, .int v3)]) M.1 M.2.1 dX9_work_80 hl (k := 4) rfl (by rfl) (by decide) (fl_e (fl_k rfl rfl (fl_k rfl rfl (fl_k rfl rfl (fl_i rfl (fl_d rfl fl_0)))))) (fun ls hl => ?_)
      refine lv_goto (tgt := 49) M.1 M.2.1 dX9_work_83 (by decide) ?_
      exact ih _ _ _ _ _ _ h _ _ _ B (lv_sub hl [1, 2, 3, 4, 0] rfl)
set_option maxRecDepth 100000 in
set_option maxHeartbeats 4000000 in
theorem tX9_work_36 {post : Pool → Prop} (M : MC p m c cX9_work 8 s args RX9) (hr : meth.sig.returnType = none) (hlk : meth.locks = false) (hRf : 2 ≤ R.frames) (hRl : 50 ≤ R.locals) (hRc : 0 ≤ R.cells) (hRs : 0 ≤ R.slots) : ∀ (n : Nat) (v0 : Option Nat) (v1 : Int32) (v2 : Int32) (v3 : Int32) (S : Pool), wX9_work_36 post n v0 v1 v2 v3 S → ∀ (H : Heap) (locs : List Loc) (ls : Array Slot), PB D cy A s S H locs → lv_has ls 8 [(0, va_rf v0), (1, .int v1), (2, .int v2), (3, .int v3)] → W p l e R s m args below meth c H locs 0 0 (MQ below (va_Qv post (PQ D cy A) A) args s 0 0 A) (F0 m 36 ls []) := by
  intro n
  induction n with
  | zero => intro v0 v1 v2 v3 S h; exact False.elim h
  | succ n ih =>
    intro v0 v1 v2 v3 S h H locs ls B hl
    unfold wX9_work_36 at h
    refine lv_iload_n M.1 M.2.1 dX9_work_36 rfl (lv_at hl 3 rfl) ?_
    refine g_aload_n M dX9_work_37 rfl (lv_at hl 0 rfl) ?_
    refine gfX9_35 M B dX9_work_38 h (fun a1 h => ?_)
    refine lv_iload_n M.1 M.2.1 dX9_work_41 rfl (lv_at hl 1 rfl) ?_
    refine g_iald M B dX9_work_42 h (fun a2 h => ?_)
    refine lv_icmp_ge (tgt := 92) M.1 M.2.1 dX9_work_43 (by decide) (fun c3 => ?_) (fun c3 => ?_)
    · have h := h.1 c3
      refine lv_iconst (v := 0) M.1 M.2.1 dX9_work_92 (by decide) ?_
      refine lv_istore_n (lv' := [(3, .int 0), (0, va_rf v0), (1, .int v1), (2, .int v2)]) M.1 M.2.1 dX9_work_93 rfl hl (by decide) (fl_e (fl_k rfl rfl (fl_k rfl rfl (fl_i rfl (fl_d rfl fl_0))))) (fun ls hl => ?_)
      obtain ⟨n1, h⟩ := h
      exact tX9_work_94 M hr hlk hRf hRl hRc hRs n1 _ _ _ _ _ h _ _ _ B (lv_sub hl [1, 2, 3, 0] rfl)
    · have h := h.2 c3
      refine lv_iconst (v := 0) M.1 M.2.1 dX9_work_46 (by decide) ?_
      refine lv_istore (lv' := [(4, .int 0), (0, va_rf v0), (1, .int v1), (2, .int v2), (3, .int v3)]) M.1 M.2.1 dX9_work_47 hl (by decide) (fl_e (fl_k rfl rfl (fl_k rfl rfl (fl_k rfl rfl (fl_i rfl fl_0))))) (fun ls hl => ?_)
      obtain ⟨n1, h⟩ := h
      exact tX9_work_49 M hr hlk hRf hRl hRc hRs ih n1 _ _ _ _ _ _ h _ _ _ B (lv_sub hl [1, 2, 3, 4, 0] rfl)
set_option maxRecDepth 100000 in
set_option maxHeartbeats 4000000 in
theorem tX9_work_7 {post : Pool → Prop} (M : MC p m c cX9_work 8 s args RX9) (hr : meth.sig.returnType = none) (hlk : meth.locks = false) (hRf : 2 ≤ R.frames) (hRl : 50 ≤ R.locals) (hRc : 0 ≤ R.cells) (hRs : 0 ≤ R.slots) : ∀ (n : Nat) (v0 : Option Nat) (v1 : Int32) (v2 : Int32) (v3 : Int32) (S : Pool), wX9_work_7 post n v0 v1 v2 v3 S → ∀ (H : Heap) (locs : List Loc) (ls : Array Slot), PB D cy A s S H locs → lv_has ls 8 [(0, va_rf v0), (1, .int v1), (2, .int v2), (3, .int v3)] → W p l e R s m args below meth c H locs 0 0 (MQ below (va_Qv post (PQ D cy A) A) args s 0 0 A) (F0 m 7 ls []) := by
  intro n
  induction n with
  | zero => intro v0 v1 v2 v3 S h; exact False.elim h
  | succ n ih =>
    intro v0 v1 v2 v3 S h H locs ls B hl
    unfold wX9_work_7 at h
    refine lv_iload_n M.1 M.2.1 dX9_work_7 rfl (lv_at hl 3 rfl) ?_
    refine lv_sipush (v := 1500) M.1 M.2.1 dX9_work_8 (by decide) ?_
    refine lv_icmp_ge (tgt := 34) M.1 M.2.1 dX9_work_11 (by decide) (fun c1 => ?_) (fun c1 => ?_)
    · have h := h.1 c1
      refine lv_iconst (v := 0) M.1 M.2.1 dX9_work_34 (by decide) ?_
      refine lv_istore_n (lv' := [(3, .int 0), (0, va_rf v0), (1, .int v1), (2, .int v2)]) M.1 M.2.1 dX9_work_35 rfl hl (by decide) (fl_e (fl_k rfl rfl (fl_k rfl rfl (fl_i rfl (fl_d rfl fl_0))))) (fun ls hl => ?_)
      obtain ⟨n1, h⟩ := h
      exact tX9_work_36 M hr hlk hRf hRl hRc hRs n1 _ _ _ _ _ h _ _ _ B (lv_sub hl [1, 2, 3, 0] rfl)
    · have h := h.2 c1
      refine g_aload_n M dX9_work_14 rfl (lv_at hl 0 rfl) ?_
      refine gfX9_78 M B dX9_work_15 h (fun a2 h => ?_)
      refine lv_iload_n M.1 M.2.1 dX9_work_18 rfl (lv_at hl 3 rfl) ?_
      refine lv_iconst (v := 0) M.1 M.2.1 dX9_work_19 (by decide) ?_
      refine g_zast M B dX9_work_20 h (fun S3 H locs h B => ?_)
      refine g_aload_n M dX9_work_21 rfl (lv_at hl 0 rfl) ?_
      refine gfX9_81 M B dX9_work_22 h (fun a4 h => ?_)
      refine lv_iload_n M.1 M.2.1 dX9_work_25 rfl (lv_at hl 3 rfl) ?_
      refine lv_iconst (v := 0) M.1 M.2.1 dX9_work_26 (by decide) ?_
      refine g_zast M B dX9_work_27 h (fun S5 H locs h B => ?_)
      refine lv_iinc (v := v3 + 1) (lv' := [(3, .int (v3 + 1)), (0, va_rf v0), (1, .int v1), (2, .int v2)]) M.1 M.2.1 dX9_work_28 hl (k := 3) rfl (by rfl) (by decide) (fl_e (fl_k rfl rfl (fl_k rfl rfl (fl_i rfl (fl_d rfl fl_0))))) (fun ls hl => ?_)
      refine lv_goto (tgt := 7) M.1 M.2.1 dX9_work_31 (by decide) ?_
      exact ih _ _ _ _ _ h _ _ _ B (lv_sub hl [1, 2, 3, 0] rfl)
set_option maxRecDepth 100000 in
set_option maxHeartbeats 4000000 in
theorem tX9_work {post : Pool → Prop} (M : MC p m c cX9_work 8 s args RX9) (hr : meth.sig.returnType = none) (hlk : meth.locks = false) (hRf : 2 ≤ R.frames) (hRl : 50 ≤ R.locals) (hRc : 0 ≤ R.cells) (hRs : 0 ≤ R.slots) : ∀ (v0 : Option Nat) (v1 : Int32) (v2 : Int32) (S : Pool), wX9_work post v0 v1 v2 S → ∀ (H : Heap) (locs : List Loc) (ls : Array Slot), PB D cy A s S H locs → lv_has ls 8 [(0, va_rf v0), (1, .int v1), (2, .int v2)] → W p l e R s m args below meth c H locs 0 0 (MQ below (va_Qv post (PQ D cy A) A) args s 0 0 A) (F0 m 0 ls []) := by
  intro v0 v1 v2 S h H locs ls B hl
  unfold wX9_work at h
  refine g_aload_n M dX9_work_0 rfl (lv_at hl 0 rfl) ?_
  refine lv_iconst (v := 0) M.1 M.2.1 dX9_work_1 (by decide) ?_
  refine gpX9_212 M B dX9_work_2 h (fun S1 H locs h B => ?_)
  refine lv_iconst (v := 0) M.1 M.2.1 dX9_work_5 (by decide) ?_
  refine lv_istore_n (lv' := [(3, .int 0), (0, va_rf v0), (1, .int v1), (2, .int v2)]) M.1 M.2.1 dX9_work_6 rfl hl (by decide) (fl_e (fl_k rfl rfl (fl_k rfl rfl (fl_i rfl fl_0)))) (fun ls hl => ?_)
  obtain ⟨n1, h⟩ := h
  exact tX9_work_7 M hr hlk hRf hRl hRc hRs n1 _ _ _ _ _ h _ _ _ B (lv_sub hl [1, 2, 3, 0] rfl)
end
set_option maxRecDepth 100000 in
set_option maxHeartbeats 4000000 in
theorem kX9_work (l : Launch) (D : va_G) (cy : Nat → ClassId) {post : Pool → Prop} {v0 : Option Nat} {v1 : Int32} {v2 : Int32} {S : Pool} (h : wX9_work post v0 v1 v2 S) : MetV l yX9_work cX9_work 8 rmX9_work [va_rf v0, .int v1, .int v2] D cy S post := by
  intro sz
  refine Met.ofW (cc := cX9_work) (maxL := 8) (ret := none) (by decide) rfl ?_
  intro p e s m args below meth c s₁ B0 hml hv
  obtain ⟨rfl, hpp⟩ := hv
  have hts := atoms_spec (ws := .code yX9_work cX9_work 8 none :: Gw) B0.pre
  obtain rfl : s.heap.size = sz := hpp.1
  have hl := lv_entry [va_rf v0, .int v1, .int v2] (n := 8) (by rw [sl_r, sl_i, sl_i, sl_0]; decide)
  rw [lg_entry_eq]
  rw [la_r, la_i, la_i, la_0] at hl
  exact tX9_work (l := l) (R := rmX9_work) ⟨B0.exec, B0.bytes, hml, findClass_of_methodNamed B0.named, fun w hw => hts w (List.mem_cons_of_mem _ hw)⟩ B0.returns B0.notSynchronized (Nat.le_refl _) (Nat.le_refl _) (Nat.le_refl _) (Nat.le_refl _) _ _ _ _ h _ _ _ hpp.pb (lv_sub hl [0, 1, 2] rfl)
-- X9_finds: LogHuntModel.finds(II)I
def wX9_finds_14 (post : Int32 → Pool → Prop) (v0 : Option Nat) (v1 : Int32) (v2 : Int32) (z0 : Int32) (z1 : Option Nat) (S : Pool) : Prop := xpI S z1 9 0 z0 fun S1 => xI S1 v0 9 0 fun a2 => br (a2 ≤ 0) (xrc S1 v0 9 (wX9_work (fun S4 => xI S4 v0 9 36 fun a5 => post a5 S4) v0 v1 v2 S1)) (post 0 S1)
def wX9_finds (post : Int32 → Pool → Prop) (v0 : Option Nat) (v1 : Int32) (v2 : Int32) (S : Pool) : Prop := xrc S v0 9 (wX9_isQuestion (fun a2 S1 => br (a2 = 0) (wX9_finds_14 post v0 v1 v2 1 v0 S1) (wX9_finds_14 post v0 v1 v2 0 v0 S1)) v0 v1 S)
def rmX9_finds : Room := { frames := 3, cells := 0, slots := 0, locals := 77 }
section
variable {p : Program} {l : Launch} {e : Env} {R : Room} {s : State} {m : MethodId} {args : Array Value} {below : List Frame} {meth : Method} {c : Code} {D : va_G} {cy : Nat → ClassId} {A : Nat → Prop}
set_option maxRecDepth 100000 in
set_option maxHeartbeats 4000000 in
theorem tX9_finds_14 {post : Int32 → Pool → Prop} (M : MC p m c cX9_finds 3 s args RX9) (hr : meth.sig.returnType = (some FieldType.int)) (hlk : meth.locks = false) (hRf : 3 ≤ R.frames) (hRl : 77 ≤ R.locals) (hRc : 0 ≤ R.cells) (hRs : 0 ≤ R.slots) : ∀ (v0 : Option Nat) (v1 : Int32) (v2 : Int32) (z0 : Int32) (z1 : Option Nat) (S : Pool), wX9_finds_14 post v0 v1 v2 z0 z1 S → ∀ (H : Heap) (locs : List Loc) (ls : Array Slot), PB D cy A s S H locs → lv_has ls 3 [(0, va_rf v0), (1, .int v1), (2, .int v2)] → W p l e R s m args below meth c H locs 0 0 (MQ below (va_Qi post (PQ D cy A) A) args s 0 0 A) (F0 m 14 ls [.int z0, va_rf z1]) := by
  intro v0 v1 v2 z0 z1 S h H locs ls B hl
  unfold wX9_finds_14 at h
  refine gpX9_99 M B dX9_finds_14 h (fun S1 H locs h B => ?_)
  refine g_aload_n M dX9_finds_17 rfl (lv_at hl 0 rfl) ?_
  refine gfX9_99 M B dX9_finds_18 h (fun a2 h => ?_)
  refine lv_if_le (tgt := 26) M.1 M.2.1 dX9_finds_21 (by decide) (fun c3 => ?_) (fun c3 => ?_)
  · have h := h.1 c3
    refine g_aload_n M dX9_finds_26 rfl (lv_at hl 0 rfl) ?_
    refine lv_iload_n M.1 M.2.1 dX9_finds_27 rfl (lv_at hl 1 rfl) ?_
    refine lv_iload_n M.1 M.2.1 dX9_finds_28 rfl (lv_at hl 2 rfl) ?_
    obtain ⟨o1, e1, hL1, hK1, h⟩ := h
    refine g_callv (k1 := 0) (k2 := 0) B (g_runV (n := 2) (As := [.int v1, .int v2]) (rm := rmX9_work) M B e1 (kX9_work (v0 := v0) (v1 := v1) (v2 := v2) l D cy h _) wmX9_236 wiX9_work wsX9_work wnX9 wcdX9_work ⟨rfl, by decide, by decide, by decide +kernel⟩ ⟨Nat.le_trans (by decide) hRf, Nat.le_trans (by decide) hRl⟩ ⟨Nat.le_trans (by decide) hRc, Nat.le_trans (by decide) hRs⟩ hL1 hK1 (by decide) rfl rfl rfl hl.1 rfl ct_0 (by decide) dX9_finds_29) (by decide) (by decide) (fun S4 H locs h B => ?_)
    refine g_aload_n M dX9_finds_32 rfl (lv_at hl 0 rfl) ?_
    refine gfX9_212 M B dX9_finds_33 h (fun a5 h => ?_)
    exact g_iret M B hr hlk h (by decide) (by decide) dX9_finds_36
  · have h := h.2 c3
    refine lv_iconst (v := 0) M.1 M.2.1 dX9_finds_24 (by decide) ?_
    exact g_iret M B hr hlk h (by decide) (by decide) dX9_finds_25
set_option maxRecDepth 100000 in
set_option maxHeartbeats 4000000 in
theorem tX9_finds {post : Int32 → Pool → Prop} (M : MC p m c cX9_finds 3 s args RX9) (hr : meth.sig.returnType = (some FieldType.int)) (hlk : meth.locks = false) (hRf : 3 ≤ R.frames) (hRl : 77 ≤ R.locals) (hRc : 0 ≤ R.cells) (hRs : 0 ≤ R.slots) : ∀ (v0 : Option Nat) (v1 : Int32) (v2 : Int32) (S : Pool), wX9_finds post v0 v1 v2 S → ∀ (H : Heap) (locs : List Loc) (ls : Array Slot), PB D cy A s S H locs → lv_has ls 3 [(0, va_rf v0), (1, .int v1), (2, .int v2)] → W p l e R s m args below meth c H locs 0 0 (MQ below (va_Qi post (PQ D cy A) A) args s 0 0 A) (F0 m 0 ls []) := by
  intro v0 v1 v2 S h H locs ls B hl
  unfold wX9_finds at h
  refine g_aload_n M dX9_finds_0 rfl (lv_at hl 0 rfl) ?_
  refine g_aload_n M dX9_finds_1 rfl (lv_at hl 0 rfl) ?_
  refine lv_iload_n M.1 M.2.1 dX9_finds_2 rfl (lv_at hl 1 rfl) ?_
  obtain ⟨o1, e1, hL1, hK1, h⟩ := h
  refine g_calli (k1 := 0) (k2 := 0) B (g_runV (n := 1) (As := [.int v1]) (rm := rmX9_isQuestion) M B e1 (kX9_isQuestion (v0 := v0) (v1 := v1) l D cy h _) wmX9_233 wiX9_isQuestion wsX9_isQuestion wnX9 wcdX9_isQuestion ⟨rfl, by decide, by decide, by decide +kernel⟩ ⟨Nat.le_trans (by decide) hRf, Nat.le_trans (by decide) hRl⟩ ⟨Nat.le_trans (by decide) hRc, Nat.le_trans (by decide) hRs⟩ hL1 hK1 (by decide) rfl rfl rfl hl.1 rfl (ct_r ct_0) (by decide) dX9_finds_3) (by decide) (by decide) (fun a2 S1 H locs h B => ?_)
  refine lv_if_ne (tgt := 13) M.1 M.2.1 dX9_finds_6 (by decide) (fun c3 => ?_) (fun c3 => ?_)
  · have h := h.2 c3
    refine lv_iconst (v := 0) M.1 M.2.1 dX9_finds_13 (by decide) ?_
    exact tX9_finds_14 M hr hlk hRf hRl hRc hRs _ _ _ _ _ _ h _ _ _ B (lv_sub hl [0, 1, 2] rfl)
  · have h := h.1 c3
    refine lv_iconst (v := 1) M.1 M.2.1 dX9_finds_9 (by decide) ?_
    refine lv_goto (tgt := 14) M.1 M.2.1 dX9_finds_10 (by decide) ?_
    exact tX9_finds_14 M hr hlk hRf hRl hRc hRs _ _ _ _ _ _ h _ _ _ B (lv_sub hl [0, 1, 2] rfl)
end
set_option maxRecDepth 100000 in
set_option maxHeartbeats 4000000 in
theorem kX9_finds (l : Launch) (D : va_G) (cy : Nat → ClassId) {post : Int32 → Pool → Prop} {v0 : Option Nat} {v1 : Int32} {v2 : Int32} {S : Pool} (h : wX9_finds post v0 v1 v2 S) : MetI l yX9_finds cX9_finds 3 (some FieldType.int) rmX9_finds [va_rf v0, .int v1, .int v2] D cy S post := by
  intro sz
  refine Met.ofW (cc := cX9_finds) (maxL := 3) (ret := (some FieldType.int)) (by decide) rfl ?_
  intro p e s m args below meth c s₁ B0 hml hv
  obtain ⟨rfl, hpp⟩ := hv
  have hts := atoms_spec (ws := .code yX9_finds cX9_finds 3 (some FieldType.int) :: Gw) B0.pre
  obtain rfl : s.heap.size = sz := hpp.1
  have hl := lv_entry [va_rf v0, .int v1, .int v2] (n := 3) (by rw [sl_r, sl_i, sl_i, sl_0]; decide)
  rw [lg_entry_eq]
  rw [la_r, la_i, la_i, la_0] at hl
  exact tX9_finds (l := l) (R := rmX9_finds) ⟨B0.exec, B0.bytes, hml, findClass_of_methodNamed B0.named, fun w hw => hts w (List.mem_cons_of_mem _ hw)⟩ B0.returns B0.notSynchronized (Nat.le_refl _) (Nat.le_refl _) (Nat.le_refl _) (Nat.le_refl _) _ _ _ _ h _ _ _ hpp.pb (lv_sub hl [0, 1, 2] rfl)
-- X9_found: LogHuntModel.found(III)I
def wX9_found_14 (post : Int32 → Pool → Prop) (v0 : Option Nat) (v1 : Int32) (v2 : Int32) (v3 : Int32) (z0 : Int32) (z1 : Option Nat) (S : Pool) : Prop := xpI S z1 9 0 z0 fun S1 => xI S1 v0 9 0 fun a2 => br (a2 ≤ 0) (xrc S1 v0 9 (wX9_work (fun S4 => br (v3 < 0) (post ((-1)) S4) (xI S4 v0 9 36 fun a6 => br (a6 ≤ v3) (post ((-1)) S4) (xR S4 v0 9 37 fun a8 => xaI S4 a8 10 v3 fun a9 => post a9 S4))) v0 v1 v2 S1)) (post 0 S1)
def wX9_found (post : Int32 → Pool → Prop) (v0 : Option Nat) (v1 : Int32) (v2 : Int32) (v3 : Int32) (S : Pool) : Prop := xrc S v0 9 (wX9_isQuestion (fun a2 S1 => br (a2 = 0) (wX9_found_14 post v0 v1 v2 v3 1 v0 S1) (wX9_found_14 post v0 v1 v2 v3 0 v0 S1)) v0 v1 S)
def rmX9_found : Room := { frames := 3, cells := 0, slots := 0, locals := 77 }
section
variable {p : Program} {l : Launch} {e : Env} {R : Room} {s : State} {m : MethodId} {args : Array Value} {below : List Frame} {meth : Method} {c : Code} {D : va_G} {cy : Nat → ClassId} {A : Nat → Prop}
set_option maxRecDepth 100000 in
set_option maxHeartbeats 4000000 in
theorem tX9_found_14 {post : Int32 → Pool → Prop} (M : MC p m c cX9_found 4 s args RX9) (hr : meth.sig.returnType = (some FieldType.int)) (hlk : meth.locks = false) (hRf : 3 ≤ R.frames) (hRl : 77 ≤ R.locals) (hRc : 0 ≤ R.cells) (hRs : 0 ≤ R.slots) : ∀ (v0 : Option Nat) (v1 : Int32) (v2 : Int32) (v3 : Int32) (z0 : Int32) (z1 : Option Nat) (S : Pool), wX9_found_14 post v0 v1 v2 v3 z0 z1 S → ∀ (H : Heap) (locs : List Loc) (ls : Array Slot), PB D cy A s S H locs → lv_has ls 4 [(0, va_rf v0), (1, .int v1), (2, .int v2), (3, .int v3)] → W p l e R s m args below meth c H locs 0 0 (MQ below (va_Qi post (PQ D cy A) A) args s 0 0 A) (F0 m 14 ls [.int z0, va_rf z1]) := by
  intro v0 v1 v2 v3 z0 z1 S h H locs ls B hl
  unfold wX9_found_14 at h
  refine gpX9_99 M B dX9_found_14 h (fun S1 H locs h B => ?_)
  refine g_aload_n M dX9_found_17 rfl (lv_at hl 0 rfl) ?_
  refine gfX9_99 M B dX9_found_18 h (fun a2 h => ?_)
  refine lv_if_le (tgt := 26) M.1 M.2.1 dX9_found_21 (by decide) (fun c3 => ?_) (fun c3 => ?_)
  · have h := h.1 c3
    refine g_aload_n M dX9_found_26 rfl (lv_at hl 0 rfl) ?_
    refine lv_iload_n M.1 M.2.1 dX9_found_27 rfl (lv_at hl 1 rfl) ?_
    refine lv_iload_n M.1 M.2.1 dX9_found_28 rfl (lv_at hl 2 rfl) ?_
    obtain ⟨o1, e1, hL1, hK1, h⟩ := h
    refine g_callv (k1 := 0) (k2 := 0) B (g_runV (n := 2) (As := [.int v1, .int v2]) (rm := rmX9_work) M B e1 (kX9_work (v0 := v0) (v1 := v1) (v2 := v2) l D cy h _) wmX9_236 wiX9_work wsX9_work wnX9 wcdX9_work ⟨rfl, by decide, by decide, by decide +kernel⟩ ⟨Nat.le_trans (by decide) hRf, Nat.le_trans (by decide) hRl⟩ ⟨Nat.le_trans (by decide) hRc, Nat.le_trans (by decide) hRs⟩ hL1 hK1 (by decide) rfl rfl rfl hl.1 rfl ct_0 (by decide) dX9_found_29) (by decide) (by decide) (fun S4 H locs h B => ?_)
    refine lv_iload_n M.1 M.2.1 dX9_found_32 rfl (lv_at hl 3 rfl) ?_
    refine lv_if_lt (tgt := 53) M.1 M.2.1 dX9_found_33 (by decide) (fun c5 => ?_) (fun c5 => ?_)
    · have h := h.1 c5
      refine lv_iconst (v := (-1)) M.1 M.2.1 dX9_found_53 (by decide) ?_
      exact g_iret M B hr hlk h (by decide) (by decide) dX9_found_54
    · have h := h.2 c5
      refine lv_iload_n M.1 M.2.1 dX9_found_36 rfl (lv_at hl 3 rfl) ?_
      refine g_aload_n M dX9_found_37 rfl (lv_at hl 0 rfl) ?_
      refine gfX9_212 M B dX9_found_38 h (fun a6 h => ?_)
      refine lv_icmp_ge (tgt := 53) M.1 M.2.1 dX9_found_41 (by decide) (fun c7 => ?_) (fun c7 => ?_)
      · have h := h.1 c7
        refine lv_iconst (v := (-1)) M.1 M.2.1 dX9_found_53 (by decide) ?_
        exact g_iret M B hr hlk h (by decide) (by decide) dX9_found_54
      · have h := h.2 c7
        refine g_aload_n M dX9_found_44 rfl (lv_at hl 0 rfl) ?_
        refine gfX9_87 M B dX9_found_45 h (fun a8 h => ?_)
        refine lv_iload_n M.1 M.2.1 dX9_found_48 rfl (lv_at hl 3 rfl) ?_
        refine g_iald M B dX9_found_49 h (fun a9 h => ?_)
        refine lv_goto (tgt := 54) M.1 M.2.1 dX9_found_50 (by decide) ?_
        exact g_iret M B hr hlk h (by decide) (by decide) dX9_found_54
  · have h := h.2 c3
    refine lv_iconst (v := 0) M.1 M.2.1 dX9_found_24 (by decide) ?_
    exact g_iret M B hr hlk h (by decide) (by decide) dX9_found_25
set_option maxRecDepth 100000 in
set_option maxHeartbeats 4000000 in
theorem tX9_found {post : Int32 → Pool → Prop} (M : MC p m c cX9_found 4 s args RX9) (hr : meth.sig.returnType = (some FieldType.int)) (hlk : meth.locks = false) (hRf : 3 ≤ R.frames) (hRl : 77 ≤ R.locals) (hRc : 0 ≤ R.cells) (hRs : 0 ≤ R.slots) : ∀ (v0 : Option Nat) (v1 : Int32) (v2 : Int32) (v3 : Int32) (S : Pool), wX9_found post v0 v1 v2 v3 S → ∀ (H : Heap) (locs : List Loc) (ls : Array Slot), PB D cy A s S H locs → lv_has ls 4 [(0, va_rf v0), (1, .int v1), (2, .int v2), (3, .int v3)] → W p l e R s m args below meth c H locs 0 0 (MQ below (va_Qi post (PQ D cy A) A) args s 0 0 A) (F0 m 0 ls []) := by
  intro v0 v1 v2 v3 S h H locs ls B hl
  unfold wX9_found at h
  refine g_aload_n M dX9_found_0 rfl (lv_at hl 0 rfl) ?_
  refine g_aload_n M dX9_found_1 rfl (lv_at hl 0 rfl) ?_
  refine lv_iload_n M.1 M.2.1 dX9_found_2 rfl (lv_at hl 1 rfl) ?_
  obtain ⟨o1, e1, hL1, hK1, h⟩ := h
  refine g_calli (k1 := 0) (k2 := 0) B (g_runV (n := 1) (As := [.int v1]) (rm := rmX9_isQuestion) M B e1 (kX9_isQuestion (v0 := v0) (v1 := v1) l D cy h _) wmX9_233 wiX9_isQuestion wsX9_isQuestion wnX9 wcdX9_isQuestion ⟨rfl, by decide, by decide, by decide +kernel⟩ ⟨Nat.le_trans (by decide) hRf, Nat.le_trans (by decide) hRl⟩ ⟨Nat.le_trans (by decide) hRc, Nat.le_trans (by decide) hRs⟩ hL1 hK1 (by decide) rfl rfl rfl hl.1 rfl (ct_r ct_0) (by decide) dX9_found_3) (by decide) (by decide) (fun a2 S1 H locs h B => ?_)
  refine lv_if_ne (tgt := 13) M.1 M.2.1 dX9_found_6 (by decide) (fun c3 => ?_) (fun c3 => ?_)
  · have h := h.2 c3
    refine lv_iconst (v := 0) M.1 M.2.1 dX9_found_13 (by decide) ?_
    exact tX9_found_14 M hr hlk hRf hRl hRc hRs _ _ _ _ _ _ _ h _ _ _ B (lv_sub hl [0, 1, 2, 3] rfl)
  · have h := h.1 c3
    refine lv_iconst (v := 1) M.1 M.2.1 dX9_found_9 (by decide) ?_
    refine lv_goto (tgt := 14) M.1 M.2.1 dX9_found_10 (by decide) ?_
    exact tX9_found_14 M hr hlk hRf hRl hRc hRs _ _ _ _ _ _ _ h _ _ _ B (lv_sub hl [0, 1, 2, 3] rfl)
end
set_option maxRecDepth 100000 in
set_option maxHeartbeats 4000000 in
theorem kX9_found (l : Launch) (D : va_G) (cy : Nat → ClassId) {post : Int32 → Pool → Prop} {v0 : Option Nat} {v1 : Int32} {v2 : Int32} {v3 : Int32} {S : Pool} (h : wX9_found post v0 v1 v2 v3 S) : MetI l yX9_found cX9_found 4 (some FieldType.int) rmX9_found [va_rf v0, .int v1, .int v2, .int v3] D cy S post := by
  intro sz
  refine Met.ofW (cc := cX9_found) (maxL := 4) (ret := (some FieldType.int)) (by decide) rfl ?_
  intro p e s m args below meth c s₁ B0 hml hv
  obtain ⟨rfl, hpp⟩ := hv
  have hts := atoms_spec (ws := .code yX9_found cX9_found 4 (some FieldType.int) :: Gw) B0.pre
  obtain rfl : s.heap.size = sz := hpp.1
  have hl := lv_entry [va_rf v0, .int v1, .int v2, .int v3] (n := 4) (by rw [sl_r, sl_i, sl_i, sl_i, sl_0]; decide)
  rw [lg_entry_eq]
  rw [la_r, la_i, la_i, la_i, la_0] at hl
  exact tX9_found (l := l) (R := rmX9_found) ⟨B0.exec, B0.bytes, hml, findClass_of_methodNamed B0.named, fun w hw => hts w (List.mem_cons_of_mem _ hw)⟩ B0.returns B0.notSynchronized (Nat.le_refl _) (Nat.le_refl _) (Nat.le_refl _) (Nat.le_refl _) _ _ _ _ _ h _ _ _ hpp.pb (lv_sub hl [0, 1, 2, 3] rfl)
-- X9_isLater: LogHuntModel.isLater(II)Z
def wX9_isLater_40 (post : Int32 → Pool → Prop) (S : Pool) : Prop := ((1 : Int32) = 0 ∨ (1 : Int32) = 1) ∧ post (1 : Int32) S
def wX9_isLater (post : Int32 → Pool → Prop) (v0 : Option Nat) (v1 : Int32) (v2 : Int32) (S : Pool) : Prop := br (v2 = ((-1))) (wX9_isLater_40 post S) (xR S v0 9 8 fun a2 => xaI S a2 10 v1 fun a3 => xR S v0 9 8 fun a4 => xaI S a4 10 v2 fun a5 => br (a5 < a3) (wX9_isLater_40 post S) (xR S v0 9 8 fun a7 => xaI S a7 10 v1 fun a8 => xR S v0 9 8 fun a9 => xaI S a9 10 v2 fun a10 => br (a8 = a10) (br (v1 ≤ v2) (((0 : Int32) = 0 ∨ (0 : Int32) = 1) ∧ post (0 : Int32) S) (wX9_isLater_40 post S)) (((0 : Int32) = 0 ∨ (0 : Int32) = 1) ∧ post (0 : Int32) S)))
def rmX9_isLater : Room := { frames := 0, cells := 0, slots := 0, locals := 0 }
section
variable {p : Program} {l : Launch} {e : Env} {R : Room} {s : State} {m : MethodId} {args : Array Value} {below : List Frame} {meth : Method} {c : Code} {D : va_G} {cy : Nat → ClassId} {A : Nat → Prop}
set_option maxRecDepth 100000 in
set_option maxHeartbeats 4000000 in
theorem tX9_isLater_40 {post : Int32 → Pool → Prop} (M : MC p m c cX9_isLater 3 s args RX9) (hr : meth.sig.returnType = (some FieldType.boolean)) (hlk : meth.locks = false) (hRf : 0 ≤ R.frames) (hRl : 0 ≤ R.locals) (hRc : 0 ≤ R.cells) (hRs : 0 ≤ R.slots) : ∀ (S : Pool), wX9_isLater_40 post S → ∀ (H : Heap) (locs : List Loc) (ls : Array Slot), PB D cy A s S H locs → lv_has ls 3 [] → W p l e R s m args below meth c H locs 0 0 (MQ below (va_Qi post (PQ D cy A) A) args s 0 0 A) (F0 m 40 ls []) := by
  intro S h H locs ls B hl
  unfold wX9_isLater_40 at h
  refine lv_iconst (v := 1) M.1 M.2.1 dX9_isLater_40 (by decide) ?_
  refine lv_goto (tgt := 45) M.1 M.2.1 dX9_isLater_41 (by decide) ?_
  exact g_zret M B hr hlk h (by decide) (by decide) dX9_isLater_45
set_option maxRecDepth 100000 in
set_option maxHeartbeats 4000000 in
theorem tX9_isLater {post : Int32 → Pool → Prop} (M : MC p m c cX9_isLater 3 s args RX9) (hr : meth.sig.returnType = (some FieldType.boolean)) (hlk : meth.locks = false) (hRf : 0 ≤ R.frames) (hRl : 0 ≤ R.locals) (hRc : 0 ≤ R.cells) (hRs : 0 ≤ R.slots) : ∀ (v0 : Option Nat) (v1 : Int32) (v2 : Int32) (S : Pool), wX9_isLater post v0 v1 v2 S → ∀ (H : Heap) (locs : List Loc) (ls : Array Slot), PB D cy A s S H locs → lv_has ls 3 [(0, va_rf v0), (1, .int v1), (2, .int v2)] → W p l e R s m args below meth c H locs 0 0 (MQ below (va_Qi post (PQ D cy A) A) args s 0 0 A) (F0 m 0 ls []) := by
  intro v0 v1 v2 S h H locs ls B hl
  unfold wX9_isLater at h
  refine lv_iload_n M.1 M.2.1 dX9_isLater_0 rfl (lv_at hl 2 rfl) ?_
  refine lv_iconst (v := (-1)) M.1 M.2.1 dX9_isLater_1 (by decide) ?_
  refine lv_icmp_eq (tgt := 40) M.1 M.2.1 dX9_isLater_2 (by decide) (fun c1 => ?_) (fun c1 => ?_)
  · have h := h.1 c1
    exact tX9_isLater_40 M hr hlk hRf hRl hRc hRs _ h _ _ _ B (lv_sub hl [] rfl)
  · have h := h.2 c1
    refine g_aload_n M dX9_isLater_5 rfl (lv_at hl 0 rfl) ?_
    refine gfX9_23 M B dX9_isLater_6 h (fun a2 h => ?_)
    refine lv_iload_n M.1 M.2.1 dX9_isLater_9 rfl (lv_at hl 1 rfl) ?_
    refine g_iald M B dX9_isLater_10 h (fun a3 h => ?_)
    refine g_aload_n M dX9_isLater_11 rfl (lv_at hl 0 rfl) ?_
    refine gfX9_23 M B dX9_isLater_12 h (fun a4 h => ?_)
    refine lv_iload_n M.1 M.2.1 dX9_isLater_15 rfl (lv_at hl 2 rfl) ?_
    refine g_iald M B dX9_isLater_16 h (fun a5 h => ?_)
    refine lv_icmp_gt (tgt := 40) M.1 M.2.1 dX9_isLater_17 (by decide) (fun c6 => ?_) (fun c6 => ?_)
    · have h := h.1 c6
      exact tX9_isLater_40 M hr hlk hRf hRl hRc hRs _ h _ _ _ B (lv_sub hl [] rfl)
    · have h := h.2 c6
      refine g_aload_n M dX9_isLater_20 rfl (lv_at hl 0 rfl) ?_
      refine gfX9_23 M B dX9_isLater_21 h (fun a7 h => ?_)
      refine lv_iload_n M.1 M.2.1 dX9_isLater_24 rfl (lv_at hl 1 rfl) ?_
      refine g_iald M B dX9_isLater_25 h (fun a8 h => ?_)
      refine g_aload_n M dX9_isLater_26 rfl (lv_at hl 0 rfl) ?_
      refine gfX9_23 M B dX9_isLater_27 h (fun a9 h => ?_)
      refine lv_iload_n M.1 M.2.1 dX9_isLater_30 rfl (lv_at hl 2 rfl) ?_
      refine g_iald M B dX9_isLater_31 h (fun a10 h => ?_)
      refine lv_icmp_ne (tgt := 44) M.1 M.2.1 dX9_isLater_32 (by decide) (fun c11 => ?_) (fun c11 => ?_)
      · have h := h.2 c11
        refine lv_iconst (v := 0) M.1 M.2.1 dX9_isLater_44 (by decide) ?_
        exact g_zret M B hr hlk h (by decide) (by decide) dX9_isLater_45
      · have h := h.1 c11
        refine lv_iload_n M.1 M.2.1 dX9_isLater_35 rfl (lv_at hl 1 rfl) ?_
        refine lv_iload_n M.1 M.2.1 dX9_isLater_36 rfl (lv_at hl 2 rfl) ?_
        refine lv_icmp_le (tgt := 44) M.1 M.2.1 dX9_isLater_37 (by decide) (fun c12 => ?_) (fun c12 => ?_)
        · have h := h.1 c12
          refine lv_iconst (v := 0) M.1 M.2.1 dX9_isLater_44 (by decide) ?_
          exact g_zret M B hr hlk h (by decide) (by decide) dX9_isLater_45
        · have h := h.2 c12
          exact tX9_isLater_40 M hr hlk hRf hRl hRc hRs _ h _ _ _ B (lv_sub hl [] rfl)
end
set_option maxRecDepth 100000 in
set_option maxHeartbeats 4000000 in
theorem kX9_isLater (l : Launch) (D : va_G) (cy : Nat → ClassId) {post : Int32 → Pool → Prop} {v0 : Option Nat} {v1 : Int32} {v2 : Int32} {S : Pool} (h : wX9_isLater post v0 v1 v2 S) : MetI l yX9_isLater cX9_isLater 3 (some FieldType.boolean) rmX9_isLater [va_rf v0, .int v1, .int v2] D cy S post := by
  intro sz
  refine Met.ofW (cc := cX9_isLater) (maxL := 3) (ret := (some FieldType.boolean)) (by decide) rfl ?_
  intro p e s m args below meth c s₁ B0 hml hv
  obtain ⟨rfl, hpp⟩ := hv
  have hts := atoms_spec (ws := .code yX9_isLater cX9_isLater 3 (some FieldType.boolean) :: Gw) B0.pre
  obtain rfl : s.heap.size = sz := hpp.1
  have hl := lv_entry [va_rf v0, .int v1, .int v2] (n := 3) (by rw [sl_r, sl_i, sl_i, sl_0]; decide)
  rw [lg_entry_eq]
  rw [la_r, la_i, la_i, la_0] at hl
  exact tX9_isLater (l := l) (R := rmX9_isLater) ⟨B0.exec, B0.bytes, hml, findClass_of_methodNamed B0.named, fun w hw => hts w (List.mem_cons_of_mem _ hw)⟩ B0.returns B0.notSynchronized (Nat.le_refl _) (Nat.le_refl _) (Nat.le_refl _) (Nat.le_refl _) _ _ _ _ h _ _ _ hpp.pb (lv_sub hl [0, 1, 2] rfl)
-- X9_proof: LogHuntModel.proof(IIII)I
def wX9_proof_165 (K64 : Option Nat → Int32 → Int32 → Int32 → Int32 → Int32 → Pool → Prop) (post : Int32 → Pool → Prop) (v0 : Option Nat) (v1 : Int32) (v4 : Int32) (v6 : Int32) (v8 : Int32) (v9 : Int32) (S : Pool) : Prop := K64 v0 v1 v4 v8 v6 v9 S
def wX9_proof_159 (K64 : Option Nat → Int32 → Int32 → Int32 → Int32 → Int32 → Pool → Prop) (K97 : Option Nat → Int32 → Int32 → Int32 → Int32 → Int32 → Int32 → Int32 → Int32 → Pool → Prop) (post : Int32 → Pool → Prop) (v0 : Option Nat) (v1 : Int32) (v4 : Int32) (v5 : Int32) (v6 : Int32) (v7 : Int32) (v8 : Int32) (v9 : Int32) (v10 : Int32) (S : Pool) : Prop := K97 v0 v1 v4 v5 v6 v7 v8 v9 (v10 + 1) S
def wX9_proof_97 (K64 : Option Nat → Int32 → Int32 → Int32 → Int32 → Int32 → Pool → Prop) (post : Int32 → Pool → Prop) : Nat → Option Nat → Int32 → Int32 → Int32 → Int32 → Int32 → Int32 → Int32 → Int32 → Pool → Prop
  | 0 => fun _ _ _ _ _ _ _ _ _ _ => False
  | n + 1 => fun v0 v1 v4 v5 v6 v7 v8 v9 v10 S => xI S v0 9 4 fun a1 => br (a1 ≤ v10) (wX9_proof_165 K64 post v0 v1 v4 v6 v8 v9 S) (br (v8 < 0) (wX9_proof_165 K64 post v0 v1 v4 v6 v8 v9 S) (xR S v0 9 34 fun a4 => xaI S a4 11 (((250 : Int32) * v8) + v10) fun a5 => br (a5 = 0) (wX9_proof_159 K64 (wX9_proof_97 K64 post n) post v0 v1 v4 v5 v6 v7 v8 v9 v10 S) (xrc S v0 9 (wX9_leads (fun a8 S7 => br (a8 = 0) (wX9_proof_159 K64 (wX9_proof_97 K64 post n) post v0 v1 v4 v5 v6 v7 v8 v9 v10 S7) (xrc S7 v0 9 (wX9_isLater (fun a11 S10 => br (a11 = 0) (wX9_proof_159 K64 (wX9_proof_97 K64 post n) post v0 v1 v4 v5 v6 v7 v8 v9 v10 S10) (wX9_proof_159 K64 (wX9_proof_97 K64 post n) post v0 v1 v4 v5 v6 v7 v8 v10 v10 S10)) v0 v10 v9 S7))) v0 v1 v8 v10 v5 v7 S))))
def wX9_proof_64 (post : Int32 → Pool → Prop) : Nat → Option Nat → Int32 → Int32 → Int32 → Int32 → Int32 → Pool → Prop
  | 0 => fun _ _ _ _ _ _ _ => False
  | n + 1 => fun v0 v1 v4 v5 v6 v7 S => br (v7 = ((-1))) (br (v4 < 0) (post ((-1)) S) (br (v6 ≤ v4) (post ((-1)) S) (xR S v0 9 35 fun a4 => xaI S a4 10 ((v6 - 1) - v4) fun a5 => post a5 S))) (xR S v0 9 35 fun a6 => xsI S a6 10 v6 v7 fun S7 => xrc S7 v0 9 (wX9_before (fun a9 S8 => ∃ n1, wX9_proof_97 (wX9_proof_64 post n) post n1 v0 v1 v4 v5 (v6 + 1) v7 a9 ((-1)) 0 S8) v0 v1 v5 S7))
def wX9_proof_14 (post : Int32 → Pool → Prop) (v0 : Option Nat) (v1 : Int32) (v2 : Int32) (v3 : Int32) (v4 : Int32) (z0 : Int32) (z1 : Option Nat) (S : Pool) : Prop := xpI S z1 9 0 z0 fun S1 => xI S1 v0 9 0 fun a2 => br (a2 ≤ 0) (xrc S1 v0 9 (wX9_work (fun S4 => br (v3 < 0) (post ((-1)) S4) (xI S4 v0 9 36 fun a6 => br (v3 < a6) (xrc S4 v0 9 (wX9_lastStep (fun a9 S8 => xR S8 v0 9 37 fun a10 => xaI S8 a10 10 v3 fun a11 => ∃ n1, wX9_proof_64 post n1 v0 v1 v4 a9 0 a11 S8) v0 v1 S4)) (post ((-1)) S4))) v0 v1 v2 S1)) (post 0 S1)
def wX9_proof (post : Int32 → Pool → Prop) (v0 : Option Nat) (v1 : Int32) (v2 : Int32) (v3 : Int32) (v4 : Int32) (S : Pool) : Prop := xrc S v0 9 (wX9_isQuestion (fun a2 S1 => br (a2 = 0) (wX9_proof_14 post v0 v1 v2 v3 v4 1 v0 S1) (wX9_proof_14 post v0 v1 v2 v3 v4 0 v0 S1)) v0 v1 S)
def rmX9_proof : Room := { frames := 3, cells := 0, slots := 0, locals := 77 }
section
variable {p : Program} {l : Launch} {e : Env} {R : Room} {s : State} {m : MethodId} {args : Array Value} {below : List Frame} {meth : Method} {c : Code} {D : va_G} {cy : Nat → ClassId} {A : Nat → Prop}
set_option maxRecDepth 100000 in
set_option maxHeartbeats 4000000 in
theorem tX9_proof_165 {K64 : Option Nat → Int32 → Int32 → Int32 → Int32 → Int32 → Pool → Prop} {post : Int32 → Pool → Prop} (M : MC p m c cX9_proof 11 s args RX9) (hr : meth.sig.returnType = (some FieldType.int)) (hlk : meth.locks = false) (hRf : 3 ≤ R.frames) (hRl : 77 ≤ R.locals) (hRc : 0 ≤ R.cells) (hRs : 0 ≤ R.slots) (hK64 : ∀ (v0 : Option Nat) (v1 : Int32) (v4 : Int32) (v5 : Int32) (v6 : Int32) (v7 : Int32) (S : Pool), K64 v0 v1 v4 v5 v6 v7 S → ∀ (H : Heap) (locs : List Loc) (ls : Array Slot), PB D cy A s S H locs → lv_has ls 11 [(0, va_rf v0), (1, .int v1), (4, .int v4), (5, .int v5), (6, .int v6), (7, .int v7)] → W p l e R s m args below meth c H locs 0 0 (MQ below (va_Qi post (PQ D cy A) A) args s 0 0 A) (F0 m 64 ls [])) : ∀ (v0 : Option Nat) (v1 : Int32) (v4 : Int32) (v6 : Int32) (v8 : Int32) (v9 : Int32) (S : Pool), wX9_proof_165 K64 post v0 v1 v4 v6 v8 v9 S → ∀ (H : Heap) (locs : List Loc) (ls : Array Slot), PB D cy A s S H locs → lv_has ls 11 [(0, va_rf v0), (1, .int v1), (4, .int v4), (6, .int v6), (8, .int v8), (9, .int v9)] → W p l e R s m args below meth c H locs 0 0 (MQ below (va_Qi post (PQ D cy A) A) args s 0 0 A) (F0 m 165 ls []) := by
  intro v0 v1 v4 v6 v8 v9 S h H locs ls B hl
  unfold wX9_proof_165 at h
  refine lv_iload M.1 M.2.1 dX9_proof_165 (lv_at hl 5 rfl) ?_
  refine lv_istore (lv' := [(7, .int v9), (0, va_rf v0), (1, .int v1), (4, .int v4), (6, .int v6), (8, .int v8), (9, .int v9)]) M.1 M.2.1 dX9_proof_167 hl (by decide) (fl_e (fl_k rfl rfl (fl_k rfl rfl (fl_k rfl rfl (fl_i rfl (fl_k rfl rfl (fl_k rfl rfl fl_0))))))) (fun ls hl => ?_)
  refine lv_iload M.1 M.2.1 dX9_proof_169 (lv_at hl 5 rfl) ?_
  refine lv_istore (lv' := [(5, .int v8), (7, .int v9), (0, va_rf v0), (1, .int v1), (4, .int v4), (6, .int v6), (8, .int v8), (9, .int v9)]) M.1 M.2.1 dX9_proof_171 hl (by decide) (fl_e (fl_k rfl rfl (fl_k rfl rfl (fl_k rfl rfl (fl_i rfl (fl_k rfl rfl (fl_k rfl rfl (fl_k rfl rfl fl_0)))))))) (fun ls hl => ?_)
  refine lv_goto (tgt := 64) M.1 M.2.1 dX9_proof_173 (by decide) ?_
  exact hK64 _ _ _ _ _ _ _ h _ _ _ B (lv_sub hl [2, 3, 4, 0, 5, 1] rfl)
set_option maxRecDepth 100000 in
set_option maxHeartbeats 4000000 in
theorem tX9_proof_159 {K64 : Option Nat → Int32 → Int32 → Int32 → Int32 → Int32 → Pool → Prop} {K97 : Option Nat → Int32 → Int32 → Int32 → Int32 → Int32 → Int32 → Int32 → Int32 → Pool → Prop} {post : Int32 → Pool → Prop} (M : MC p m c cX9_proof 11 s args RX9) (hr : meth.sig.returnType = (some FieldType.int)) (hlk : meth.locks = false) (hRf : 3 ≤ R.frames) (hRl : 77 ≤ R.locals) (hRc : 0 ≤ R.cells) (hRs : 0 ≤ R.slots) (hK64 : ∀ (v0 : Option Nat) (v1 : Int32) (v4 : Int32) (v5 : Int32) (v6 : Int32) (v7 : Int32) (S : Pool), K64 v0 v1 v4 v5 v6 v7 S → ∀ (H : Heap) (locs : List Loc) (ls : Array Slot), PB D cy A s S H locs → lv_has ls 11 [(0, va_rf v0), (1, .int v1), (4, .int v4), (5, .int v5), (6, .int v6), (7, .int v7)] → W p l e R s m args below meth c H locs 0 0 (MQ below (va_Qi post (PQ D cy A) A) args s 0 0 A) (F0 m 64 ls [])) (hK97 : ∀ (v0 : Option Nat) (v1 : Int32) (v4 : Int32) (v5 : Int32) (v6 : Int32) (v7 : Int32) (v8 : Int32) (v9 : Int32) (v10 : Int32) (S : Pool), K97 v0 v1 v4 v5 v6 v7 v8 v9 v10 S → ∀ (H : Heap) (locs : List Loc) (ls : Array Slot), PB D cy A s S H locs → lv_has ls 11 [(0, va_rf v0), (1, .int v1), (4, .int v4), (5, .int v5), (6, .int v6), (7, .int v7), (8, .int v8), (9, .int v9), (10, .int v10)] → W p l e R s m args below meth c H locs 0 0 (MQ below (va_Qi post (PQ D cy A) A) args s 0 0 A) (F0 m 97 ls [])) : ∀ (v0 : Option Nat) (v1 : Int32) (v4 : Int32) (v5 : Int32) (v6 : Int32) (v7 : Int32) (v8 : Int32) (v9 : Int32) (v10 : Int32) (S : Pool), wX9_proof_159 K64 K97 post v0 v1 v4 v5 v6 v7 v8 v9 v10 S → ∀ (H : Heap) (locs : List Loc) (ls : Array Slot), PB D cy A s S H locs → lv_has ls 11 [(0, va_rf v0), (1, .int v1), (4, .int v4), (5, .int v5), (6, .int v6), (7, .int v7), (8, .int v8), (9, .int v9), (10, .int v10)] → W p l e R s m args below meth c H locs 0 0 (MQ below (va_Qi post (PQ D cy A) A) args s 0 0 A) (F0 m 159 ls []) := by
  intro v0 v1 v4 v5 v6 v7 v8 v9 v10 S h H locs ls B hl
  unfold wX9_proof_159 at h
  refine lv_iinc (v := v10 + 1) (lv' := [(10, .int (v10 + 1)), (0, va_rf v0), (1, .int v1), (4, .int v4), (5, .int v5), (6, .int v6), (7, .int v7), (8, .int v8), (9, .int v9)]) M.1 M.2.1 dX9_proof_159 hl (k := 8) rfl (by rfl) (by decide) (fl_e (fl_k rfl rfl (fl_k rfl rfl (fl_k rfl rfl (fl_k rfl rfl (fl_k rfl rfl (fl_k rfl rfl (fl_k rfl rfl (fl_i rfl (fl_d rfl fl_0)))))))))) (fun ls hl => ?_)
  refine lv_goto (tgt := 97) M.1 M.2.1 dX9_proof_162 (by decide) ?_
  exact hK97 _ _ _ _ _ _ _ _ _ _ h _ _ _ B (lv_sub hl [1, 2, 3, 4, 5, 6, 7, 8, 0] rfl)
set_option maxRecDepth 100000 in
set_option maxHeartbeats 4000000 in
theorem tX9_proof_97 {K64 : Option Nat → Int32 → Int32 → Int32 → Int32 → Int32 → Pool → Prop} {post : Int32 → Pool → Prop} (M : MC p m c cX9_proof 11 s args RX9) (hr : meth.sig.returnType = (some FieldType.int)) (hlk : meth.locks = false) (hRf : 3 ≤ R.frames) (hRl : 77 ≤ R.locals) (hRc : 0 ≤ R.cells) (hRs : 0 ≤ R.slots) (hK64 : ∀ (v0 : Option Nat) (v1 : Int32) (v4 : Int32) (v5 : Int32) (v6 : Int32) (v7 : Int32) (S : Pool), K64 v0 v1 v4 v5 v6 v7 S → ∀ (H : Heap) (locs : List Loc) (ls : Array Slot), PB D cy A s S H locs → lv_has ls 11 [(0, va_rf v0), (1, .int v1), (4, .int v4), (5, .int v5), (6, .int v6), (7, .int v7)] → W p l e R s m args below meth c H locs 0 0 (MQ below (va_Qi post (PQ D cy A) A) args s 0 0 A) (F0 m 64 ls [])) : ∀ (n : Nat) (v0 : Option Nat) (v1 : Int32) (v4 : Int32) (v5 : Int32) (v6 : Int32) (v7 : Int32) (v8 : Int32) (v9 : Int32) (v10 : Int32) (S : Pool), wX9_proof_97 K64 post n v0 v1 v4 v5 v6 v7 v8 v9 v10 S → ∀ (H : Heap) (locs : List Loc) (ls : Array Slot), PB D cy A s S H locs → lv_has ls 11 [(0, va_rf v0), (1, .int v1), (4, .int v4), (5, .int v5), (6, .int v6), (7, .int v7), (8, .int v8), (9, .int v9), (10, .int v10)] → W p l e R s m args below meth c H locs 0 0 (MQ below (va_Qi post (PQ D cy A) A) args s 0 0 A) (F0 m 97 ls []) := by
  intro n
  induction n with
  | zero => intro v0 v1 v4 v5 v6 v7 v8 v9 v10 S h; exact False.elim h
  | succ n ih =>
    intro v0 v1 v4 v5 v6 v7 v8 v9 v10 S h H locs ls B hl
    unfold wX9_proof_97 at h
    refine lv_iload M.1 M.2.1 dX9_proof_97 (lv_at hl 8 rfl) ?_
    refine g_aload_n M dX9_proof_99 rfl (lv_at hl 0 rfl) ?_
    refine gfX9_105 M B dX9_proof_100 h (fun a1 h => ?_)
    refine lv_icmp_ge (tgt := 165) M.1 M.2.1 dX9_proof_103 (by decide) (fun c2 => ?_) (fun c2 => ?_)
    · have h := h.1 c2
      exact tX9_proof_165 M hr hlk hRf hRl hRc hRs hK64 _ _ _ _ _ _ _ h _ _ _ B (lv_sub hl [0, 1, 2, 4, 6, 7] rfl)
    · have h := h.2 c2
      refine lv_iload M.1 M.2.1 dX9_proof_106 (lv_at hl 6 rfl) ?_
      refine lv_if_lt (tgt := 165) M.1 M.2.1 dX9_proof_108 (by decide) (fun c3 => ?_) (fun c3 => ?_)
      · have h := h.1 c3
        exact tX9_proof_165 M hr hlk hRf hRl hRc hRs hK64 _ _ _ _ _ _ _ h _ _ _ B (lv_sub hl [0, 1, 2, 4, 6, 7] rfl)
      · have h := h.2 c3
        refine g_aload_n M dX9_proof_111 rfl (lv_at hl 0 rfl) ?_
        refine gfX9_81 M B dX9_proof_112 h (fun a4 h => ?_)
        refine lv_sipush (v := 250) M.1 M.2.1 dX9_proof_115 (by decide) ?_
        refine lv_iload M.1 M.2.1 dX9_proof_118 (lv_at hl 6 rfl) ?_
        refine lv_imul M.1 M.2.1 dX9_proof_120 ?_
        refine lv_iload M.1 M.2.1 dX9_proof_121 (lv_at hl 8 rfl) ?_
        refine lv_iadd M.1 M.2.1 dX9_proof_123 ?_
        refine g_zald M B dX9_proof_124 h (fun a5 h => ?_)
        refine lv_if_eq (tgt := 159) M.1 M.2.1 dX9_proof_125 (by decide) (fun c6 => ?_) (fun c6 => ?_)
        · have h := h.1 c6
          exact tX9_proof_159 M hr hlk hRf hRl hRc hRs hK64 ih _ _ _ _ _ _ _ _ _ _ h _ _ _ B (lv_sub hl [0, 1, 2, 3, 4, 5, 6, 7, 8] rfl)
        · have h := h.2 c6
          refine g_aload_n M dX9_proof_128 rfl (lv_at hl 0 rfl) ?_
          refine lv_iload_n M.1 M.2.1 dX9_proof_129 rfl (lv_at hl 1 rfl) ?_
          refine lv_iload M.1 M.2.1 dX9_proof_130 (lv_at hl 6 rfl) ?_
          refine lv_iload M.1 M.2.1 dX9_proof_132 (lv_at hl 8 rfl) ?_
          refine lv_iload M.1 M.2.1 dX9_proof_134 (lv_at hl 3 rfl) ?_
          refine lv_iload M.1 M.2.1 dX9_proof_136 (lv_at hl 5 rfl) ?_
          obtain ⟨o1, e1, hL1, hK1, h⟩ := h
          refine g_calli (k1 := 0) (k2 := 0) B (g_runV (n := 5) (As := [.int v1, .int v8, .int v10, .int v5, .int v7]) (rm := rmX9_leads) M B e1 (kX9_leads (v0 := v0) (v1 := v1) (v2 := v8) (v3 := v10) (v4 := v5) (v5 := v7) l D cy h _) wmX9_219 wiX9_leads wsX9_leads wnX9 wcdX9_leads ⟨rfl, by decide, by decide, by decide +kernel⟩ ⟨Nat.le_trans (by decide) hRf, Nat.le_trans (by decide) hRl⟩ ⟨Nat.le_trans (by decide) hRc, Nat.le_trans (by decide) hRs⟩ hL1 hK1 (by decide) rfl rfl rfl hl.1 rfl ct_0 (by decide) dX9_proof_138) (by decide) (by decide) (fun a8 S7 H locs h B => ?_)
          refine lv_if_eq (tgt := 159) M.1 M.2.1 dX9_proof_141 (by decide) (fun c9 => ?_) (fun c9 => ?_)
          · have h := h.1 c9
            exact tX9_proof_159 M hr hlk hRf hRl hRc hRs hK64 ih _ _ _ _ _ _ _ _ _ _ h _ _ _ B (lv_sub hl [0, 1, 2, 3, 4, 5, 6, 7, 8] rfl)
          · have h := h.2 c9
            refine g_aload_n M dX9_proof_144 rfl (lv_at hl 0 rfl) ?_
            refine lv_iload M.1 M.2.1 dX9_proof_145 (lv_at hl 8 rfl) ?_
            refine lv_iload M.1 M.2.1 dX9_proof_147 (lv_at hl 7 rfl) ?_
            obtain ⟨o1, e1, hL1, hK1, h⟩ := h
            refine g_calli (k1 := 0) (k2 := 0) B (g_runV (n := 2) (As := [.int v10, .int v9]) (rm := rmX9_isLater) M B e1 (kX9_isLater (v0 := v0) (v1 := v10) (v2 := v9) l D cy h _) wmX9_240 wiX9_isLater wsX9_isLater wnX9 wcdX9_isLater ⟨rfl, by decide, by decide, by decide +kernel⟩ ⟨Nat.le_trans (by decide) hRf, Nat.le_trans (by decide) hRl⟩ ⟨Nat.le_trans (by decide) hRc, Nat.le_trans (by decide) hRs⟩ hL1 hK1 (by decide) rfl rfl rfl hl.1 rfl ct_0 (by decide) dX9_proof_149) (by decide) (by decide) (fun a11 S10 H locs h B => ?_)
            refine lv_if_eq (tgt := 159) M.1 M.2.1 dX9_proof_152 (by decide) (fun c12 => ?_) (fun c12 => ?_)
            · have h := h.1 c12
              exact tX9_proof_159 M hr hlk hRf hRl hRc hRs hK64 ih _ _ _ _ _ _ _ _ _ _ h _ _ _ B (lv_sub hl [0, 1, 2, 3, 4, 5, 6, 7, 8] rfl)
            · have h := h.2 c12
              refine lv_iload M.1 M.2.1 dX9_proof_155 (lv_at hl 8 rfl) ?_
              refine lv_istore (lv' := [(9, .int v10), (0, va_rf v0), (1, .int v1), (4, .int v4), (5, .int v5), (6, .int v6), (7, .int v7), (8, .int v8), (10, .int v10)]) M.1 M.2.1 dX9_proof_157 hl (by decide) (fl_e (fl_k rfl rfl (fl_k rfl rfl (fl_k rfl rfl (fl_k rfl rfl (fl_k rfl rfl (fl_k rfl rfl (fl_i rfl (fl_d rfl (fl_k rfl rfl fl_0)))))))))) (fun ls hl => ?_)
              exact tX9_proof_159 M hr hlk hRf hRl hRc hRs hK64 ih _ _ _ _ _ _ _ _ _ _ h _ _ _ B (lv_sub hl [1, 2, 3, 4, 5, 6, 7, 0, 8] rfl)
set_option maxRecDepth 100000 in
set_option maxHeartbeats 4000000 in
theorem tX9_proof_64 {post : Int32 → Pool → Prop} (M : MC p m c cX9_proof 11 s args RX9) (hr : meth.sig.returnType = (some FieldType.int)) (hlk : meth.locks = false) (hRf : 3 ≤ R.frames) (hRl : 77 ≤ R.locals) (hRc : 0 ≤ R.cells) (hRs : 0 ≤ R.slots) : ∀ (n : Nat) (v0 : Option Nat) (v1 : Int32) (v4 : Int32) (v5 : Int32) (v6 : Int32) (v7 : Int32) (S : Pool), wX9_proof_64 post n v0 v1 v4 v5 v6 v7 S → ∀ (H : Heap) (locs : List Loc) (ls : Array Slot), PB D cy A s S H locs → lv_has ls 11 [(0, va_rf v0), (1, .int v1), (4, .int v4), (5, .int v5), (6, .int v6), (7, .int v7)] → W p l e R s m args below meth c H locs 0 0 (MQ below (va_Qi post (PQ D cy A) A) args s 0 0 A) (F0 m 64 ls []) := by
  intro n
  induction n with
  | zero => intro v0 v1 v4 v5 v6 v7 S h; exact False.elim h
  | succ n ih =>
    intro v0 v1 v4 v5 v6 v7 S h H locs ls B hl
    unfold wX9_proof_64 at h
    refine lv_iload M.1 M.2.1 dX9_proof_64 (lv_at hl 5 rfl) ?_
    refine lv_iconst (v := (-1)) M.1 M.2.1 dX9_proof_66 (by decide) ?_
    refine lv_icmp_eq (tgt := 176) M.1 M.2.1 dX9_proof_67 (by decide) (fun c1 => ?_) (fun c1 => ?_)
    · have h := h.1 c1
      refine lv_iload M.1 M.2.1 dX9_proof_176 (lv_at hl 2 rfl) ?_
      refine lv_if_lt (tgt := 203) M.1 M.2.1 dX9_proof_178 (by decide) (fun c2 => ?_) (fun c2 => ?_)
      · have h := h.1 c2
        refine lv_iconst (v := (-1)) M.1 M.2.1 dX9_proof_203 (by decide) ?_
        exact g_iret M B hr hlk h (by decide) (by decide) dX9_proof_204
      · have h := h.2 c2
        refine lv_iload M.1 M.2.1 dX9_proof_181 (lv_at hl 2 rfl) ?_
        refine lv_iload M.1 M.2.1 dX9_proof_183 (lv_at hl 4 rfl) ?_
        refine lv_icmp_ge (tgt := 203) M.1 M.2.1 dX9_proof_185 (by decide) (fun c3 => ?_) (fun c3 => ?_)
        · have h := h.1 c3
          refine lv_iconst (v := (-1)) M.1 M.2.1 dX9_proof_203 (by decide) ?_
          exact g_iret M B hr hlk h (by decide) (by decide) dX9_proof_204
        · have h := h.2 c3
          refine g_aload_n M dX9_proof_188 rfl (lv_at hl 0 rfl) ?_
          refine gfX9_84 M B dX9_proof_189 h (fun a4 h => ?_)
          refine lv_iload M.1 M.2.1 dX9_proof_192 (lv_at hl 4 rfl) ?_
          refine lv_iconst (v := 1) M.1 M.2.1 dX9_proof_194 (by decide) ?_
          refine lv_isub M.1 M.2.1 dX9_proof_195 ?_
          refine lv_iload M.1 M.2.1 dX9_proof_196 (lv_at hl 2 rfl) ?_
          refine lv_isub M.1 M.2.1 dX9_proof_198 ?_
          refine g_iald M B dX9_proof_199 h (fun a5 h => ?_)
          refine lv_goto (tgt := 204) M.1 M.2.1 dX9_proof_200 (by decide) ?_
          exact g_iret M B hr hlk h (by decide) (by decide) dX9_proof_204
    · have h := h.2 c1
      refine g_aload_n M dX9_proof_70 rfl (lv_at hl 0 rfl) ?_
      refine gfX9_84 M B dX9_proof_71 h (fun a6 h => ?_)
      refine lv_iload M.1 M.2.1 dX9_proof_74 (lv_at hl 4 rfl) ?_
      refine lv_iload M.1 M.2.1 dX9_proof_76 (lv_at hl 5 rfl) ?_
      refine g_iast M B dX9_proof_78 h (fun S7 H locs h B => ?_)
      refine lv_iinc (v := v6 + 1) (lv' := [(6, .int (v6 + 1)), (0, va_rf v0), (1, .int v1), (4, .int v4), (5, .int v5), (7, .int v7)]) M.1 M.2.1 dX9_proof_79 hl (k := 4) rfl (by rfl) (by decide) (fl_e (fl_k rfl rfl (fl_k rfl rfl (fl_k rfl rfl (fl_i rfl (fl_d rfl (fl_k rfl rfl fl_0))))))) (fun ls hl => ?_)
      refine g_aload_n M dX9_proof_82 rfl (lv_at hl 1 rfl) ?_
      refine lv_iload_n M.1 M.2.1 dX9_proof_83 rfl (lv_at hl 2 rfl) ?_
      refine lv_iload M.1 M.2.1 dX9_proof_84 (lv_at hl 4 rfl) ?_
      obtain ⟨o1, e1, hL1, hK1, h⟩ := h
      refine g_calli (k1 := 0) (k2 := 0) B (g_runV (n := 2) (As := [.int v1, .int v5]) (rm := rmX9_before) M B e1 (kX9_before (v0 := v0) (v1 := v1) (v2 := v5) l D cy h _) wmX9_209 wiX9_before wsX9_before wnX9 wcdX9_before ⟨rfl, by decide, by decide, by decide +kernel⟩ ⟨Nat.le_trans (by decide) hRf, Nat.le_trans (by decide) hRl⟩ ⟨Nat.le_trans (by decide) hRc, Nat.le_trans (by decide) hRs⟩ hL1 hK1 (by decide) rfl rfl rfl hl.1 rfl ct_0 (by decide) dX9_proof_86) (by decide) (by decide) (fun a9 S8 H locs h B => ?_)
      refine lv_istore (lv' := [(8, .int a9), (6, .int (v6 + 1)), (0, va_rf v0), (1, .int v1), (4, .int v4), (5, .int v5), (7, .int v7)]) M.1 M.2.1 dX9_proof_89 hl (by decide) (fl_e (fl_k rfl rfl (fl_k rfl rfl (fl_k rfl rfl (fl_k rfl rfl (fl_k rfl rfl (fl_i rfl fl_0))))))) (fun ls hl => ?_)
      refine lv_iconst (v := (-1)) M.1 M.2.1 dX9_proof_91 (by decide) ?_
      refine lv_istore (lv' := [(9, .int ((-1))), (8, .int a9), (6, .int (v6 + 1)), (0, va_rf v0), (1, .int v1), (4, .int v4), (5, .int v5), (7, .int v7)]) M.1 M.2.1 dX9_proof_92 hl (by decide) (fl_e (fl_i rfl (fl_k rfl rfl (fl_k rfl rfl (fl_k rfl rfl (fl_k rfl rfl (fl_k rfl rfl (fl_k rfl rfl fl_0)))))))) (fun ls hl => ?_)
      refine lv_iconst (v := 0) M.1 M.2.1 dX9_proof_94 (by decide) ?_
      refine lv_istore (lv' := [(10, .int 0), (9, .int ((-1))), (8, .int a9), (6, .int (v6 + 1)), (0, va_rf v0), (1, .int v1), (4, .int v4), (5, .int v5), (7, .int v7)]) M.1 M.2.1 dX9_proof_95 hl (by decide) (fl_e (fl_i rfl (fl_k rfl rfl (fl_k rfl rfl (fl_k rfl rfl (fl_k rfl rfl (fl_k rfl rfl (fl_k rfl rfl (fl_k rfl rfl fl_0))))))))) (fun ls hl => ?_)
      obtain ⟨n1, h⟩ := h
      exact tX9_proof_97 M hr hlk hRf hRl hRc hRs ih n1 _ _ _ _ _ _ _ _ _ _ h _ _ _ B (lv_sub hl [4, 5, 6, 7, 3, 8, 2, 1, 0] rfl)
set_option maxRecDepth 100000 in
set_option maxHeartbeats 4000000 in
theorem tX9_proof_14 {post : Int32 → Pool → Prop} (M : MC p m c cX9_proof 11 s args RX9) (hr : meth.sig.returnType = (some FieldType.int)) (hlk : meth.locks = false) (hRf : 3 ≤ R.frames) (hRl : 77 ≤ R.locals) (hRc : 0 ≤ R.cells) (hRs : 0 ≤ R.slots) : ∀ (v0 : Option Nat) (v1 : Int32) (v2 : Int32) (v3 : Int32) (v4 : Int32) (z0 : Int32) (z1 : Option Nat) (S : Pool), wX9_proof_14 post v0 v1 v2 v3 v4 z0 z1 S → ∀ (H : Heap) (locs : List Loc) (ls : Array Slot), PB D cy A s S H locs → lv_has ls 11 [(0, va_rf v0), (1, .int v1), (2, .int v2), (3, .int v3), (4, .int v4)] → W p l e R s m args below meth c H locs 0 0 (MQ below (va_Qi post (PQ D cy A) A) args s 0 0 A) (F0 m 14 ls [.int z0, va_rf z1]) := by
  intro v0 v1 v2 v3 v4 z0 z1 S h H locs ls B hl
  unfold wX9_proof_14 at h
  refine gpX9_99 M B dX9_proof_14 h (fun S1 H locs h B => ?_)
  refine g_aload_n M dX9_proof_17 rfl (lv_at hl 0 rfl) ?_
  refine gfX9_99 M B dX9_proof_18 h (fun a2 h => ?_)
  refine lv_if_le (tgt := 26) M.1 M.2.1 dX9_proof_21 (by decide) (fun c3 => ?_) (fun c3 => ?_)
  · have h := h.1 c3
    refine g_aload_n M dX9_proof_26 rfl (lv_at hl 0 rfl) ?_
    refine lv_iload_n M.1 M.2.1 dX9_proof_27 rfl (lv_at hl 1 rfl) ?_
    refine lv_iload_n M.1 M.2.1 dX9_proof_28 rfl (lv_at hl 2 rfl) ?_
    obtain ⟨o1, e1, hL1, hK1, h⟩ := h
    refine g_callv (k1 := 0) (k2 := 0) B (g_runV (n := 2) (As := [.int v1, .int v2]) (rm := rmX9_work) M B e1 (kX9_work (v0 := v0) (v1 := v1) (v2 := v2) l D cy h _) wmX9_236 wiX9_work wsX9_work wnX9 wcdX9_work ⟨rfl, by decide, by decide, by decide +kernel⟩ ⟨Nat.le_trans (by decide) hRf, Nat.le_trans (by decide) hRl⟩ ⟨Nat.le_trans (by decide) hRc, Nat.le_trans (by decide) hRs⟩ hL1 hK1 (by decide) rfl rfl rfl hl.1 rfl ct_0 (by decide) dX9_proof_29) (by decide) (by decide) (fun S4 H locs h B => ?_)
    refine lv_iload_n M.1 M.2.1 dX9_proof_32 rfl (lv_at hl 3 rfl) ?_
    refine lv_if_lt (tgt := 44) M.1 M.2.1 dX9_proof_33 (by decide) (fun c5 => ?_) (fun c5 => ?_)
    · have h := h.1 c5
      refine lv_iconst (v := (-1)) M.1 M.2.1 dX9_proof_44 (by decide) ?_
      exact g_iret M B hr hlk h (by decide) (by decide) dX9_proof_45
    · have h := h.2 c5
      refine lv_iload_n M.1 M.2.1 dX9_proof_36 rfl (lv_at hl 3 rfl) ?_
      refine g_aload_n M dX9_proof_37 rfl (lv_at hl 0 rfl) ?_
      refine gfX9_212 M B dX9_proof_38 h (fun a6 h => ?_)
      refine lv_icmp_lt (tgt := 46) M.1 M.2.1 dX9_proof_41 (by decide) (fun c7 => ?_) (fun c7 => ?_)
      · have h := h.1 c7
        refine g_aload_n M dX9_proof_46 rfl (lv_at hl 0 rfl) ?_
        refine lv_iload_n M.1 M.2.1 dX9_proof_47 rfl (lv_at hl 1 rfl) ?_
        obtain ⟨o1, e1, hL1, hK1, h⟩ := h
        refine g_calli (k1 := 0) (k2 := 0) B (g_runV (n := 1) (As := [.int v1]) (rm := rmX9_lastStep) M B e1 (kX9_lastStep (v0 := v0) (v1 := v1) l D cy h _) wmX9_223 wiX9_lastStep wsX9_lastStep wnX9 wcdX9_lastStep ⟨rfl, by decide, by decide, by decide +kernel⟩ ⟨Nat.le_trans (by decide) hRf, Nat.le_trans (by decide) hRl⟩ ⟨Nat.le_trans (by decide) hRc, Nat.le_trans (by decide) hRs⟩ hL1 hK1 (by decide) rfl rfl rfl hl.1 rfl ct_0 (by decide) dX9_proof_48) (by decide) (by decide) (fun a9 S8 H locs h B => ?_)
        refine lv_istore (lv' := [(5, .int a9), (0, va_rf v0), (1, .int v1), (2, .int v2), (3, .int v3), (4, .int v4)]) M.1 M.2.1 dX9_proof_51 hl (by decide) (fl_e (fl_k rfl rfl (fl_k rfl rfl (fl_k rfl rfl (fl_k rfl rfl (fl_i rfl fl_0)))))) (fun ls hl => ?_)
        refine lv_iconst (v := 0) M.1 M.2.1 dX9_proof_53 (by decide) ?_
        refine lv_istore (lv' := [(6, .int 0), (5, .int a9), (0, va_rf v0), (1, .int v1), (2, .int v2), (3, .int v3), (4, .int v4)]) M.1 M.2.1 dX9_proof_54 hl (by decide) (fl_e (fl_i rfl (fl_k rfl rfl (fl_k rfl rfl (fl_k rfl rfl (fl_k rfl rfl (fl_k rfl rfl fl_0))))))) (fun ls hl => ?_)
        refine g_aload_n M dX9_proof_56 rfl (lv_at hl 2 rfl) ?_
        refine gfX9_87 M B dX9_proof_57 h (fun a10 h => ?_)
        refine lv_iload_n M.1 M.2.1 dX9_proof_60 rfl (lv_at hl 5 rfl) ?_
        refine g_iald M B dX9_proof_61 h (fun a11 h => ?_)
        refine lv_istore (lv' := [(7, .int a11), (6, .int 0), (5, .int a9), (0, va_rf v0), (1, .int v1), (2, .int v2), (3, .int v3), (4, .int v4)]) M.1 M.2.1 dX9_proof_62 hl (by decide) (fl_e (fl_i rfl (fl_k rfl rfl (fl_k rfl rfl (fl_k rfl rfl (fl_k rfl rfl (fl_k rfl rfl (fl_k rfl rfl fl_0)))))))) (fun ls hl => ?_)
        obtain ⟨n1, h⟩ := h
        exact tX9_proof_64 M hr hlk hRf hRl hRc hRs n1 _ _ _ _ _ _ _ h _ _ _ B (lv_sub hl [3, 4, 7, 2, 1, 0] rfl)
      · have h := h.2 c7
        refine lv_iconst (v := (-1)) M.1 M.2.1 dX9_proof_44 (by decide) ?_
        exact g_iret M B hr hlk h (by decide) (by decide) dX9_proof_45
  · have h := h.2 c3
    refine lv_iconst (v := 0) M.1 M.2.1 dX9_proof_24 (by decide) ?_
    exact g_iret M B hr hlk h (by decide) (by decide) dX9_proof_25
set_option maxRecDepth 100000 in
set_option maxHeartbeats 4000000 in
theorem tX9_proof {post : Int32 → Pool → Prop} (M : MC p m c cX9_proof 11 s args RX9) (hr : meth.sig.returnType = (some FieldType.int)) (hlk : meth.locks = false) (hRf : 3 ≤ R.frames) (hRl : 77 ≤ R.locals) (hRc : 0 ≤ R.cells) (hRs : 0 ≤ R.slots) : ∀ (v0 : Option Nat) (v1 : Int32) (v2 : Int32) (v3 : Int32) (v4 : Int32) (S : Pool), wX9_proof post v0 v1 v2 v3 v4 S → ∀ (H : Heap) (locs : List Loc) (ls : Array Slot), PB D cy A s S H locs → lv_has ls 11 [(0, va_rf v0), (1, .int v1), (2, .int v2), (3, .int v3), (4, .int v4)] → W p l e R s m args below meth c H locs 0 0 (MQ below (va_Qi post (PQ D cy A) A) args s 0 0 A) (F0 m 0 ls []) := by
  intro v0 v1 v2 v3 v4 S h H locs ls B hl
  unfold wX9_proof at h
  refine g_aload_n M dX9_proof_0 rfl (lv_at hl 0 rfl) ?_
  refine g_aload_n M dX9_proof_1 rfl (lv_at hl 0 rfl) ?_
  refine lv_iload_n M.1 M.2.1 dX9_proof_2 rfl (lv_at hl 1 rfl) ?_
  obtain ⟨o1, e1, hL1, hK1, h⟩ := h
  refine g_calli (k1 := 0) (k2 := 0) B (g_runV (n := 1) (As := [.int v1]) (rm := rmX9_isQuestion) M B e1 (kX9_isQuestion (v0 := v0) (v1 := v1) l D cy h _) wmX9_233 wiX9_isQuestion wsX9_isQuestion wnX9 wcdX9_isQuestion ⟨rfl, by decide, by decide, by decide +kernel⟩ ⟨Nat.le_trans (by decide) hRf, Nat.le_trans (by decide) hRl⟩ ⟨Nat.le_trans (by decide) hRc, Nat.le_trans (by decide) hRs⟩ hL1 hK1 (by decide) rfl rfl rfl hl.1 rfl (ct_r ct_0) (by decide) dX9_proof_3) (by decide) (by decide) (fun a2 S1 H locs h B => ?_)
  refine lv_if_ne (tgt := 13) M.1 M.2.1 dX9_proof_6 (by decide) (fun c3 => ?_) (fun c3 => ?_)
  · have h := h.2 c3
    refine lv_iconst (v := 0) M.1 M.2.1 dX9_proof_13 (by decide) ?_
    exact tX9_proof_14 M hr hlk hRf hRl hRc hRs _ _ _ _ _ _ _ _ h _ _ _ B (lv_sub hl [0, 1, 2, 3, 4] rfl)
  · have h := h.1 c3
    refine lv_iconst (v := 1) M.1 M.2.1 dX9_proof_9 (by decide) ?_
    refine lv_goto (tgt := 14) M.1 M.2.1 dX9_proof_10 (by decide) ?_
    exact tX9_proof_14 M hr hlk hRf hRl hRc hRs _ _ _ _ _ _ _ _ h _ _ _ B (lv_sub hl [0, 1, 2, 3, 4] rfl)
end
set_option maxRecDepth 100000 in
set_option maxHeartbeats 4000000 in
theorem kX9_proof (l : Launch) (D : va_G) (cy : Nat → ClassId) {post : Int32 → Pool → Prop} {v0 : Option Nat} {v1 : Int32} {v2 : Int32} {v3 : Int32} {v4 : Int32} {S : Pool} (h : wX9_proof post v0 v1 v2 v3 v4 S) : MetI l yX9_proof cX9_proof 11 (some FieldType.int) rmX9_proof [va_rf v0, .int v1, .int v2, .int v3, .int v4] D cy S post := by
  intro sz
  refine Met.ofW (cc := cX9_proof) (maxL := 11) (ret := (some FieldType.int)) (by decide) rfl ?_
  intro p e s m args below meth c s₁ B0 hml hv
  obtain ⟨rfl, hpp⟩ := hv
  have hts := atoms_spec (ws := .code yX9_proof cX9_proof 11 (some FieldType.int) :: Gw) B0.pre
  obtain rfl : s.heap.size = sz := hpp.1
  have hl := lv_entry [va_rf v0, .int v1, .int v2, .int v3, .int v4] (n := 11) (by rw [sl_r, sl_i, sl_i, sl_i, sl_i, sl_0]; decide)
  rw [lg_entry_eq]
  rw [la_r, la_i, la_i, la_i, la_i, la_0] at hl
  exact tX9_proof (l := l) (R := rmX9_proof) ⟨B0.exec, B0.bytes, hml, findClass_of_methodNamed B0.named, fun w hw => hts w (List.mem_cons_of_mem _ hw)⟩ B0.returns B0.notSynchronized (Nat.le_refl _) (Nat.le_refl _) (Nat.le_refl _) (Nat.le_refl _) _ _ _ _ _ _ h _ _ _ hpp.pb (lv_sub hl [0, 1, 2, 3, 4] rfl)
-- X9_exempt: LogHuntModel.exempt(III)I
def wX9_exempt_38 (post : Int32 → Pool → Prop) (v0 : Option Nat) (v1 : Int32) (v2 : Int32) (v3 : Int32) (z0 : Int32) (z1 : Option Nat) (S : Pool) : Prop := xpI S z1 9 0 z0 fun S1 => xI S1 v0 9 0 fun a2 => br (a2 ≤ 0) (xI S1 v0 9 22 fun a4 => br (a4 = 40) (post ((-1)) S1) (xR S1 v0 9 23 fun a6 => xI S1 v0 9 22 fun a7 => xsI S1 a6 10 a7 v1 fun S8 => xR S8 v0 9 24 fun a9 => xI S8 v0 9 22 fun a10 => xsI S8 a9 10 a10 v2 fun S11 => xR S11 v0 9 25 fun a12 => xI S11 v0 9 22 fun a13 => xsI S11 a12 10 a13 v3 fun S14 => xI S14 v0 9 22 fun a15 => xpI S14 v0 9 22 (a15 + 1) fun S16 => xI S16 v0 9 22 fun a17 => post a17 S16)) (post 0 S1)
def wX9_exempt_33 (post : Int32 → Pool → Prop) (v0 : Option Nat) (v1 : Int32) (v2 : Int32) (v3 : Int32) (z0 : Option Nat) (S : Pool) : Prop := wX9_exempt_38 post v0 v1 v2 v3 2 z0 S
def wX9_exempt (post : Int32 → Pool → Prop) (v0 : Option Nat) (v1 : Int32) (v2 : Int32) (v3 : Int32) (S : Pool) : Prop := xrc S v0 9 (wX9_isQuestion (fun a2 S1 => br (a2 = 0) (wX9_exempt_38 post v0 v1 v2 v3 1 v0 S1) (wX9_isIn (fun a5 S4 => br (a5 = 0) (wX9_exempt_33 post v0 v1 v2 v3 v0 S4) (wX9_isIn (fun a8 S7 => br (a8 = 0) (wX9_exempt_33 post v0 v1 v2 v3 v0 S7) (wX9_exempt_38 post v0 v1 v2 v3 0 v0 S7)) v3 0 1000000 S4)) v2 0 30 S1)) v0 v1 S)
def rmX9_exempt : Room := { frames := 1, cells := 0, slots := 0, locals := 22 }
section
variable {p : Program} {l : Launch} {e : Env} {R : Room} {s : State} {m : MethodId} {args : Array Value} {below : List Frame} {meth : Method} {c : Code} {D : va_G} {cy : Nat → ClassId} {A : Nat → Prop}
set_option maxRecDepth 100000 in
set_option maxHeartbeats 4000000 in
theorem tX9_exempt_38 {post : Int32 → Pool → Prop} (M : MC p m c cX9_exempt 4 s args RX9) (hr : meth.sig.returnType = (some FieldType.int)) (hlk : meth.locks = false) (hRf : 1 ≤ R.frames) (hRl : 22 ≤ R.locals) (hRc : 0 ≤ R.cells) (hRs : 0 ≤ R.slots) : ∀ (v0 : Option Nat) (v1 : Int32) (v2 : Int32) (v3 : Int32) (z0 : Int32) (z1 : Option Nat) (S : Pool), wX9_exempt_38 post v0 v1 v2 v3 z0 z1 S → ∀ (H : Heap) (locs : List Loc) (ls : Array Slot), PB D cy A s S H locs → lv_has ls 4 [(0, va_rf v0), (1, .int v1), (2, .int v2), (3, .int v3)] → W p l e R s m args below meth c H locs 0 0 (MQ below (va_Qi post (PQ D cy A) A) args s 0 0 A) (F0 m 38 ls [.int z0, va_rf z1]) := by
  intro v0 v1 v2 v3 z0 z1 S h H locs ls B hl
  unfold wX9_exempt_38 at h
  refine gpX9_99 M B dX9_exempt_38 h (fun S1 H locs h B => ?_)
  refine g_aload_n M dX9_exempt_41 rfl (lv_at hl 0 rfl) ?_
  refine gfX9_99 M B dX9_exempt_42 h (fun a2 h => ?_)
  refine lv_if_le (tgt := 50) M.1 M.2.1 dX9_exempt_45 (by decide) (fun c3 => ?_) (fun c3 => ?_)
  · have h := h.1 c3
    refine g_aload_n M dX9_exempt_50 rfl (lv_at hl 0 rfl) ?_
    refine gfX9_243 M B dX9_exempt_51 h (fun a4 h => ?_)
    refine lv_bipush (v := 40) M.1 M.2.1 dX9_exempt_54 (by decide) ?_
    refine lv_icmp_ne (tgt := 61) M.1 M.2.1 dX9_exempt_56 (by decide) (fun c5 => ?_) (fun c5 => ?_)
    · have h := h.2 c5
      refine g_aload_n M dX9_exempt_61 rfl (lv_at hl 0 rfl) ?_
      refine gfX9_63 M B dX9_exempt_62 h (fun a6 h => ?_)
      refine g_aload_n M dX9_exempt_65 rfl (lv_at hl 0 rfl) ?_
      refine gfX9_243 M B dX9_exempt_66 h (fun a7 h => ?_)
      refine lv_iload_n M.1 M.2.1 dX9_exempt_69 rfl (lv_at hl 1 rfl) ?_
      refine g_iast M B dX9_exempt_70 h (fun S8 H locs h B => ?_)
      refine g_aload_n M dX9_exempt_71 rfl (lv_at hl 0 rfl) ?_
      refine gfX9_66 M B dX9_exempt_72 h (fun a9 h => ?_)
      refine g_aload_n M dX9_exempt_75 rfl (lv_at hl 0 rfl) ?_
      refine gfX9_243 M B dX9_exempt_76 h (fun a10 h => ?_)
      refine lv_iload_n M.1 M.2.1 dX9_exempt_79 rfl (lv_at hl 2 rfl) ?_
      refine g_iast M B dX9_exempt_80 h (fun S11 H locs h B => ?_)
      refine g_aload_n M dX9_exempt_81 rfl (lv_at hl 0 rfl) ?_
      refine gfX9_69 M B dX9_exempt_82 h (fun a12 h => ?_)
      refine g_aload_n M dX9_exempt_85 rfl (lv_at hl 0 rfl) ?_
      refine gfX9_243 M B dX9_exempt_86 h (fun a13 h => ?_)
      refine lv_iload_n M.1 M.2.1 dX9_exempt_89 rfl (lv_at hl 3 rfl) ?_
      refine g_iast M B dX9_exempt_90 h (fun S14 H locs h B => ?_)
      refine g_aload_n M dX9_exempt_91 rfl (lv_at hl 0 rfl) ?_
      refine lv_dup M.1 M.2.1 dX9_exempt_92 (rf_cat _) ?_
      refine gfX9_243 M B dX9_exempt_93 h (fun a15 h => ?_)
      refine lv_iconst (v := 1) M.1 M.2.1 dX9_exempt_96 (by decide) ?_
      refine lv_iadd M.1 M.2.1 dX9_exempt_97 ?_
      refine gpX9_243 M B dX9_exempt_98 h (fun S16 H locs h B => ?_)
      refine g_aload_n M dX9_exempt_101 rfl (lv_at hl 0 rfl) ?_
      refine gfX9_243 M B dX9_exempt_102 h (fun a17 h => ?_)
      exact g_iret M B hr hlk h (by decide) (by decide) dX9_exempt_105
    · have h := h.1 c5
      refine lv_iconst (v := (-1)) M.1 M.2.1 dX9_exempt_59 (by decide) ?_
      exact g_iret M B hr hlk h (by decide) (by decide) dX9_exempt_60
  · have h := h.2 c3
    refine lv_iconst (v := 0) M.1 M.2.1 dX9_exempt_48 (by decide) ?_
    exact g_iret M B hr hlk h (by decide) (by decide) dX9_exempt_49
set_option maxRecDepth 100000 in
set_option maxHeartbeats 4000000 in
theorem tX9_exempt_33 {post : Int32 → Pool → Prop} (M : MC p m c cX9_exempt 4 s args RX9) (hr : meth.sig.returnType = (some FieldType.int)) (hlk : meth.locks = false) (hRf : 1 ≤ R.frames) (hRl : 22 ≤ R.locals) (hRc : 0 ≤ R.cells) (hRs : 0 ≤ R.slots) : ∀ (v0 : Option Nat) (v1 : Int32) (v2 : Int32) (v3 : Int32) (z0 : Option Nat) (S : Pool), wX9_exempt_33 post v0 v1 v2 v3 z0 S → ∀ (H : Heap) (locs : List Loc) (ls : Array Slot), PB D cy A s S H locs → lv_has ls 4 [(0, va_rf v0), (1, .int v1), (2, .int v2), (3, .int v3)] → W p l e R s m args below meth c H locs 0 0 (MQ below (va_Qi post (PQ D cy A) A) args s 0 0 A) (F0 m 33 ls [va_rf z0]) := by
  intro v0 v1 v2 v3 z0 S h H locs ls B hl
  unfold wX9_exempt_33 at h
  refine lv_iconst (v := 2) M.1 M.2.1 dX9_exempt_33 (by decide) ?_
  refine lv_goto (tgt := 38) M.1 M.2.1 dX9_exempt_34 (by decide) ?_
  exact tX9_exempt_38 M hr hlk hRf hRl hRc hRs _ _ _ _ _ _ _ h _ _ _ B (lv_sub hl [0, 1, 2, 3] rfl)
set_option maxRecDepth 100000 in
set_option maxHeartbeats 4000000 in
theorem tX9_exempt {post : Int32 → Pool → Prop} (M : MC p m c cX9_exempt 4 s args RX9) (hr : meth.sig.returnType = (some FieldType.int)) (hlk : meth.locks = false) (hRf : 1 ≤ R.frames) (hRl : 22 ≤ R.locals) (hRc : 0 ≤ R.cells) (hRs : 0 ≤ R.slots) : ∀ (v0 : Option Nat) (v1 : Int32) (v2 : Int32) (v3 : Int32) (S : Pool), wX9_exempt post v0 v1 v2 v3 S → ∀ (H : Heap) (locs : List Loc) (ls : Array Slot), PB D cy A s S H locs → lv_has ls 4 [(0, va_rf v0), (1, .int v1), (2, .int v2), (3, .int v3)] → W p l e R s m args below meth c H locs 0 0 (MQ below (va_Qi post (PQ D cy A) A) args s 0 0 A) (F0 m 0 ls []) := by
  intro v0 v1 v2 v3 S h H locs ls B hl
  unfold wX9_exempt at h
  refine g_aload_n M dX9_exempt_0 rfl (lv_at hl 0 rfl) ?_
  refine g_aload_n M dX9_exempt_1 rfl (lv_at hl 0 rfl) ?_
  refine lv_iload_n M.1 M.2.1 dX9_exempt_2 rfl (lv_at hl 1 rfl) ?_
  obtain ⟨o1, e1, hL1, hK1, h⟩ := h
  refine g_calli (k1 := 0) (k2 := 0) B (g_runV (n := 1) (As := [.int v1]) (rm := rmX9_isQuestion) M B e1 (kX9_isQuestion (v0 := v0) (v1 := v1) l D cy h _) wmX9_233 wiX9_isQuestion wsX9_isQuestion wnX9 wcdX9_isQuestion ⟨rfl, by decide, by decide, by decide +kernel⟩ ⟨Nat.le_trans (by decide) hRf, Nat.le_trans (by decide) hRl⟩ ⟨Nat.le_trans (by decide) hRc, Nat.le_trans (by decide) hRs⟩ hL1 hK1 (by decide) rfl rfl rfl hl.1 rfl (ct_r ct_0) (by decide) dX9_exempt_3) (by decide) (by decide) (fun a2 S1 H locs h B => ?_)
  refine lv_if_ne (tgt := 13) M.1 M.2.1 dX9_exempt_6 (by decide) (fun c3 => ?_) (fun c3 => ?_)
  · have h := h.2 c3
    refine lv_iload_n M.1 M.2.1 dX9_exempt_13 rfl (lv_at hl 2 rfl) ?_
    refine lv_iconst (v := 0) M.1 M.2.1 dX9_exempt_14 (by decide) ?_
    refine lv_bipush (v := 30) M.1 M.2.1 dX9_exempt_15 (by decide) ?_
    refine g_calli (k1 := 0) (k2 := 0) B (g_runS (n := 3) (As := [.int v2, .int 0, .int 30]) (rm := rmX9_isIn) M B (kX9_isIn (v0 := v2) (v1 := 0) (v2 := 30) l D cy h _) wmX9_116 wstX9_isIn wnX9 wcdX9_isIn ⟨by decide, by decide, by decide +kernel⟩ ⟨Nat.le_trans (by decide) hRf, Nat.le_trans (by decide) hRl⟩ ⟨Nat.le_trans (by decide) hRc, Nat.le_trans (by decide) hRs⟩ rfl hl.1 rfl (ct_r ct_0) (by decide) dX9_exempt_17) (by decide) (by decide) (fun a5 S4 H locs h B => ?_)
    refine lv_if_eq (tgt := 33) M.1 M.2.1 dX9_exempt_20 (by decide) (fun c6 => ?_) (fun c6 => ?_)
    · have h := h.1 c6
      exact tX9_exempt_33 M hr hlk hRf hRl hRc hRs _ _ _ _ _ _ h _ _ _ B (lv_sub hl [0, 1, 2, 3] rfl)
    · have h := h.2 c6
      refine lv_iload_n M.1 M.2.1 dX9_exempt_23 rfl (lv_at hl 3 rfl) ?_
      refine lv_iconst (v := 0) M.1 M.2.1 dX9_exempt_24 (by decide) ?_
      refine lv_ldc (v := 1000000) M.1 M.2.1 M.2.2.2.1 (M.2.2.2.2 _ wkX9_123) dX9_exempt_25 ?_
      refine g_calli (k1 := 0) (k2 := 0) B (g_runS (n := 3) (As := [.int v3, .int 0, .int 1000000]) (rm := rmX9_isIn) M B (kX9_isIn (v0 := v3) (v1 := 0) (v2 := 1000000) l D cy h _) wmX9_116 wstX9_isIn wnX9 wcdX9_isIn ⟨by decide, by decide, by decide +kernel⟩ ⟨Nat.le_trans (by decide) hRf, Nat.le_trans (by decide) hRl⟩ ⟨Nat.le_trans (by decide) hRc, Nat.le_trans (by decide) hRs⟩ rfl hl.1 rfl (ct_r ct_0) (by decide) dX9_exempt_27) (by decide) (by decide) (fun a8 S7 H locs h B => ?_)
      refine lv_if_ne (tgt := 37) M.1 M.2.1 dX9_exempt_30 (by decide) (fun c9 => ?_) (fun c9 => ?_)
      · have h := h.2 c9
        refine lv_iconst (v := 0) M.1 M.2.1 dX9_exempt_37 (by decide) ?_
        exact tX9_exempt_38 M hr hlk hRf hRl hRc hRs _ _ _ _ _ _ _ h _ _ _ B (lv_sub hl [0, 1, 2, 3] rfl)
      · have h := h.1 c9
        exact tX9_exempt_33 M hr hlk hRf hRl hRc hRs _ _ _ _ _ _ h _ _ _ B (lv_sub hl [0, 1, 2, 3] rfl)
  · have h := h.1 c3
    refine lv_iconst (v := 1) M.1 M.2.1 dX9_exempt_9 (by decide) ?_
    refine lv_goto (tgt := 38) M.1 M.2.1 dX9_exempt_10 (by decide) ?_
    exact tX9_exempt_38 M hr hlk hRf hRl hRc hRs _ _ _ _ _ _ _ h _ _ _ B (lv_sub hl [0, 1, 2, 3] rfl)
end
set_option maxRecDepth 100000 in
set_option maxHeartbeats 4000000 in
theorem kX9_exempt (l : Launch) (D : va_G) (cy : Nat → ClassId) {post : Int32 → Pool → Prop} {v0 : Option Nat} {v1 : Int32} {v2 : Int32} {v3 : Int32} {S : Pool} (h : wX9_exempt post v0 v1 v2 v3 S) : MetI l yX9_exempt cX9_exempt 4 (some FieldType.int) rmX9_exempt [va_rf v0, .int v1, .int v2, .int v3] D cy S post := by
  intro sz
  refine Met.ofW (cc := cX9_exempt) (maxL := 4) (ret := (some FieldType.int)) (by decide) rfl ?_
  intro p e s m args below meth c s₁ B0 hml hv
  obtain ⟨rfl, hpp⟩ := hv
  have hts := atoms_spec (ws := .code yX9_exempt cX9_exempt 4 (some FieldType.int) :: Gw) B0.pre
  obtain rfl : s.heap.size = sz := hpp.1
  have hl := lv_entry [va_rf v0, .int v1, .int v2, .int v3] (n := 4) (by rw [sl_r, sl_i, sl_i, sl_i, sl_0]; decide)
  rw [lg_entry_eq]
  rw [la_r, la_i, la_i, la_i, la_0] at hl
  exact tX9_exempt (l := l) (R := rmX9_exempt) ⟨B0.exec, B0.bytes, hml, findClass_of_methodNamed B0.named, fun w hw => hts w (List.mem_cons_of_mem _ hw)⟩ B0.returns B0.notSynchronized (Nat.le_refl _) (Nat.le_refl _) (Nat.le_refl _) (Nat.le_refl _) _ _ _ _ _ h _ _ _ hpp.pb (lv_sub hl [0, 1, 2, 3] rfl)
-- X9_isExempt: LogHuntModel.isExempt(II)Z
def wX9_isExempt_54 (K2 : Option Nat → Int32 → Int32 → Int32 → Pool → Prop) (post : Int32 → Pool → Prop) (v0 : Option Nat) (v1 : Int32) (v2 : Int32) (v3 : Int32) (S : Pool) : Prop := K2 v0 v1 v2 (v3 + 1) S
def wX9_isExempt_2 (post : Int32 → Pool → Prop) : Nat → Option Nat → Int32 → Int32 → Int32 → Pool → Prop
  | 0 => fun _ _ _ _ _ => False
  | n + 1 => fun v0 v1 v2 v3 S => xI S v0 9 22 fun a1 => br (a1 ≤ v3) (((0 : Int32) = 0 ∨ (0 : Int32) = 1) ∧ post (0 : Int32) S) (xR S v0 9 23 fun a3 => xaI S a3 10 v3 fun a4 => br (a4 = v1) (xR S v0 9 24 fun a6 => xaI S a6 10 v3 fun a7 => xR S v0 9 7 fun a8 => xaI S a8 10 ((3 : Int32) * v2) fun a9 => br (a7 = a9) (xR S v0 9 8 fun a11 => xaI S a11 10 v2 fun a12 => xR S v0 9 25 fun a13 => xaI S a13 10 v3 fun a14 => br (a14 < a12) (wX9_isExempt_54 (wX9_isExempt_2 post n) post v0 v1 v2 v3 S) (((1 : Int32) = 0 ∨ (1 : Int32) = 1) ∧ post (1 : Int32) S)) (wX9_isExempt_54 (wX9_isExempt_2 post n) post v0 v1 v2 v3 S)) (wX9_isExempt_54 (wX9_isExempt_2 post n) post v0 v1 v2 v3 S))
def wX9_isExempt (post : Int32 → Pool → Prop) (v0 : Option Nat) (v1 : Int32) (v2 : Int32) (S : Pool) : Prop := ∃ n1, wX9_isExempt_2 post n1 v0 v1 v2 0 S
def rmX9_isExempt : Room := { frames := 0, cells := 0, slots := 0, locals := 0 }
section
variable {p : Program} {l : Launch} {e : Env} {R : Room} {s : State} {m : MethodId} {args : Array Value} {below : List Frame} {meth : Method} {c : Code} {D : va_G} {cy : Nat → ClassId} {A : Nat → Prop}
set_option maxRecDepth 100000 in
set_option maxHeartbeats 4000000 in
theorem tX9_isExempt_54 {K2 : Option Nat → Int32 → Int32 → Int32 → Pool → Prop} {post : Int32 → Pool → Prop} (M : MC p m c cX9_isExempt 4 s args RX9) (hr : meth.sig.returnType = (some FieldType.boolean)) (hlk : meth.locks = false) (hRf : 0 ≤ R.frames) (hRl : 0 ≤ R.locals) (hRc : 0 ≤ R.cells) (hRs : 0 ≤ R.slots) (hK2 : ∀ (v0 : Option Nat) (v1 : Int32) (v2 : Int32) (v3 : Int32) (S : Pool), K2 v0 v1 v2 v3 S → ∀ (H : Heap) (locs : List Loc) (ls : Array Slot), PB D cy A s S H locs → lv_has ls 4 [(0, va_rf v0), (1, .int v1), (2, .int v2), (3, .int v3)] → W p l e R s m args below meth c H locs 0 0 (MQ below (va_Qi post (PQ D cy A) A) args s 0 0 A) (F0 m 2 ls [])) : ∀ (v0 : Option Nat) (v1 : Int32) (v2 : Int32) (v3 : Int32) (S : Pool), wX9_isExempt_54 K2 post v0 v1 v2 v3 S → ∀ (H : Heap) (locs : List Loc) (ls : Array Slot), PB D cy A s S H locs → lv_has ls 4 [(0, va_rf v0), (1, .int v1), (2, .int v2), (3, .int v3)] → W p l e R s m args below meth c H locs 0 0 (MQ below (va_Qi post (PQ D cy A) A) args s 0 0 A) (F0 m 54 ls []) := by
  intro v0 v1 v2 v3 S h H locs ls B hl
  unfold wX9_isExempt_54 at h
  refine lv_iinc (v := v3 + 1) (lv' := [(3, .int (v3 + 1)), (0, va_rf v0), (1, .int v1), (2, .int v2)]) M.1 M.2.1 dX9_isExempt_54 hl (k := 3) rfl (by rfl) (by decide) (fl_e (fl_k rfl rfl (fl_k rfl rfl (fl_i rfl (fl_d rfl fl_0))))) (fun ls hl => ?_)
  refine lv_goto (tgt := 2) M.1 M.2.1 dX9_isExempt_57 (by decide) ?_
  exact hK2 _ _ _ _ _ h _ _ _ B (lv_sub hl [1, 2, 3, 0] rfl)
set_option maxRecDepth 100000 in
set_option maxHeartbeats 4000000 in
theorem tX9_isExempt_2 {post : Int32 → Pool → Prop} (M : MC p m c cX9_isExempt 4 s args RX9) (hr : meth.sig.returnType = (some FieldType.boolean)) (hlk : meth.locks = false) (hRf : 0 ≤ R.frames) (hRl : 0 ≤ R.locals) (hRc : 0 ≤ R.cells) (hRs : 0 ≤ R.slots) : ∀ (n : Nat) (v0 : Option Nat) (v1 : Int32) (v2 : Int32) (v3 : Int32) (S : Pool), wX9_isExempt_2 post n v0 v1 v2 v3 S → ∀ (H : Heap) (locs : List Loc) (ls : Array Slot), PB D cy A s S H locs → lv_has ls 4 [(0, va_rf v0), (1, .int v1), (2, .int v2), (3, .int v3)] → W p l e R s m args below meth c H locs 0 0 (MQ below (va_Qi post (PQ D cy A) A) args s 0 0 A) (F0 m 2 ls []) := by
  intro n
  induction n with
  | zero => intro v0 v1 v2 v3 S h; exact False.elim h
  | succ n ih =>
    intro v0 v1 v2 v3 S h H locs ls B hl
    unfold wX9_isExempt_2 at h
    refine lv_iload_n M.1 M.2.1 dX9_isExempt_2 rfl (lv_at hl 3 rfl) ?_
    refine g_aload_n M dX9_isExempt_3 rfl (lv_at hl 0 rfl) ?_
    refine gfX9_243 M B dX9_isExempt_4 h (fun a1 h => ?_)
    refine lv_icmp_ge (tgt := 60) M.1 M.2.1 dX9_isExempt_7 (by decide) (fun c2 => ?_) (fun c2 => ?_)
    · have h := h.1 c2
      refine lv_iconst (v := 0) M.1 M.2.1 dX9_isExempt_60 (by decide) ?_
      exact g_zret M B hr hlk h (by decide) (by decide) dX9_isExempt_61
    · have h := h.2 c2
      refine g_aload_n M dX9_isExempt_10 rfl (lv_at hl 0 rfl) ?_
      refine gfX9_63 M B dX9_isExempt_11 h (fun a3 h => ?_)
      refine lv_iload_n M.1 M.2.1 dX9_isExempt_14 rfl (lv_at hl 3 rfl) ?_
      refine g_iald M B dX9_isExempt_15 h (fun a4 h => ?_)
      refine lv_iload_n M.1 M.2.1 dX9_isExempt_16 rfl (lv_at hl 1 rfl) ?_
      refine lv_icmp_ne (tgt := 54) M.1 M.2.1 dX9_isExempt_17 (by decide) (fun c5 => ?_) (fun c5 => ?_)
      · have h := h.2 c5
        exact tX9_isExempt_54 M hr hlk hRf hRl hRc hRs ih _ _ _ _ _ h _ _ _ B (lv_sub hl [0, 1, 2, 3] rfl)
      · have h := h.1 c5
        refine g_aload_n M dX9_isExempt_20 rfl (lv_at hl 0 rfl) ?_
        refine gfX9_66 M B dX9_isExempt_21 h (fun a6 h => ?_)
        refine lv_iload_n M.1 M.2.1 dX9_isExempt_24 rfl (lv_at hl 3 rfl) ?_
        refine g_iald M B dX9_isExempt_25 h (fun a7 h => ?_)
        refine g_aload_n M dX9_isExempt_26 rfl (lv_at hl 0 rfl) ?_
        refine gfX9_20 M B dX9_isExempt_27 h (fun a8 h => ?_)
        refine lv_iconst (v := 3) M.1 M.2.1 dX9_isExempt_30 (by decide) ?_
        refine lv_iload_n M.1 M.2.1 dX9_isExempt_31 rfl (lv_at hl 2 rfl) ?_
        refine lv_imul M.1 M.2.1 dX9_isExempt_32 ?_
        refine g_iald M B dX9_isExempt_33 h (fun a9 h => ?_)
        refine lv_icmp_ne (tgt := 54) M.1 M.2.1 dX9_isExempt_34 (by decide) (fun c10 => ?_) (fun c10 => ?_)
        · have h := h.2 c10
          exact tX9_isExempt_54 M hr hlk hRf hRl hRc hRs ih _ _ _ _ _ h _ _ _ B (lv_sub hl [0, 1, 2, 3] rfl)
        · have h := h.1 c10
          refine g_aload_n M dX9_isExempt_37 rfl (lv_at hl 0 rfl) ?_
          refine gfX9_23 M B dX9_isExempt_38 h (fun a11 h => ?_)
          refine lv_iload_n M.1 M.2.1 dX9_isExempt_41 rfl (lv_at hl 2 rfl) ?_
          refine g_iald M B dX9_isExempt_42 h (fun a12 h => ?_)
          refine g_aload_n M dX9_isExempt_43 rfl (lv_at hl 0 rfl) ?_
          refine gfX9_69 M B dX9_isExempt_44 h (fun a13 h => ?_)
          refine lv_iload_n M.1 M.2.1 dX9_isExempt_47 rfl (lv_at hl 3 rfl) ?_
          refine g_iald M B dX9_isExempt_48 h (fun a14 h => ?_)
          refine lv_icmp_gt (tgt := 54) M.1 M.2.1 dX9_isExempt_49 (by decide) (fun c15 => ?_) (fun c15 => ?_)
          · have h := h.1 c15
            exact tX9_isExempt_54 M hr hlk hRf hRl hRc hRs ih _ _ _ _ _ h _ _ _ B (lv_sub hl [0, 1, 2, 3] rfl)
          · have h := h.2 c15
            refine lv_iconst (v := 1) M.1 M.2.1 dX9_isExempt_52 (by decide) ?_
            exact g_zret M B hr hlk h (by decide) (by decide) dX9_isExempt_53
set_option maxRecDepth 100000 in
set_option maxHeartbeats 4000000 in
theorem tX9_isExempt {post : Int32 → Pool → Prop} (M : MC p m c cX9_isExempt 4 s args RX9) (hr : meth.sig.returnType = (some FieldType.boolean)) (hlk : meth.locks = false) (hRf : 0 ≤ R.frames) (hRl : 0 ≤ R.locals) (hRc : 0 ≤ R.cells) (hRs : 0 ≤ R.slots) : ∀ (v0 : Option Nat) (v1 : Int32) (v2 : Int32) (S : Pool), wX9_isExempt post v0 v1 v2 S → ∀ (H : Heap) (locs : List Loc) (ls : Array Slot), PB D cy A s S H locs → lv_has ls 4 [(0, va_rf v0), (1, .int v1), (2, .int v2)] → W p l e R s m args below meth c H locs 0 0 (MQ below (va_Qi post (PQ D cy A) A) args s 0 0 A) (F0 m 0 ls []) := by
  intro v0 v1 v2 S h H locs ls B hl
  unfold wX9_isExempt at h
  refine lv_iconst (v := 0) M.1 M.2.1 dX9_isExempt_0 (by decide) ?_
  refine lv_istore_n (lv' := [(3, .int 0), (0, va_rf v0), (1, .int v1), (2, .int v2)]) M.1 M.2.1 dX9_isExempt_1 rfl hl (by decide) (fl_e (fl_k rfl rfl (fl_k rfl rfl (fl_i rfl fl_0)))) (fun ls hl => ?_)
  obtain ⟨n1, h⟩ := h
  exact tX9_isExempt_2 M hr hlk hRf hRl hRc hRs n1 _ _ _ _ _ h _ _ _ B (lv_sub hl [1, 2, 3, 0] rfl)
end
set_option maxRecDepth 100000 in
set_option maxHeartbeats 4000000 in
theorem kX9_isExempt (l : Launch) (D : va_G) (cy : Nat → ClassId) {post : Int32 → Pool → Prop} {v0 : Option Nat} {v1 : Int32} {v2 : Int32} {S : Pool} (h : wX9_isExempt post v0 v1 v2 S) : MetI l yX9_isExempt cX9_isExempt 4 (some FieldType.boolean) rmX9_isExempt [va_rf v0, .int v1, .int v2] D cy S post := by
  intro sz
  refine Met.ofW (cc := cX9_isExempt) (maxL := 4) (ret := (some FieldType.boolean)) (by decide) rfl ?_
  intro p e s m args below meth c s₁ B0 hml hv
  obtain ⟨rfl, hpp⟩ := hv
  have hts := atoms_spec (ws := .code yX9_isExempt cX9_isExempt 4 (some FieldType.boolean) :: Gw) B0.pre
  obtain rfl : s.heap.size = sz := hpp.1
  have hl := lv_entry [va_rf v0, .int v1, .int v2] (n := 4) (by rw [sl_r, sl_i, sl_i, sl_0]; decide)
  rw [lg_entry_eq]
  rw [la_r, la_i, la_i, la_0] at hl
  exact tX9_isExempt (l := l) (R := rmX9_isExempt) ⟨B0.exec, B0.bytes, hml, findClass_of_methodNamed B0.named, fun w hw => hts w (List.mem_cons_of_mem _ hw)⟩ B0.returns B0.notSynchronized (Nat.le_refl _) (Nat.le_refl _) (Nat.le_refl _) (Nat.le_refl _) _ _ _ _ h _ _ _ hpp.pb (lv_sub hl [0, 1, 2] rfl)
-- X9_spared: LogHuntModel.spared(II)I
def wX9_spared_67 (K37 : Option Nat → Int32 → Int32 → Int32 → Pool → Prop) (post : Int32 → Pool → Prop) (v0 : Option Nat) (v1 : Int32) (v4 : Int32) (z0 : Int32) (z1 : Int32) (S : Pool) : Prop := K37 v0 v1 (z1 + z0) (v4 + 1) S
def wX9_spared_37 (post : Int32 → Pool → Prop) : Nat → Option Nat → Int32 → Int32 → Int32 → Pool → Prop
  | 0 => fun _ _ _ _ _ => False
  | n + 1 => fun v0 v1 v3 v4 S => xI S v0 9 36 fun a1 => br (a1 ≤ v4) (post v3 S) (xR S v0 9 37 fun a3 => xaI S a3 10 v4 fun a4 => xrc S v0 9 (wX9_isExempt (fun a6 S5 => br (a6 = 0) (wX9_spared_67 (wX9_spared_37 post n) post v0 v1 v4 0 v3 S5) (wX9_spared_67 (wX9_spared_37 post n) post v0 v1 v4 1 v3 S5)) v0 v1 a4 S))
def wX9_spared_14 (post : Int32 → Pool → Prop) (v0 : Option Nat) (v1 : Int32) (v2 : Int32) (z0 : Int32) (z1 : Option Nat) (S : Pool) : Prop := xpI S z1 9 0 z0 fun S1 => xI S1 v0 9 0 fun a2 => br (a2 ≤ 0) (xrc S1 v0 9 (wX9_work (fun S4 => ∃ n1, wX9_spared_37 post n1 v0 v1 0 0 S4) v0 v1 v2 S1)) (post 0 S1)
def wX9_spared (post : Int32 → Pool → Prop) (v0 : Option Nat) (v1 : Int32) (v2 : Int32) (S : Pool) : Prop := xrc S v0 9 (wX9_isQuestion (fun a2 S1 => br (a2 = 0) (wX9_spared_14 post v0 v1 v2 1 v0 S1) (wX9_spared_14 post v0 v1 v2 0 v0 S1)) v0 v1 S)
def rmX9_spared : Room := { frames := 3, cells := 0, slots := 0, locals := 77 }
section
variable {p : Program} {l : Launch} {e : Env} {R : Room} {s : State} {m : MethodId} {args : Array Value} {below : List Frame} {meth : Method} {c : Code} {D : va_G} {cy : Nat → ClassId} {A : Nat → Prop}
set_option maxRecDepth 100000 in
set_option maxHeartbeats 4000000 in
theorem tX9_spared_67 {K37 : Option Nat → Int32 → Int32 → Int32 → Pool → Prop} {post : Int32 → Pool → Prop} (M : MC p m c cX9_spared 5 s args RX9) (hr : meth.sig.returnType = (some FieldType.int)) (hlk : meth.locks = false) (hRf : 3 ≤ R.frames) (hRl : 77 ≤ R.locals) (hRc : 0 ≤ R.cells) (hRs : 0 ≤ R.slots) (hK37 : ∀ (v0 : Option Nat) (v1 : Int32) (v3 : Int32) (v4 : Int32) (S : Pool), K37 v0 v1 v3 v4 S → ∀ (H : Heap) (locs : List Loc) (ls : Array Slot), PB D cy A s S H locs → lv_has ls 5 [(0, va_rf v0), (1, .int v1), (3, .int v3), (4, .int v4)] → W p l e R s m args below meth c H locs 0 0 (MQ below (va_Qi post (PQ D cy A) A) args s 0 0 A) (F0 m 37 ls [])) : ∀ (v0 : Option Nat) (v1 : Int32) (v4 : Int32) (z0 : Int32) (z1 : Int32) (S : Pool), wX9_spared_67 K37 post v0 v1 v4 z0 z1 S → ∀ (H : Heap) (locs : List Loc) (ls : Array Slot), PB D cy A s S H locs → lv_has ls 5 [(0, va_rf v0), (1, .int v1), (4, .int v4)] → W p l e R s m args below meth c H locs 0 0 (MQ below (va_Qi post (PQ D cy A) A) args s 0 0 A) (F0 m 67 ls [.int z0, .int z1]) := by
  intro v0 v1 v4 z0 z1 S h H locs ls B hl
  unfold wX9_spared_67 at h
  refine lv_iadd M.1 M.2.1 dX9_spared_67 ?_
  refine lv_istore_n (lv' := [(3, .int (z1 + z0)), (0, va_rf v0), (1, .int v1), (4, .int v4)]) M.1 M.2.1 dX9_spared_68 rfl hl (by decide) (fl_e (fl_k rfl rfl (fl_k rfl rfl (fl_k rfl rfl fl_0)))) (fun ls hl => ?_)
  refine lv_iinc (v := v4 + 1) (lv' := [(4, .int (v4 + 1)), (3, .int (z1 + z0)), (0, va_rf v0), (1, .int v1)]) M.1 M.2.1 dX9_spared_69 hl (k := 3) rfl (by rfl) (by decide) (fl_e (fl_i rfl (fl_k rfl rfl (fl_k rfl rfl (fl_d rfl fl_0))))) (fun ls hl => ?_)
  refine lv_goto (tgt := 37) M.1 M.2.1 dX9_spared_72 (by decide) ?_
  exact hK37 _ _ _ _ _ h _ _ _ B (lv_sub hl [2, 3, 1, 0] rfl)
set_option maxRecDepth 100000 in
set_option maxHeartbeats 4000000 in
theorem tX9_spared_37 {post : Int32 → Pool → Prop} (M : MC p m c cX9_spared 5 s args RX9) (hr : meth.sig.returnType = (some FieldType.int)) (hlk : meth.locks = false) (hRf : 3 ≤ R.frames) (hRl : 77 ≤ R.locals) (hRc : 0 ≤ R.cells) (hRs : 0 ≤ R.slots) : ∀ (n : Nat) (v0 : Option Nat) (v1 : Int32) (v3 : Int32) (v4 : Int32) (S : Pool), wX9_spared_37 post n v0 v1 v3 v4 S → ∀ (H : Heap) (locs : List Loc) (ls : Array Slot), PB D cy A s S H locs → lv_has ls 5 [(0, va_rf v0), (1, .int v1), (3, .int v3), (4, .int v4)] → W p l e R s m args below meth c H locs 0 0 (MQ below (va_Qi post (PQ D cy A) A) args s 0 0 A) (F0 m 37 ls []) := by
  intro n
  induction n with
  | zero => intro v0 v1 v3 v4 S h; exact False.elim h
  | succ n ih =>
    intro v0 v1 v3 v4 S h H locs ls B hl
    unfold wX9_spared_37 at h
    refine lv_iload M.1 M.2.1 dX9_spared_37 (lv_at hl 3 rfl) ?_
    refine g_aload_n M dX9_spared_39 rfl (lv_at hl 0 rfl) ?_
    refine gfX9_212 M B dX9_spared_40 h (fun a1 h => ?_)
    refine lv_icmp_ge (tgt := 75) M.1 M.2.1 dX9_spared_43 (by decide) (fun c2 => ?_) (fun c2 => ?_)
    · have h := h.1 c2
      refine lv_iload_n M.1 M.2.1 dX9_spared_75 rfl (lv_at hl 2 rfl) ?_
      exact g_iret M B hr hlk h (by decide) (by decide) dX9_spared_76
    · have h := h.2 c2
      refine lv_iload_n M.1 M.2.1 dX9_spared_46 rfl (lv_at hl 2 rfl) ?_
      refine g_aload_n M dX9_spared_47 rfl (lv_at hl 0 rfl) ?_
      refine lv_iload_n M.1 M.2.1 dX9_spared_48 rfl (lv_at hl 1 rfl) ?_
      refine g_aload_n M dX9_spared_49 rfl (lv_at hl 0 rfl) ?_
      refine gfX9_87 M B dX9_spared_50 h (fun a3 h => ?_)
      refine lv_iload M.1 M.2.1 dX9_spared_53 (lv_at hl 3 rfl) ?_
      refine g_iald M B dX9_spared_55 h (fun a4 h => ?_)
      obtain ⟨o1, e1, hL1, hK1, h⟩ := h
      refine g_calli (k1 := 0) (k2 := 0) B (g_runV (n := 2) (As := [.int v1, .int a4]) (rm := rmX9_isExempt) M B e1 (kX9_isExempt (v0 := v0) (v1 := v1) (v2 := a4) l D cy h _) wmX9_246 wiX9_isExempt wsX9_isExempt wnX9 wcdX9_isExempt ⟨rfl, by decide, by decide, by decide +kernel⟩ ⟨Nat.le_trans (by decide) hRf, Nat.le_trans (by decide) hRl⟩ ⟨Nat.le_trans (by decide) hRc, Nat.le_trans (by decide) hRs⟩ hL1 hK1 (by decide) rfl rfl rfl hl.1 rfl (ct_i ct_0) (by decide) dX9_spared_56) (by decide) (by decide) (fun a6 S5 H locs h B => ?_)
      refine lv_if_eq (tgt := 66) M.1 M.2.1 dX9_spared_59 (by decide) (fun c7 => ?_) (fun c7 => ?_)
      · have h := h.1 c7
        refine lv_iconst (v := 0) M.1 M.2.1 dX9_spared_66 (by decide) ?_
        exact tX9_spared_67 M hr hlk hRf hRl hRc hRs ih _ _ _ _ _ _ h _ _ _ B (lv_sub hl [0, 1, 3] rfl)
      · have h := h.2 c7
        refine lv_iconst (v := 1) M.1 M.2.1 dX9_spared_62 (by decide) ?_
        refine lv_goto (tgt := 67) M.1 M.2.1 dX9_spared_63 (by decide) ?_
        exact tX9_spared_67 M hr hlk hRf hRl hRc hRs ih _ _ _ _ _ _ h _ _ _ B (lv_sub hl [0, 1, 3] rfl)
set_option maxRecDepth 100000 in
set_option maxHeartbeats 4000000 in
theorem tX9_spared_14 {post : Int32 → Pool → Prop} (M : MC p m c cX9_spared 5 s args RX9) (hr : meth.sig.returnType = (some FieldType.int)) (hlk : meth.locks = false) (hRf : 3 ≤ R.frames) (hRl : 77 ≤ R.locals) (hRc : 0 ≤ R.cells) (hRs : 0 ≤ R.slots) : ∀ (v0 : Option Nat) (v1 : Int32) (v2 : Int32) (z0 : Int32) (z1 : Option Nat) (S : Pool), wX9_spared_14 post v0 v1 v2 z0 z1 S → ∀ (H : Heap) (locs : List Loc) (ls : Array Slot), PB D cy A s S H locs → lv_has ls 5 [(0, va_rf v0), (1, .int v1), (2, .int v2)] → W p l e R s m args below meth c H locs 0 0 (MQ below (va_Qi post (PQ D cy A) A) args s 0 0 A) (F0 m 14 ls [.int z0, va_rf z1]) := by
  intro v0 v1 v2 z0 z1 S h H locs ls B hl
  unfold wX9_spared_14 at h
  refine gpX9_99 M B dX9_spared_14 h (fun S1 H locs h B => ?_)
  refine g_aload_n M dX9_spared_17 rfl (lv_at hl 0 rfl) ?_
  refine gfX9_99 M B dX9_spared_18 h (fun a2 h => ?_)
  refine lv_if_le (tgt := 26) M.1 M.2.1 dX9_spared_21 (by decide) (fun c3 => ?_) (fun c3 => ?_)
  · have h := h.1 c3
    refine g_aload_n M dX9_spared_26 rfl (lv_at hl 0 rfl) ?_
    refine lv_iload_n M.1 M.2.1 dX9_spared_27 rfl (lv_at hl 1 rfl) ?_
    refine lv_iload_n M.1 M.2.1 dX9_spared_28 rfl (lv_at hl 2 rfl) ?_
    obtain ⟨o1, e1, hL1, hK1, h⟩ := h
    refine g_callv (k1 := 0) (k2 := 0) B (g_runV (n := 2) (As := [.int v1, .int v2]) (rm := rmX9_work) M B e1 (kX9_work (v0 := v0) (v1 := v1) (v2 := v2) l D cy h _) wmX9_236 wiX9_work wsX9_work wnX9 wcdX9_work ⟨rfl, by decide, by decide, by decide +kernel⟩ ⟨Nat.le_trans (by decide) hRf, Nat.le_trans (by decide) hRl⟩ ⟨Nat.le_trans (by decide) hRc, Nat.le_trans (by decide) hRs⟩ hL1 hK1 (by decide) rfl rfl rfl hl.1 rfl ct_0 (by decide) dX9_spared_29) (by decide) (by decide) (fun S4 H locs h B => ?_)
    refine lv_iconst (v := 0) M.1 M.2.1 dX9_spared_32 (by decide) ?_
    refine lv_istore_n (lv' := [(3, .int 0), (0, va_rf v0), (1, .int v1), (2, .int v2)]) M.1 M.2.1 dX9_spared_33 rfl hl (by decide) (fl_e (fl_k rfl rfl (fl_k rfl rfl (fl_i rfl fl_0)))) (fun ls hl => ?_)
    refine lv_iconst (v := 0) M.1 M.2.1 dX9_spared_34 (by decide) ?_
    refine lv_istore (lv' := [(4, .int 0), (3, .int 0), (0, va_rf v0), (1, .int v1), (2, .int v2)]) M.1 M.2.1 dX9_spared_35 hl (by decide) (fl_e (fl_i rfl (fl_k rfl rfl (fl_k rfl rfl (fl_k rfl rfl fl_0))))) (fun ls hl => ?_)
    obtain ⟨n1, h⟩ := h
    exact tX9_spared_37 M hr hlk hRf hRl hRc hRs n1 _ _ _ _ _ h _ _ _ B (lv_sub hl [2, 3, 1, 0] rfl)
  · have h := h.2 c3
    refine lv_iconst (v := 0) M.1 M.2.1 dX9_spared_24 (by decide) ?_
    exact g_iret M B hr hlk h (by decide) (by decide) dX9_spared_25
set_option maxRecDepth 100000 in
set_option maxHeartbeats 4000000 in
theorem tX9_spared {post : Int32 → Pool → Prop} (M : MC p m c cX9_spared 5 s args RX9) (hr : meth.sig.returnType = (some FieldType.int)) (hlk : meth.locks = false) (hRf : 3 ≤ R.frames) (hRl : 77 ≤ R.locals) (hRc : 0 ≤ R.cells) (hRs : 0 ≤ R.slots) : ∀ (v0 : Option Nat) (v1 : Int32) (v2 : Int32) (S : Pool), wX9_spared post v0 v1 v2 S → ∀ (H : Heap) (locs : List Loc) (ls : Array Slot), PB D cy A s S H locs → lv_has ls 5 [(0, va_rf v0), (1, .int v1), (2, .int v2)] → W p l e R s m args below meth c H locs 0 0 (MQ below (va_Qi post (PQ D cy A) A) args s 0 0 A) (F0 m 0 ls []) := by
  intro v0 v1 v2 S h H locs ls B hl
  unfold wX9_spared at h
  refine g_aload_n M dX9_spared_0 rfl (lv_at hl 0 rfl) ?_
  refine g_aload_n M dX9_spared_1 rfl (lv_at hl 0 rfl) ?_
  refine lv_iload_n M.1 M.2.1 dX9_spared_2 rfl (lv_at hl 1 rfl) ?_
  obtain ⟨o1, e1, hL1, hK1, h⟩ := h
  refine g_calli (k1 := 0) (k2 := 0) B (g_runV (n := 1) (As := [.int v1]) (rm := rmX9_isQuestion) M B e1 (kX9_isQuestion (v0 := v0) (v1 := v1) l D cy h _) wmX9_233 wiX9_isQuestion wsX9_isQuestion wnX9 wcdX9_isQuestion ⟨rfl, by decide, by decide, by decide +kernel⟩ ⟨Nat.le_trans (by decide) hRf, Nat.le_trans (by decide) hRl⟩ ⟨Nat.le_trans (by decide) hRc, Nat.le_trans (by decide) hRs⟩ hL1 hK1 (by decide) rfl rfl rfl hl.1 rfl (ct_r ct_0) (by decide) dX9_spared_3) (by decide) (by decide) (fun a2 S1 H locs h B => ?_)
  refine lv_if_ne (tgt := 13) M.1 M.2.1 dX9_spared_6 (by decide) (fun c3 => ?_) (fun c3 => ?_)
  · have h := h.2 c3
    refine lv_iconst (v := 0) M.1 M.2.1 dX9_spared_13 (by decide) ?_
    exact tX9_spared_14 M hr hlk hRf hRl hRc hRs _ _ _ _ _ _ h _ _ _ B (lv_sub hl [0, 1, 2] rfl)
  · have h := h.1 c3
    refine lv_iconst (v := 1) M.1 M.2.1 dX9_spared_9 (by decide) ?_
    refine lv_goto (tgt := 14) M.1 M.2.1 dX9_spared_10 (by decide) ?_
    exact tX9_spared_14 M hr hlk hRf hRl hRc hRs _ _ _ _ _ _ h _ _ _ B (lv_sub hl [0, 1, 2] rfl)
end
set_option maxRecDepth 100000 in
set_option maxHeartbeats 4000000 in
theorem kX9_spared (l : Launch) (D : va_G) (cy : Nat → ClassId) {post : Int32 → Pool → Prop} {v0 : Option Nat} {v1 : Int32} {v2 : Int32} {S : Pool} (h : wX9_spared post v0 v1 v2 S) : MetI l yX9_spared cX9_spared 5 (some FieldType.int) rmX9_spared [va_rf v0, .int v1, .int v2] D cy S post := by
  intro sz
  refine Met.ofW (cc := cX9_spared) (maxL := 5) (ret := (some FieldType.int)) (by decide) rfl ?_
  intro p e s m args below meth c s₁ B0 hml hv
  obtain ⟨rfl, hpp⟩ := hv
  have hts := atoms_spec (ws := .code yX9_spared cX9_spared 5 (some FieldType.int) :: Gw) B0.pre
  obtain rfl : s.heap.size = sz := hpp.1
  have hl := lv_entry [va_rf v0, .int v1, .int v2] (n := 5) (by rw [sl_r, sl_i, sl_i, sl_0]; decide)
  rw [lg_entry_eq]
  rw [la_r, la_i, la_i, la_0] at hl
  exact tX9_spared (l := l) (R := rmX9_spared) ⟨B0.exec, B0.bytes, hml, findClass_of_methodNamed B0.named, fun w hw => hts w (List.mem_cons_of_mem _ hw)⟩ B0.returns B0.notSynchronized (Nat.le_refl _) (Nat.le_refl _) (Nat.le_refl _) (Nat.le_refl _) _ _ _ _ h _ _ _ hpp.pb (lv_sub hl [0, 1, 2] rfl)
-- X9_gap: LogHuntModel.gap(I)V
def wX9_gap_16 (post : Pool → Prop) (v0 : Option Nat) (v1 : Int32) (z0 : Int32) (z1 : Option Nat) (S : Pool) : Prop := xpI S z1 9 0 z0 fun S1 => xI S1 v0 9 0 fun a2 => br (a2 = 0) (xpI S1 v0 9 2 v1 fun S4 => post S4) (post S1)
def wX9_gap (post : Pool → Prop) (v0 : Option Nat) (v1 : Int32) (S : Pool) : Prop := wX9_isIn (fun a2 S1 => br (a2 = 0) (wX9_gap_16 post v0 v1 1 v0 S1) (wX9_gap_16 post v0 v1 0 v0 S1)) v1 0 100000 S
def rmX9_gap : Room := { frames := 1, cells := 0, slots := 0, locals := 22 }
section
variable {p : Program} {l : Launch} {e : Env} {R : Room} {s : State} {m : MethodId} {args : Array Value} {below : List Frame} {meth : Method} {c : Code} {D : va_G} {cy : Nat → ClassId} {A : Nat → Prop}
set_option maxRecDepth 100000 in
set_option maxHeartbeats 4000000 in
theorem tX9_gap_16 {post : Pool → Prop} (M : MC p m c cX9_gap 2 s args RX9) (hr : meth.sig.returnType = none) (hlk : meth.locks = false) (hRf : 1 ≤ R.frames) (hRl : 22 ≤ R.locals) (hRc : 0 ≤ R.cells) (hRs : 0 ≤ R.slots) : ∀ (v0 : Option Nat) (v1 : Int32) (z0 : Int32) (z1 : Option Nat) (S : Pool), wX9_gap_16 post v0 v1 z0 z1 S → ∀ (H : Heap) (locs : List Loc) (ls : Array Slot), PB D cy A s S H locs → lv_has ls 2 [(0, va_rf v0), (1, .int v1)] → W p l e R s m args below meth c H locs 0 0 (MQ below (va_Qv post (PQ D cy A) A) args s 0 0 A) (F0 m 16 ls [.int z0, va_rf z1]) := by
  intro v0 v1 z0 z1 S h H locs ls B hl
  unfold wX9_gap_16 at h
  refine gpX9_99 M B dX9_gap_16 h (fun S1 H locs h B => ?_)
  refine g_aload_n M dX9_gap_19 rfl (lv_at hl 0 rfl) ?_
  refine gfX9_99 M B dX9_gap_20 h (fun a2 h => ?_)
  refine lv_if_ne (tgt := 31) M.1 M.2.1 dX9_gap_23 (by decide) (fun c3 => ?_) (fun c3 => ?_)
  · have h := h.2 c3
    exact g_vret M B hr hlk h (by decide) (by decide) dX9_gap_31
  · have h := h.1 c3
    refine g_aload_n M dX9_gap_26 rfl (lv_at hl 0 rfl) ?_
    refine lv_iload_n M.1 M.2.1 dX9_gap_27 rfl (lv_at hl 1 rfl) ?_
    refine gpX9_7 M B dX9_gap_28 h (fun S4 H locs h B => ?_)
    exact g_vret M B hr hlk h (by decide) (by decide) dX9_gap_31
set_option maxRecDepth 100000 in
set_option maxHeartbeats 4000000 in
theorem tX9_gap {post : Pool → Prop} (M : MC p m c cX9_gap 2 s args RX9) (hr : meth.sig.returnType = none) (hlk : meth.locks = false) (hRf : 1 ≤ R.frames) (hRl : 22 ≤ R.locals) (hRc : 0 ≤ R.cells) (hRs : 0 ≤ R.slots) : ∀ (v0 : Option Nat) (v1 : Int32) (S : Pool), wX9_gap post v0 v1 S → ∀ (H : Heap) (locs : List Loc) (ls : Array Slot), PB D cy A s S H locs → lv_has ls 2 [(0, va_rf v0), (1, .int v1)] → W p l e R s m args below meth c H locs 0 0 (MQ below (va_Qv post (PQ D cy A) A) args s 0 0 A) (F0 m 0 ls []) := by
  intro v0 v1 S h H locs ls B hl
  unfold wX9_gap at h
  refine g_aload_n M dX9_gap_0 rfl (lv_at hl 0 rfl) ?_
  refine lv_iload_n M.1 M.2.1 dX9_gap_1 rfl (lv_at hl 1 rfl) ?_
  refine lv_iconst (v := 0) M.1 M.2.1 dX9_gap_2 (by decide) ?_
  refine lv_ldc (v := 100000) M.1 M.2.1 M.2.2.2.1 (M.2.2.2.2 _ wkX9_115) dX9_gap_3 ?_
  refine g_calli (k1 := 0) (k2 := 0) B (g_runS (n := 3) (As := [.int v1, .int 0, .int 100000]) (rm := rmX9_isIn) M B (kX9_isIn (v0 := v1) (v1 := 0) (v2 := 100000) l D cy h _) wmX9_116 wstX9_isIn wnX9 wcdX9_isIn ⟨by decide, by decide, by decide +kernel⟩ ⟨Nat.le_trans (by decide) hRf, Nat.le_trans (by decide) hRl⟩ ⟨Nat.le_trans (by decide) hRc, Nat.le_trans (by decide) hRs⟩ rfl hl.1 rfl (ct_r ct_0) (by decide) dX9_gap_5) (by decide) (by decide) (fun a2 S1 H locs h B => ?_)
  refine lv_if_ne (tgt := 15) M.1 M.2.1 dX9_gap_8 (by decide) (fun c3 => ?_) (fun c3 => ?_)
  · have h := h.2 c3
    refine lv_iconst (v := 0) M.1 M.2.1 dX9_gap_15 (by decide) ?_
    exact tX9_gap_16 M hr hlk hRf hRl hRc hRs _ _ _ _ _ h _ _ _ B (lv_sub hl [0, 1] rfl)
  · have h := h.1 c3
    refine lv_iconst (v := 1) M.1 M.2.1 dX9_gap_11 (by decide) ?_
    refine lv_goto (tgt := 16) M.1 M.2.1 dX9_gap_12 (by decide) ?_
    exact tX9_gap_16 M hr hlk hRf hRl hRc hRs _ _ _ _ _ h _ _ _ B (lv_sub hl [0, 1] rfl)
end
set_option maxRecDepth 100000 in
set_option maxHeartbeats 4000000 in
theorem kX9_gap (l : Launch) (D : va_G) (cy : Nat → ClassId) {post : Pool → Prop} {v0 : Option Nat} {v1 : Int32} {S : Pool} (h : wX9_gap post v0 v1 S) : MetV l yX9_gap cX9_gap 2 rmX9_gap [va_rf v0, .int v1] D cy S post := by
  intro sz
  refine Met.ofW (cc := cX9_gap) (maxL := 2) (ret := none) (by decide) rfl ?_
  intro p e s m args below meth c s₁ B0 hml hv
  obtain ⟨rfl, hpp⟩ := hv
  have hts := atoms_spec (ws := .code yX9_gap cX9_gap 2 none :: Gw) B0.pre
  obtain rfl : s.heap.size = sz := hpp.1
  have hl := lv_entry [va_rf v0, .int v1] (n := 2) (by rw [sl_r, sl_i, sl_0]; decide)
  rw [lg_entry_eq]
  rw [la_r, la_i, la_0] at hl
  exact tX9_gap (l := l) (R := rmX9_gap) ⟨B0.exec, B0.bytes, hml, findClass_of_methodNamed B0.named, fun w hw => hts w (List.mem_cons_of_mem _ hw)⟩ B0.returns B0.notSynchronized (Nat.le_refl _) (Nat.le_refl _) (Nat.le_refl _) (Nat.le_refl _) _ _ _ h _ _ _ hpp.pb (lv_sub hl [0, 1] rfl)
-- X9_meet: LogHuntModel.meet(II)Z
def wX9_meet_95 (post : Int32 → Pool → Prop) (S : Pool) : Prop := ((1 : Int32) = 0 ∨ (1 : Int32) = 1) ∧ post (1 : Int32) S
def wX9_meet_44 (post : Int32 → Pool → Prop) (v0 : Option Nat) (v1 : Int32) (v2 : Int32) (z0 : Int32) (S : Pool) : Prop := xI S v0 9 2 fun a1 => br (a1 < z0) (((0 : Int32) = 0 ∨ (0 : Int32) = 1) ∧ post (0 : Int32) S) (xR S v0 9 7 fun a3 => xaI S a3 10 ((3 : Int32) * v1) fun a4 => xR S v0 9 7 fun a5 => xaI S a5 10 ((3 : Int32) * v2) fun a6 => br (a4 = a6) (wX9_meet_95 post S) (xR S v0 9 7 fun a8 => xaI S a8 10 (((3 : Int32) * v1) + 2) fun a9 => xR S v0 9 7 fun a10 => xaI S a10 10 (((3 : Int32) * v2) + 2) fun a11 => br (a9 = a11) (wX9_meet_95 post S) (((0 : Int32) = 0 ∨ (0 : Int32) = 1) ∧ post (0 : Int32) S)))
def wX9_meet (post : Int32 → Pool → Prop) (v0 : Option Nat) (v1 : Int32) (v2 : Int32) (S : Pool) : Prop := xR S v0 9 8 fun a1 => xaI S a1 10 v1 fun a2 => xR S v0 9 8 fun a3 => xaI S a3 10 v2 fun a4 => br (a2 ≤ a4) (xR S v0 9 8 fun a6 => xaI S a6 10 v2 fun a7 => xR S v0 9 8 fun a8 => xaI S a8 10 v1 fun a9 => wX9_meet_44 post v0 v1 v2 (a7 - a9) S) (xR S v0 9 8 fun a10 => xaI S a10 10 v1 fun a11 => xR S v0 9 8 fun a12 => xaI S a12 10 v2 fun a13 => wX9_meet_44 post v0 v1 v2 (a11 - a13) S)
def rmX9_meet : Room := { frames := 0, cells := 0, slots := 0, locals := 0 }
section
variable {p : Program} {l : Launch} {e : Env} {R : Room} {s : State} {m : MethodId} {args : Array Value} {below : List Frame} {meth : Method} {c : Code} {D : va_G} {cy : Nat → ClassId} {A : Nat → Prop}
set_option maxRecDepth 100000 in
set_option maxHeartbeats 4000000 in
theorem tX9_meet_95 {post : Int32 → Pool → Prop} (M : MC p m c cX9_meet 4 s args RX9) (hr : meth.sig.returnType = (some FieldType.boolean)) (hlk : meth.locks = false) (hRf : 0 ≤ R.frames) (hRl : 0 ≤ R.locals) (hRc : 0 ≤ R.cells) (hRs : 0 ≤ R.slots) : ∀ (S : Pool), wX9_meet_95 post S → ∀ (H : Heap) (locs : List Loc) (ls : Array Slot), PB D cy A s S H locs → lv_has ls 4 [] → W p l e R s m args below meth c H locs 0 0 (MQ below (va_Qi post (PQ D cy A) A) args s 0 0 A) (F0 m 95 ls []) := by
  intro S h H locs ls B hl
  unfold wX9_meet_95 at h
  refine lv_iconst (v := 1) M.1 M.2.1 dX9_meet_95 (by decide) ?_
  refine lv_goto (tgt := 100) M.1 M.2.1 dX9_meet_96 (by decide) ?_
  exact g_zret M B hr hlk h (by decide) (by decide) dX9_meet_100
set_option maxRecDepth 100000 in
set_option maxHeartbeats 4000000 in
theorem tX9_meet_44 {post : Int32 → Pool → Prop} (M : MC p m c cX9_meet 4 s args RX9) (hr : meth.sig.returnType = (some FieldType.boolean)) (hlk : meth.locks = false) (hRf : 0 ≤ R.frames) (hRl : 0 ≤ R.locals) (hRc : 0 ≤ R.cells) (hRs : 0 ≤ R.slots) : ∀ (v0 : Option Nat) (v1 : Int32) (v2 : Int32) (z0 : Int32) (S : Pool), wX9_meet_44 post v0 v1 v2 z0 S → ∀ (H : Heap) (locs : List Loc) (ls : Array Slot), PB D cy A s S H locs → lv_has ls 4 [(0, va_rf v0), (1, .int v1), (2, .int v2)] → W p l e R s m args below meth c H locs 0 0 (MQ below (va_Qi post (PQ D cy A) A) args s 0 0 A) (F0 m 44 ls [.int z0]) := by
  intro v0 v1 v2 z0 S h H locs ls B hl
  unfold wX9_meet_44 at h
  refine lv_istore_n (lv' := [(3, .int z0), (0, va_rf v0), (1, .int v1), (2, .int v2)]) M.1 M.2.1 dX9_meet_44 rfl hl (by decide) (fl_e (fl_k rfl rfl (fl_k rfl rfl (fl_i rfl fl_0)))) (fun ls hl => ?_)
  refine lv_iload_n M.1 M.2.1 dX9_meet_45 rfl (lv_at hl 0 rfl) ?_
  refine g_aload_n M dX9_meet_46 rfl (lv_at hl 1 rfl) ?_
  refine gfX9_7 M B dX9_meet_47 h (fun a1 h => ?_)
  refine lv_icmp_gt (tgt := 99) M.1 M.2.1 dX9_meet_50 (by decide) (fun c2 => ?_) (fun c2 => ?_)
  · have h := h.1 c2
    refine lv_iconst (v := 0) M.1 M.2.1 dX9_meet_99 (by decide) ?_
    exact g_zret M B hr hlk h (by decide) (by decide) dX9_meet_100
  · have h := h.2 c2
    refine g_aload_n M dX9_meet_53 rfl (lv_at hl 1 rfl) ?_
    refine gfX9_20 M B dX9_meet_54 h (fun a3 h => ?_)
    refine lv_iconst (v := 3) M.1 M.2.1 dX9_meet_57 (by decide) ?_
    refine lv_iload_n M.1 M.2.1 dX9_meet_58 rfl (lv_at hl 2 rfl) ?_
    refine lv_imul M.1 M.2.1 dX9_meet_59 ?_
    refine g_iald M B dX9_meet_60 h (fun a4 h => ?_)
    refine g_aload_n M dX9_meet_61 rfl (lv_at hl 1 rfl) ?_
    refine gfX9_20 M B dX9_meet_62 h (fun a5 h => ?_)
    refine lv_iconst (v := 3) M.1 M.2.1 dX9_meet_65 (by decide) ?_
    refine lv_iload_n M.1 M.2.1 dX9_meet_66 rfl (lv_at hl 3 rfl) ?_
    refine lv_imul M.1 M.2.1 dX9_meet_67 ?_
    refine g_iald M B dX9_meet_68 h (fun a6 h => ?_)
    refine lv_icmp_eq (tgt := 95) M.1 M.2.1 dX9_meet_69 (by decide) (fun c7 => ?_) (fun c7 => ?_)
    · have h := h.1 c7
      exact tX9_meet_95 M hr hlk hRf hRl hRc hRs _ h _ _ _ B (lv_sub hl [] rfl)
    · have h := h.2 c7
      refine g_aload_n M dX9_meet_72 rfl (lv_at hl 1 rfl) ?_
      refine gfX9_20 M B dX9_meet_73 h (fun a8 h => ?_)
      refine lv_iconst (v := 3) M.1 M.2.1 dX9_meet_76 (by decide) ?_
      refine lv_iload_n M.1 M.2.1 dX9_meet_77 rfl (lv_at hl 2 rfl) ?_
      refine lv_imul M.1 M.2.1 dX9_meet_78 ?_
      refine lv_iconst (v := 2) M.1 M.2.1 dX9_meet_79 (by decide) ?_
      refine lv_iadd M.1 M.2.1 dX9_meet_80 ?_
      refine g_iald M B dX9_meet_81 h (fun a9 h => ?_)
      refine g_aload_n M dX9_meet_82 rfl (lv_at hl 1 rfl) ?_
      refine gfX9_20 M B dX9_meet_83 h (fun a10 h => ?_)
      refine lv_iconst (v := 3) M.1 M.2.1 dX9_meet_86 (by decide) ?_
      refine lv_iload_n M.1 M.2.1 dX9_meet_87 rfl (lv_at hl 3 rfl) ?_
      refine lv_imul M.1 M.2.1 dX9_meet_88 ?_
      refine lv_iconst (v := 2) M.1 M.2.1 dX9_meet_89 (by decide) ?_
      refine lv_iadd M.1 M.2.1 dX9_meet_90 ?_
      refine g_iald M B dX9_meet_91 h (fun a11 h => ?_)
      refine lv_icmp_ne (tgt := 99) M.1 M.2.1 dX9_meet_92 (by decide) (fun c12 => ?_) (fun c12 => ?_)
      · have h := h.2 c12
        refine lv_iconst (v := 0) M.1 M.2.1 dX9_meet_99 (by decide) ?_
        exact g_zret M B hr hlk h (by decide) (by decide) dX9_meet_100
      · have h := h.1 c12
        exact tX9_meet_95 M hr hlk hRf hRl hRc hRs _ h _ _ _ B (lv_sub hl [] rfl)
set_option maxRecDepth 100000 in
set_option maxHeartbeats 4000000 in
theorem tX9_meet {post : Int32 → Pool → Prop} (M : MC p m c cX9_meet 4 s args RX9) (hr : meth.sig.returnType = (some FieldType.boolean)) (hlk : meth.locks = false) (hRf : 0 ≤ R.frames) (hRl : 0 ≤ R.locals) (hRc : 0 ≤ R.cells) (hRs : 0 ≤ R.slots) : ∀ (v0 : Option Nat) (v1 : Int32) (v2 : Int32) (S : Pool), wX9_meet post v0 v1 v2 S → ∀ (H : Heap) (locs : List Loc) (ls : Array Slot), PB D cy A s S H locs → lv_has ls 4 [(0, va_rf v0), (1, .int v1), (2, .int v2)] → W p l e R s m args below meth c H locs 0 0 (MQ below (va_Qi post (PQ D cy A) A) args s 0 0 A) (F0 m 0 ls []) := by
  intro v0 v1 v2 S h H locs ls B hl
  unfold wX9_meet at h
  refine g_aload_n M dX9_meet_0 rfl (lv_at hl 0 rfl) ?_
  refine gfX9_23 M B dX9_meet_1 h (fun a1 h => ?_)
  refine lv_iload_n M.1 M.2.1 dX9_meet_4 rfl (lv_at hl 1 rfl) ?_
  refine g_iald M B dX9_meet_5 h (fun a2 h => ?_)
  refine g_aload_n M dX9_meet_6 rfl (lv_at hl 0 rfl) ?_
  refine gfX9_23 M B dX9_meet_7 h (fun a3 h => ?_)
  refine lv_iload_n M.1 M.2.1 dX9_meet_10 rfl (lv_at hl 2 rfl) ?_
  refine g_iald M B dX9_meet_11 h (fun a4 h => ?_)
  refine lv_icmp_le (tgt := 31) M.1 M.2.1 dX9_meet_12 (by decide) (fun c5 => ?_) (fun c5 => ?_)
  · have h := h.1 c5
    refine g_aload_n M dX9_meet_31 rfl (lv_at hl 0 rfl) ?_
    refine gfX9_23 M B dX9_meet_32 h (fun a6 h => ?_)
    refine lv_iload_n M.1 M.2.1 dX9_meet_35 rfl (lv_at hl 2 rfl) ?_
    refine g_iald M B dX9_meet_36 h (fun a7 h => ?_)
    refine g_aload_n M dX9_meet_37 rfl (lv_at hl 0 rfl) ?_
    refine gfX9_23 M B dX9_meet_38 h (fun a8 h => ?_)
    refine lv_iload_n M.1 M.2.1 dX9_meet_41 rfl (lv_at hl 1 rfl) ?_
    refine g_iald M B dX9_meet_42 h (fun a9 h => ?_)
    refine lv_isub M.1 M.2.1 dX9_meet_43 ?_
    exact tX9_meet_44 M hr hlk hRf hRl hRc hRs _ _ _ _ _ h _ _ _ B (lv_sub hl [0, 1, 2] rfl)
  · have h := h.2 c5
    refine g_aload_n M dX9_meet_15 rfl (lv_at hl 0 rfl) ?_
    refine gfX9_23 M B dX9_meet_16 h (fun a10 h => ?_)
    refine lv_iload_n M.1 M.2.1 dX9_meet_19 rfl (lv_at hl 1 rfl) ?_
    refine g_iald M B dX9_meet_20 h (fun a11 h => ?_)
    refine g_aload_n M dX9_meet_21 rfl (lv_at hl 0 rfl) ?_
    refine gfX9_23 M B dX9_meet_22 h (fun a12 h => ?_)
    refine lv_iload_n M.1 M.2.1 dX9_meet_25 rfl (lv_at hl 2 rfl) ?_
    refine g_iald M B dX9_meet_26 h (fun a13 h => ?_)
    refine lv_isub M.1 M.2.1 dX9_meet_27 ?_
    refine lv_goto (tgt := 44) M.1 M.2.1 dX9_meet_28 (by decide) ?_
    exact tX9_meet_44 M hr hlk hRf hRl hRc hRs _ _ _ _ _ h _ _ _ B (lv_sub hl [0, 1, 2] rfl)
end
set_option maxRecDepth 100000 in
set_option maxHeartbeats 4000000 in
theorem kX9_meet (l : Launch) (D : va_G) (cy : Nat → ClassId) {post : Int32 → Pool → Prop} {v0 : Option Nat} {v1 : Int32} {v2 : Int32} {S : Pool} (h : wX9_meet post v0 v1 v2 S) : MetI l yX9_meet cX9_meet 4 (some FieldType.boolean) rmX9_meet [va_rf v0, .int v1, .int v2] D cy S post := by
  intro sz
  refine Met.ofW (cc := cX9_meet) (maxL := 4) (ret := (some FieldType.boolean)) (by decide) rfl ?_
  intro p e s m args below meth c s₁ B0 hml hv
  obtain ⟨rfl, hpp⟩ := hv
  have hts := atoms_spec (ws := .code yX9_meet cX9_meet 4 (some FieldType.boolean) :: Gw) B0.pre
  obtain rfl : s.heap.size = sz := hpp.1
  have hl := lv_entry [va_rf v0, .int v1, .int v2] (n := 4) (by rw [sl_r, sl_i, sl_i, sl_0]; decide)
  rw [lg_entry_eq]
  rw [la_r, la_i, la_i, la_0] at hl
  exact tX9_meet (l := l) (R := rmX9_meet) ⟨B0.exec, B0.bytes, hml, findClass_of_methodNamed B0.named, fun w hw => hts w (List.mem_cons_of_mem _ hw)⟩ B0.returns B0.notSynchronized (Nat.le_refl _) (Nat.le_refl _) (Nat.le_refl _) (Nat.le_refl _) _ _ _ _ h _ _ _ hpp.pb (lv_sub hl [0, 1, 2] rfl)
-- X9_gather: LogHuntModel.gather()V
def wX9_gather_206 (K113 : Option Nat → Int32 → Pool → Prop) (K123 : Option Nat → Int32 → Int32 → Pool → Prop) (post : Pool → Prop) (v0 : Option Nat) (v1 : Int32) (v2 : Int32) (S : Pool) : Prop := K123 v0 v1 (v2 + 1) S
def wX9_gather_200 (K113 : Option Nat → Int32 → Pool → Prop) (K123 : Option Nat → Int32 → Int32 → Pool → Prop) (K174 : Option Nat → Int32 → Int32 → Int32 → Int32 → Int32 → Pool → Prop) (post : Pool → Prop) (v0 : Option Nat) (v1 : Int32) (v2 : Int32) (v3 : Int32) (v4 : Int32) (v5 : Int32) (S : Pool) : Prop := K174 v0 v1 v2 v3 v4 (v5 + 1) S
def wX9_gather_174 (K113 : Option Nat → Int32 → Pool → Prop) (K123 : Option Nat → Int32 → Int32 → Pool → Prop) (post : Pool → Prop) : Nat → Option Nat → Int32 → Int32 → Int32 → Int32 → Int32 → Pool → Prop
  | 0 => fun _ _ _ _ _ _ _ => False
  | n + 1 => fun v0 v1 v2 v3 v4 v5 S => br (v1 < v5) (wX9_gather_206 K113 K123 post v0 v1 v2 S) (xR S v0 9 41 fun a2 => xaI S a2 10 v5 fun a3 => br (a3 = v3) (xR S v0 9 41 fun a5 => xsI S a5 10 v5 v4 fun S6 => wX9_gather_200 K113 K123 (wX9_gather_174 K113 K123 post n) post v0 v1 v2 v3 v4 v5 S6) (wX9_gather_200 K113 K123 (wX9_gather_174 K113 K123 post n) post v0 v1 v2 v3 v4 v5 S))
def wX9_gather_123 (K113 : Option Nat → Int32 → Pool → Prop) (post : Pool → Prop) : Nat → Option Nat → Int32 → Int32 → Pool → Prop
  | 0 => fun _ _ _ _ => False
  | n + 1 => fun v0 v1 v2 S => br (v1 ≤ v2) (K113 v0 (v1 + 1) S) (xR S v0 9 41 fun a2 => xaI S a2 10 v1 fun a3 => xR S v0 9 41 fun a4 => xaI S a4 10 v2 fun a5 => br (a3 = a5) (wX9_gather_206 K113 (wX9_gather_123 K113 post n) post v0 v1 v2 S) (xR S v0 9 40 fun a7 => xaI S a7 10 v1 fun a8 => xR S v0 9 40 fun a9 => xaI S a9 10 v2 fun a10 => xrc S v0 9 (wX9_meet (fun a12 S11 => br (a12 = 0) (wX9_gather_206 K113 (wX9_gather_123 K113 post n) post v0 v1 v2 S11) (∃ n1, wX9_gather_174 K113 (wX9_gather_123 K113 post n) post n1 v0 v1 v2 a3 a5 0 S11)) v0 a8 a10 S)))
def wX9_gather_113 (post : Pool → Prop) : Nat → Option Nat → Int32 → Pool → Prop
  | 0 => fun _ _ _ => False
  | n + 1 => fun v0 v1 S => xI S v0 9 38 fun a1 => br (a1 ≤ v1) (post S) (∃ n1, wX9_gather_123 (wX9_gather_113 post n) post n1 v0 v1 0 S)
def wX9_gather_99 (K7 : Option Nat → Int32 → Pool → Prop) (K26 : Option Nat → Int32 → Int32 → Pool → Prop) (post : Pool → Prop) (v0 : Option Nat) (v1 : Int32) (v2 : Int32) (S : Pool) : Prop := K26 v0 v1 (v2 + 1) S
def wX9_gather_26 (K7 : Option Nat → Int32 → Pool → Prop) (post : Pool → Prop) : Nat → Option Nat → Int32 → Int32 → Pool → Prop
  | 0 => fun _ _ _ _ => False
  | n + 1 => fun v0 v1 v2 S => xI S v0 9 36 fun a1 => br (a1 ≤ v2) (K7 v0 (v1 + 1) S) (xR S v0 9 37 fun a3 => xaI S a3 10 v2 fun a4 => xrc S v0 9 (wX9_isExempt (fun a6 S5 => br (a6 = 0) (xR S5 v0 9 39 fun a8 => xI S5 v0 9 38 fun a9 => xsI S5 a8 10 a9 v1 fun S10 => xR S10 v0 9 40 fun a11 => xI S10 v0 9 38 fun a12 => xR S10 v0 9 37 fun a13 => xaI S10 a13 10 v2 fun a14 => xsI S10 a11 10 a12 a14 fun S15 => xR S15 v0 9 41 fun a16 => xI S15 v0 9 38 fun a17 => xI S15 v0 9 38 fun a18 => xsI S15 a16 10 a17 a18 fun S19 => xI S19 v0 9 38 fun a20 => xpI S19 v0 9 38 (a20 + 1) fun S21 => wX9_gather_99 K7 (wX9_gather_26 K7 post n) post v0 v1 v2 S21) (wX9_gather_99 K7 (wX9_gather_26 K7 post n) post v0 v1 v2 S5)) v0 v1 a4 S))
def wX9_gather_7 (post : Pool → Prop) : Nat → Option Nat → Int32 → Pool → Prop
  | 0 => fun _ _ _ => False
  | n + 1 => fun v0 v1 S => xI S v0 9 11 fun a1 => br (a1 ≤ v1) (∃ n1, wX9_gather_113 post n1 v0 0 S) (xI S v0 9 1 fun a3 => xrc S v0 9 (wX9_work (fun S4 => ∃ n1, wX9_gather_26 (wX9_gather_7 post n) post n1 v0 v1 0 S4) v0 v1 a3 S))
def wX9_gather (post : Pool → Prop) (v0 : Option Nat) (S : Pool) : Prop := xpI S v0 9 38 0 fun S1 => ∃ n1, wX9_gather_7 post n1 v0 0 S1
def rmX9_gather : Room := { frames := 3, cells := 0, slots := 0, locals := 77 }
section
variable {p : Program} {l : Launch} {e : Env} {R : Room} {s : State} {m : MethodId} {args : Array Value} {below : List Frame} {meth : Method} {c : Code} {D : va_G} {cy : Nat → ClassId} {A : Nat → Prop}
set_option maxRecDepth 100000 in
set_option maxHeartbeats 4000000 in
theorem tX9_gather_206 {K113 : Option Nat → Int32 → Pool → Prop} {K123 : Option Nat → Int32 → Int32 → Pool → Prop} {post : Pool → Prop} (M : MC p m c cX9_gather 6 s args RX9) (hr : meth.sig.returnType = none) (hlk : meth.locks = false) (hRf : 3 ≤ R.frames) (hRl : 77 ≤ R.locals) (hRc : 0 ≤ R.cells) (hRs : 0 ≤ R.slots) (hK113 : ∀ (v0 : Option Nat) (v1 : Int32) (S : Pool), K113 v0 v1 S → ∀ (H : Heap) (locs : List Loc) (ls : Array Slot), PB D cy A s S H locs → lv_has ls 6 [(0, va_rf v0), (1, .int v1)] → W p l e R s m args below meth c H locs 0 0 (MQ below (va_Qv post (PQ D cy A) A) args s 0 0 A) (F0 m 113 ls [])) (hK123 : ∀ (v0 : Option Nat) (v1 : Int32) (v2 : Int32) (S : Pool), K123 v0 v1 v2 S → ∀ (H : Heap) (locs : List Loc) (ls : Array Slot), PB D cy A s S H locs → lv_has ls 6 [(0, va_rf v0), (1, .int v1), (2, .int v2)] → W p l e R s m args below meth c H locs 0 0 (MQ below (va_Qv post (PQ D cy A) A) args s 0 0 A) (F0 m 123 ls [])) : ∀ (v0 : Option Nat) (v1 : Int32) (v2 : Int32) (S : Pool), wX9_gather_206 K113 K123 post v0 v1 v2 S → ∀ (H : Heap) (locs : List Loc) (ls : Array Slot), PB D cy A s S H locs → lv_has ls 6 [(0, va_rf v0), (1, .int v1), (2, .int v2)] → W p l e R s m args below meth c H locs 0 0 (MQ below (va_Qv post (PQ D cy A) A) args s 0 0 A) (F0 m 206 ls []) := by
  intro v0 v1 v2 S h H locs ls B hl
  unfold wX9_gather_206 at h
  refine lv_iinc (v := v2 + 1) (lv' := [(2, .int (v2 + 1)), (0, va_rf v0), (1, .int v1)]) M.1 M.2.1 dX9_gather_206 hl (k := 2) rfl (by rfl) (by decide) (fl_e (fl_k rfl rfl (fl_i rfl (fl_d rfl fl_0)))) (fun ls hl => ?_)
  refine lv_goto (tgt := 123) M.1 M.2.1 dX9_gather_209 (by decide) ?_
  exact hK123 _ _ _ _ h _ _ _ B (lv_sub hl [1, 2, 0] rfl)
set_option maxRecDepth 100000 in
set_option maxHeartbeats 4000000 in
theorem tX9_gather_200 {K113 : Option Nat → Int32 → Pool → Prop} {K123 : Option Nat → Int32 → Int32 → Pool → Prop} {K174 : Option Nat → Int32 → Int32 → Int32 → Int32 → Int32 → Pool → Prop} {post : Pool → Prop} (M : MC p m c cX9_gather 6 s args RX9) (hr : meth.sig.returnType = none) (hlk : meth.locks = false) (hRf : 3 ≤ R.frames) (hRl : 77 ≤ R.locals) (hRc : 0 ≤ R.cells) (hRs : 0 ≤ R.slots) (hK113 : ∀ (v0 : Option Nat) (v1 : Int32) (S : Pool), K113 v0 v1 S → ∀ (H : Heap) (locs : List Loc) (ls : Array Slot), PB D cy A s S H locs → lv_has ls 6 [(0, va_rf v0), (1, .int v1)] → W p l e R s m args below meth c H locs 0 0 (MQ below (va_Qv post (PQ D cy A) A) args s 0 0 A) (F0 m 113 ls [])) (hK123 : ∀ (v0 : Option Nat) (v1 : Int32) (v2 : Int32) (S : Pool), K123 v0 v1 v2 S → ∀ (H : Heap) (locs : List Loc) (ls : Array Slot), PB D cy A s S H locs → lv_has ls 6 [(0, va_rf v0), (1, .int v1), (2, .int v2)] → W p l e R s m args below meth c H locs 0 0 (MQ below (va_Qv post (PQ D cy A) A) args s 0 0 A) (F0 m 123 ls [])) (hK174 : ∀ (v0 : Option Nat) (v1 : Int32) (v2 : Int32) (v3 : Int32) (v4 : Int32) (v5 : Int32) (S : Pool), K174 v0 v1 v2 v3 v4 v5 S → ∀ (H : Heap) (locs : List Loc) (ls : Array Slot), PB D cy A s S H locs → lv_has ls 6 [(0, va_rf v0), (1, .int v1), (2, .int v2), (3, .int v3), (4, .int v4), (5, .int v5)] → W p l e R s m args below meth c H locs 0 0 (MQ below (va_Qv post (PQ D cy A) A) args s 0 0 A) (F0 m 174 ls [])) : ∀ (v0 : Option Nat) (v1 : Int32) (v2 : Int32) (v3 : Int32) (v4 : Int32) (v5 : Int32) (S : Pool), wX9_gather_200 K113 K123 K174 post v0 v1 v2 v3 v4 v5 S → ∀ (H : Heap) (locs : List Loc) (ls : Array Slot), PB D cy A s S H locs → lv_has ls 6 [(0, va_rf v0), (1, .int v1), (2, .int v2), (3, .int v3), (4, .int v4), (5, .int v5)] → W p l e R s m args below meth c H locs 0 0 (MQ below (va_Qv post (PQ D cy A) A) args s 0 0 A) (F0 m 200 ls []) := by
  intro v0 v1 v2 v3 v4 v5 S h H locs ls B hl
  unfold wX9_gather_200 at h
  refine lv_iinc (v := v5 + 1) (lv' := [(5, .int (v5 + 1)), (0, va_rf v0), (1, .int v1), (2, .int v2), (3, .int v3), (4, .int v4)]) M.1 M.2.1 dX9_gather_200 hl (k := 5) rfl (by rfl) (by decide) (fl_e (fl_k rfl rfl (fl_k rfl rfl (fl_k rfl rfl (fl_k rfl rfl (fl_i rfl (fl_d rfl fl_0))))))) (fun ls hl => ?_)
  refine lv_goto (tgt := 174) M.1 M.2.1 dX9_gather_203 (by decide) ?_
  exact hK174 _ _ _ _ _ _ _ h _ _ _ B (lv_sub hl [1, 2, 3, 4, 5, 0] rfl)
set_option maxRecDepth 100000 in
set_option maxHeartbeats 4000000 in
theorem tX9_gather_174 {K113 : Option Nat → Int32 → Pool → Prop} {K123 : Option Nat → Int32 → Int32 → Pool → Prop} {post : Pool → Prop} (M : MC p m c cX9_gather 6 s args RX9) (hr : meth.sig.returnType = none) (hlk : meth.locks = false) (hRf : 3 ≤ R.frames) (hRl : 77 ≤ R.locals) (hRc : 0 ≤ R.cells) (hRs : 0 ≤ R.slots) (hK113 : ∀ (v0 : Option Nat) (v1 : Int32) (S : Pool), K113 v0 v1 S → ∀ (H : Heap) (locs : List Loc) (ls : Array Slot), PB D cy A s S H locs → lv_has ls 6 [(0, va_rf v0), (1, .int v1)] → W p l e R s m args below meth c H locs 0 0 (MQ below (va_Qv post (PQ D cy A) A) args s 0 0 A) (F0 m 113 ls [])) (hK123 : ∀ (v0 : Option Nat) (v1 : Int32) (v2 : Int32) (S : Pool), K123 v0 v1 v2 S → ∀ (H : Heap) (locs : List Loc) (ls : Array Slot), PB D cy A s S H locs → lv_has ls 6 [(0, va_rf v0), (1, .int v1), (2, .int v2)] → W p l e R s m args below meth c H locs 0 0 (MQ below (va_Qv post (PQ D cy A) A) args s 0 0 A) (F0 m 123 ls [])) : ∀ (n : Nat) (v0 : Option Nat) (v1 : Int32) (v2 : Int32) (v3 : Int32) (v4 : Int32) (v5 : Int32) (S : Pool), wX9_gather_174 K113 K123 post n v0 v1 v2 v3 v4 v5 S → ∀ (H : Heap) (locs : List Loc) (ls : Array Slot), PB D cy A s S H locs → lv_has ls 6 [(0, va_rf v0), (1, .int v1), (2, .int v2), (3, .int v3), (4, .int v4), (5, .int v5)] → W p l e R s m args below meth c H locs 0 0 (MQ below (va_Qv post (PQ D cy A) A) args s 0 0 A) (F0 m 174 ls []) := by
  intro n
  induction n with
  | zero => intro v0 v1 v2 v3 v4 v5 S h; exact False.elim h
  | succ n ih =>
    intro v0 v1 v2 v3 v4 v5 S h H locs ls B hl
    unfold wX9_gather_174 at h
    refine lv_iload M.1 M.2.1 dX9_gather_174 (lv_at hl 5 rfl) ?_
    refine lv_iload_n M.1 M.2.1 dX9_gather_176 rfl (lv_at hl 1 rfl) ?_
    refine lv_icmp_gt (tgt := 206) M.1 M.2.1 dX9_gather_177 (by decide) (fun c1 => ?_) (fun c1 => ?_)
    · have h := h.1 c1
      exact tX9_gather_206 M hr hlk hRf hRl hRc hRs hK113 hK123 _ _ _ _ h _ _ _ B (lv_sub hl [0, 1, 2] rfl)
    · have h := h.2 c1
      refine g_aload_n M dX9_gather_180 rfl (lv_at hl 0 rfl) ?_
      refine gfX9_96 M B dX9_gather_181 h (fun a2 h => ?_)
      refine lv_iload M.1 M.2.1 dX9_gather_184 (lv_at hl 5 rfl) ?_
      refine g_iald M B dX9_gather_186 h (fun a3 h => ?_)
      refine lv_iload_n M.1 M.2.1 dX9_gather_187 rfl (lv_at hl 3 rfl) ?_
      refine lv_icmp_ne (tgt := 200) M.1 M.2.1 dX9_gather_188 (by decide) (fun c4 => ?_) (fun c4 => ?_)
      · have h := h.2 c4
        exact tX9_gather_200 M hr hlk hRf hRl hRc hRs hK113 hK123 ih _ _ _ _ _ _ _ h _ _ _ B (lv_sub hl [0, 1, 2, 3, 4, 5] rfl)
      · have h := h.1 c4
        refine g_aload_n M dX9_gather_191 rfl (lv_at hl 0 rfl) ?_
        refine gfX9_96 M B dX9_gather_192 h (fun a5 h => ?_)
        refine lv_iload M.1 M.2.1 dX9_gather_195 (lv_at hl 5 rfl) ?_
        refine lv_iload M.1 M.2.1 dX9_gather_197 (lv_at hl 4 rfl) ?_
        refine g_iast M B dX9_gather_199 h (fun S6 H locs h B => ?_)
        exact tX9_gather_200 M hr hlk hRf hRl hRc hRs hK113 hK123 ih _ _ _ _ _ _ _ h _ _ _ B (lv_sub hl [0, 1, 2, 3, 4, 5] rfl)
set_option maxRecDepth 100000 in
set_option maxHeartbeats 4000000 in
theorem tX9_gather_123 {K113 : Option Nat → Int32 → Pool → Prop} {post : Pool → Prop} (M : MC p m c cX9_gather 6 s args RX9) (hr : meth.sig.returnType = none) (hlk : meth.locks = false) (hRf : 3 ≤ R.frames) (hRl : 77 ≤ R.locals) (hRc : 0 ≤ R.cells) (hRs : 0 ≤ R.slots) (hK113 : ∀ (v0 : Option Nat) (v1 : Int32) (S : Pool), K113 v0 v1 S → ∀ (H : Heap) (locs : List Loc) (ls : Array Slot), PB D cy A s S H locs → lv_has ls 6 [(0, va_rf v0), (1, .int v1)] → W p l e R s m args below meth c H locs 0 0 (MQ below (va_Qv post (PQ D cy A) A) args s 0 0 A) (F0 m 113 ls [])) : ∀ (n : Nat) (v0 : Option Nat) (v1 : Int32) (v2 : Int32) (S : Pool), wX9_gather_123 K113 post n v0 v1 v2 S → ∀ (H : Heap) (locs : List Loc) (ls : Array Slot), PB D cy A s S H locs → lv_has ls 6 [(0, va_rf v0), (1, .int v1), (2, .int v2)] → W p l e R s m args below meth c H locs 0 0 (MQ below (va_Qv post (PQ D cy A) A) args s 0 0 A) (F0 m 123 ls []) := by
  intro n
  induction n with
  | zero => intro v0 v1 v2 S h; exact False.elim h
  | succ n ih =>
    intro v0 v1 v2 S h H locs ls B hl
    unfold wX9_gather_123 at h
    refine lv_iload_n M.1 M.2.1 dX9_gather_123 rfl (lv_at hl 2 rfl) ?_
    refine lv_iload_n M.1 M.2.1 dX9_gather_124 rfl (lv_at hl 1 rfl) ?_
    refine lv_icmp_ge (tgt := 212) M.1 M.2.1 dX9_gather_125 (by decide) (fun c1 => ?_) (fun c1 => ?_)
    · have h := h.1 c1
      refine lv_iinc (v := v1 + 1) (lv' := [(1, .int (v1 + 1)), (0, va_rf v0), (2, .int v2)]) M.1 M.2.1 dX9_gather_212 hl (k := 1) rfl (by rfl) (by decide) (fl_e (fl_r rfl (fl_d rfl (fl_k rfl rfl fl_0)))) (fun ls hl => ?_)
      refine lv_goto (tgt := 113) M.1 M.2.1 dX9_gather_215 (by decide) ?_
      exact hK113 _ _ _ h _ _ _ B (lv_sub hl [1, 0] rfl)
    · have h := h.2 c1
      refine g_aload_n M dX9_gather_128 rfl (lv_at hl 0 rfl) ?_
      refine gfX9_96 M B dX9_gather_129 h (fun a2 h => ?_)
      refine lv_iload_n M.1 M.2.1 dX9_gather_132 rfl (lv_at hl 1 rfl) ?_
      refine g_iald M B dX9_gather_133 h (fun a3 h => ?_)
      refine lv_istore_n (lv' := [(3, .int a3), (0, va_rf v0), (1, .int v1), (2, .int v2)]) M.1 M.2.1 dX9_gather_134 rfl hl (by decide) (fl_e (fl_k rfl rfl (fl_k rfl rfl (fl_i rfl fl_0)))) (fun ls hl => ?_)
      refine g_aload_n M dX9_gather_135 rfl (lv_at hl 1 rfl) ?_
      refine gfX9_96 M B dX9_gather_136 h (fun a4 h => ?_)
      refine lv_iload_n M.1 M.2.1 dX9_gather_139 rfl (lv_at hl 3 rfl) ?_
      refine g_iald M B dX9_gather_140 h (fun a5 h => ?_)
      refine lv_istore (lv' := [(4, .int a5), (3, .int a3), (0, va_rf v0), (1, .int v1), (2, .int v2)]) M.1 M.2.1 dX9_gather_141 hl (by decide) (fl_e (fl_i rfl (fl_k rfl rfl (fl_k rfl rfl (fl_k rfl rfl fl_0))))) (fun ls hl => ?_)
      refine lv_iload_n M.1 M.2.1 dX9_gather_143 rfl (lv_at hl 1 rfl) ?_
      refine lv_iload M.1 M.2.1 dX9_gather_144 (lv_at hl 0 rfl) ?_
      refine lv_icmp_eq (tgt := 206) M.1 M.2.1 dX9_gather_146 (by decide) (fun c6 => ?_) (fun c6 => ?_)
      · have h := h.1 c6
        exact tX9_gather_206 M hr hlk hRf hRl hRc hRs hK113 ih _ _ _ _ h _ _ _ B (lv_sub hl [2, 3, 4] rfl)
      · have h := h.2 c6
        refine g_aload_n M dX9_gather_149 rfl (lv_at hl 2 rfl) ?_
        refine g_aload_n M dX9_gather_150 rfl (lv_at hl 2 rfl) ?_
        refine gfX9_93 M B dX9_gather_151 h (fun a7 h => ?_)
        refine lv_iload_n M.1 M.2.1 dX9_gather_154 rfl (lv_at hl 3 rfl) ?_
        refine g_iald M B dX9_gather_155 h (fun a8 h => ?_)
        refine g_aload_n M dX9_gather_156 rfl (lv_at hl 2 rfl) ?_
        refine gfX9_93 M B dX9_gather_157 h (fun a9 h => ?_)
        refine lv_iload_n M.1 M.2.1 dX9_gather_160 rfl (lv_at hl 4 rfl) ?_
        refine g_iald M B dX9_gather_161 h (fun a10 h => ?_)
        obtain ⟨o1, e1, hL1, hK1, h⟩ := h
        refine g_calli (k1 := 0) (k2 := 0) B (g_runV (n := 2) (As := [.int a8, .int a10]) (rm := rmX9_meet) M B e1 (kX9_meet (v0 := v0) (v1 := a8) (v2 := a10) l D cy h _) wmX9_252 wiX9_meet wsX9_meet wnX9 wcdX9_meet ⟨rfl, by decide, by decide, by decide +kernel⟩ ⟨Nat.le_trans (by decide) hRf, Nat.le_trans (by decide) hRl⟩ ⟨Nat.le_trans (by decide) hRc, Nat.le_trans (by decide) hRs⟩ hL1 hK1 (by decide) rfl rfl rfl hl.1 rfl ct_0 (by decide) dX9_gather_162) (by decide) (by decide) (fun a12 S11 H locs h B => ?_)
        refine lv_if_ne (tgt := 171) M.1 M.2.1 dX9_gather_165 (by decide) (fun c13 => ?_) (fun c13 => ?_)
        · have h := h.2 c13
          refine lv_iconst (v := 0) M.1 M.2.1 dX9_gather_171 (by decide) ?_
          refine lv_istore (lv' := [(5, .int 0), (4, .int a5), (3, .int a3), (0, va_rf v0), (1, .int v1), (2, .int v2)]) M.1 M.2.1 dX9_gather_172 hl (by decide) (fl_e (fl_i rfl (fl_k rfl rfl (fl_k rfl rfl (fl_k rfl rfl (fl_k rfl rfl fl_0)))))) (fun ls hl => ?_)
          obtain ⟨n1, h⟩ := h
          exact tX9_gather_174 M hr hlk hRf hRl hRc hRs hK113 ih n1 _ _ _ _ _ _ _ h _ _ _ B (lv_sub hl [3, 4, 5, 2, 1, 0] rfl)
        · have h := h.1 c13
          refine lv_goto (tgt := 206) M.1 M.2.1 dX9_gather_168 (by decide) ?_
          exact tX9_gather_206 M hr hlk hRf hRl hRc hRs hK113 ih _ _ _ _ h _ _ _ B (lv_sub hl [2, 3, 4] rfl)
set_option maxRecDepth 100000 in
set_option maxHeartbeats 4000000 in
theorem tX9_gather_113 {post : Pool → Prop} (M : MC p m c cX9_gather 6 s args RX9) (hr : meth.sig.returnType = none) (hlk : meth.locks = false) (hRf : 3 ≤ R.frames) (hRl : 77 ≤ R.locals) (hRc : 0 ≤ R.cells) (hRs : 0 ≤ R.slots) : ∀ (n : Nat) (v0 : Option Nat) (v1 : Int32) (S : Pool), wX9_gather_113 post n v0 v1 S → ∀ (H : Heap) (locs : List Loc) (ls : Array Slot), PB D cy A s S H locs → lv_has ls 6 [(0, va_rf v0), (1, .int v1)] → W p l e R s m args below meth c H locs 0 0 (MQ below (va_Qv post (PQ D cy A) A) args s 0 0 A) (F0 m 113 ls []) := by
  intro n
  induction n with
  | zero => intro v0 v1 S h; exact False.elim h
  | succ n ih =>
    intro v0 v1 S h H locs ls B hl
    unfold wX9_gather_113 at h
    refine lv_iload_n M.1 M.2.1 dX9_gather_113 rfl (lv_at hl 1 rfl) ?_
    refine g_aload_n M dX9_gather_114 rfl (lv_at hl 0 rfl) ?_
    refine gfX9_249 M B dX9_gather_115 h (fun a1 h => ?_)
    refine lv_icmp_ge (tgt := 218) M.1 M.2.1 dX9_gather_118 (by decide) (fun c2 => ?_) (fun c2 => ?_)
    · have h := h.1 c2
      exact g_vret M B hr hlk h (by decide) (by decide) dX9_gather_218
    · have h := h.2 c2
      refine lv_iconst (v := 0) M.1 M.2.1 dX9_gather_121 (by decide) ?_
      refine lv_istore_n (lv' := [(2, .int 0), (0, va_rf v0), (1, .int v1)]) M.1 M.2.1 dX9_gather_122 rfl hl (by decide) (fl_e (fl_k rfl rfl (fl_i rfl fl_0))) (fun ls hl => ?_)
      obtain ⟨n1, h⟩ := h
      exact tX9_gather_123 M hr hlk hRf hRl hRc hRs ih n1 _ _ _ _ h _ _ _ B (lv_sub hl [1, 2, 0] rfl)
set_option maxRecDepth 100000 in
set_option maxHeartbeats 4000000 in
theorem tX9_gather_99 {K7 : Option Nat → Int32 → Pool → Prop} {K26 : Option Nat → Int32 → Int32 → Pool → Prop} {post : Pool → Prop} (M : MC p m c cX9_gather 6 s args RX9) (hr : meth.sig.returnType = none) (hlk : meth.locks = false) (hRf : 3 ≤ R.frames) (hRl : 77 ≤ R.locals) (hRc : 0 ≤ R.cells) (hRs : 0 ≤ R.slots) (hK7 : ∀ (v0 : Option Nat) (v1 : Int32) (S : Pool), K7 v0 v1 S → ∀ (H : Heap) (locs : List Loc) (ls : Array Slot), PB D cy A s S H locs → lv_has ls 6 [(0, va_rf v0), (1, .int v1)] → W p l e R s m args below meth c H locs 0 0 (MQ below (va_Qv post (PQ D cy A) A) args s 0 0 A) (F0 m 7 ls [])) (hK26 : ∀ (v0 : Option Nat) (v1 : Int32) (v2 : Int32) (S : Pool), K26 v0 v1 v2 S → ∀ (H : Heap) (locs : List Loc) (ls : Array Slot), PB D cy A s S H locs → lv_has ls 6 [(0, va_rf v0), (1, .int v1), (2, .int v2)] → W p l e R s m args below meth c H locs 0 0 (MQ below (va_Qv post (PQ D cy A) A) args s 0 0 A) (F0 m 26 ls [])) : ∀ (v0 : Option Nat) (v1 : Int32) (v2 : Int32) (S : Pool), wX9_gather_99 K7 K26 post v0 v1 v2 S → ∀ (H : Heap) (locs : List Loc) (ls : Array Slot), PB D cy A s S H locs → lv_has ls 6 [(0, va_rf v0), (1, .int v1), (2, .int v2)] → W p l e R s m args below meth c H locs 0 0 (MQ below (va_Qv post (PQ D cy A) A) args s 0 0 A) (F0 m 99 ls []) := by
  intro v0 v1 v2 S h H locs ls B hl
  unfold wX9_gather_99 at h
  refine lv_iinc (v := v2 + 1) (lv' := [(2, .int (v2 + 1)), (0, va_rf v0), (1, .int v1)]) M.1 M.2.1 dX9_gather_99 hl (k := 2) rfl (by rfl) (by decide) (fl_e (fl_k rfl rfl (fl_i rfl (fl_d rfl fl_0)))) (fun ls hl => ?_)
  refine lv_goto (tgt := 26) M.1 M.2.1 dX9_gather_102 (by decide) ?_
  exact hK26 _ _ _ _ h _ _ _ B (lv_sub hl [1, 2, 0] rfl)
set_option maxRecDepth 100000 in
set_option maxHeartbeats 4000000 in
theorem tX9_gather_26 {K7 : Option Nat → Int32 → Pool → Prop} {post : Pool → Prop} (M : MC p m c cX9_gather 6 s args RX9) (hr : meth.sig.returnType = none) (hlk : meth.locks = false) (hRf : 3 ≤ R.frames) (hRl : 77 ≤ R.locals) (hRc : 0 ≤ R.cells) (hRs : 0 ≤ R.slots) (hK7 : ∀ (v0 : Option Nat) (v1 : Int32) (S : Pool), K7 v0 v1 S → ∀ (H : Heap) (locs : List Loc) (ls : Array Slot), PB D cy A s S H locs → lv_has ls 6 [(0, va_rf v0), (1, .int v1)] → W p l e R s m args below meth c H locs 0 0 (MQ below (va_Qv post (PQ D cy A) A) args s 0 0 A) (F0 m 7 ls [])) : ∀ (n : Nat) (v0 : Option Nat) (v1 : Int32) (v2 : Int32) (S : Pool), wX9_gather_26 K7 post n v0 v1 v2 S → ∀ (H : Heap) (locs : List Loc) (ls : Array Slot), PB D cy A s S H locs → lv_has ls 6 [(0, va_rf v0), (1, .int v1), (2, .int v2)] → W p l e R s m args below meth c H locs 0 0 (MQ below (va_Qv post (PQ D cy A) A) args s 0 0 A) (F0 m 26 ls []) := by
  intro n
  induction n with
  | zero => intro v0 v1 v2 S h; exact False.elim h
  | succ n ih =>
    intro v0 v1 v2 S h H locs ls B hl
    unfold wX9_gather_26 at h
    refine lv_iload_n M.1 M.2.1 dX9_gather_26 rfl (lv_at hl 2 rfl) ?_
    refine g_aload_n M dX9_gather_27 rfl (lv_at hl 0 rfl) ?_
    refine gfX9_212 M B dX9_gather_28 h (fun a1 h => ?_)
    refine lv_icmp_ge (tgt := 105) M.1 M.2.1 dX9_gather_31 (by decide) (fun c2 => ?_) (fun c2 => ?_)
    · have h := h.1 c2
      refine lv_iinc (v := v1 + 1) (lv' := [(1, .int (v1 + 1)), (0, va_rf v0), (2, .int v2)]) M.1 M.2.1 dX9_gather_105 hl (k := 1) rfl (by rfl) (by decide) (fl_e (fl_r rfl (fl_d rfl (fl_k rfl rfl fl_0)))) (fun ls hl => ?_)
      refine lv_goto (tgt := 7) M.1 M.2.1 dX9_gather_108 (by decide) ?_
      exact hK7 _ _ _ h _ _ _ B (lv_sub hl [1, 0] rfl)
    · have h := h.2 c2
      refine g_aload_n M dX9_gather_34 rfl (lv_at hl 0 rfl) ?_
      refine lv_iload_n M.1 M.2.1 dX9_gather_35 rfl (lv_at hl 1 rfl) ?_
      refine g_aload_n M dX9_gather_36 rfl (lv_at hl 0 rfl) ?_
      refine gfX9_87 M B dX9_gather_37 h (fun a3 h => ?_)
      refine lv_iload_n M.1 M.2.1 dX9_gather_40 rfl (lv_at hl 2 rfl) ?_
      refine g_iald M B dX9_gather_41 h (fun a4 h => ?_)
      obtain ⟨o1, e1, hL1, hK1, h⟩ := h
      refine g_calli (k1 := 0) (k2 := 0) B (g_runV (n := 2) (As := [.int v1, .int a4]) (rm := rmX9_isExempt) M B e1 (kX9_isExempt (v0 := v0) (v1 := v1) (v2 := a4) l D cy h _) wmX9_246 wiX9_isExempt wsX9_isExempt wnX9 wcdX9_isExempt ⟨rfl, by decide, by decide, by decide +kernel⟩ ⟨Nat.le_trans (by decide) hRf, Nat.le_trans (by decide) hRl⟩ ⟨Nat.le_trans (by decide) hRc, Nat.le_trans (by decide) hRs⟩ hL1 hK1 (by decide) rfl rfl rfl hl.1 rfl ct_0 (by decide) dX9_gather_42) (by decide) (by decide) (fun a6 S5 H locs h B => ?_)
      refine lv_if_eq (tgt := 51) M.1 M.2.1 dX9_gather_45 (by decide) (fun c7 => ?_) (fun c7 => ?_)
      · have h := h.1 c7
        refine g_aload_n M dX9_gather_51 rfl (lv_at hl 0 rfl) ?_
        refine gfX9_90 M B dX9_gather_52 h (fun a8 h => ?_)
        refine g_aload_n M dX9_gather_55 rfl (lv_at hl 0 rfl) ?_
        refine gfX9_249 M B dX9_gather_56 h (fun a9 h => ?_)
        refine lv_iload_n M.1 M.2.1 dX9_gather_59 rfl (lv_at hl 1 rfl) ?_
        refine g_iast M B dX9_gather_60 h (fun S10 H locs h B => ?_)
        refine g_aload_n M dX9_gather_61 rfl (lv_at hl 0 rfl) ?_
        refine gfX9_93 M B dX9_gather_62 h (fun a11 h => ?_)
        refine g_aload_n M dX9_gather_65 rfl (lv_at hl 0 rfl) ?_
        refine gfX9_249 M B dX9_gather_66 h (fun a12 h => ?_)
        refine g_aload_n M dX9_gather_69 rfl (lv_at hl 0 rfl) ?_
        refine gfX9_87 M B dX9_gather_70 h (fun a13 h => ?_)
        refine lv_iload_n M.1 M.2.1 dX9_gather_73 rfl (lv_at hl 2 rfl) ?_
        refine g_iald M B dX9_gather_74 h (fun a14 h => ?_)
        refine g_iast M B dX9_gather_75 h (fun S15 H locs h B => ?_)
        refine g_aload_n M dX9_gather_76 rfl (lv_at hl 0 rfl) ?_
        refine gfX9_96 M B dX9_gather_77 h (fun a16 h => ?_)
        refine g_aload_n M dX9_gather_80 rfl (lv_at hl 0 rfl) ?_
        refine gfX9_249 M B dX9_gather_81 h (fun a17 h => ?_)
        refine g_aload_n M dX9_gather_84 rfl (lv_at hl 0 rfl) ?_
        refine gfX9_249 M B dX9_gather_85 h (fun a18 h => ?_)
        refine g_iast M B dX9_gather_88 h (fun S19 H locs h B => ?_)
        refine g_aload_n M dX9_gather_89 rfl (lv_at hl 0 rfl) ?_
        refine lv_dup M.1 M.2.1 dX9_gather_90 (rf_cat _) ?_
        refine gfX9_249 M B dX9_gather_91 h (fun a20 h => ?_)
        refine lv_iconst (v := 1) M.1 M.2.1 dX9_gather_94 (by decide) ?_
        refine lv_iadd M.1 M.2.1 dX9_gather_95 ?_
        refine gpX9_249 M B dX9_gather_96 h (fun S21 H locs h B => ?_)
        exact tX9_gather_99 M hr hlk hRf hRl hRc hRs hK7 ih _ _ _ _ h _ _ _ B (lv_sub hl [0, 1, 2] rfl)
      · have h := h.2 c7
        refine lv_goto (tgt := 99) M.1 M.2.1 dX9_gather_48 (by decide) ?_
        exact tX9_gather_99 M hr hlk hRf hRl hRc hRs hK7 ih _ _ _ _ h _ _ _ B (lv_sub hl [0, 1, 2] rfl)
set_option maxRecDepth 100000 in
set_option maxHeartbeats 4000000 in
theorem tX9_gather_7 {post : Pool → Prop} (M : MC p m c cX9_gather 6 s args RX9) (hr : meth.sig.returnType = none) (hlk : meth.locks = false) (hRf : 3 ≤ R.frames) (hRl : 77 ≤ R.locals) (hRc : 0 ≤ R.cells) (hRs : 0 ≤ R.slots) : ∀ (n : Nat) (v0 : Option Nat) (v1 : Int32) (S : Pool), wX9_gather_7 post n v0 v1 S → ∀ (H : Heap) (locs : List Loc) (ls : Array Slot), PB D cy A s S H locs → lv_has ls 6 [(0, va_rf v0), (1, .int v1)] → W p l e R s m args below meth c H locs 0 0 (MQ below (va_Qv post (PQ D cy A) A) args s 0 0 A) (F0 m 7 ls []) := by
  intro n
  induction n with
  | zero => intro v0 v1 S h; exact False.elim h
  | succ n ih =>
    intro v0 v1 S h H locs ls B hl
    unfold wX9_gather_7 at h
    refine lv_iload_n M.1 M.2.1 dX9_gather_7 rfl (lv_at hl 1 rfl) ?_
    refine g_aload_n M dX9_gather_8 rfl (lv_at hl 0 rfl) ?_
    refine gfX9_102 M B dX9_gather_9 h (fun a1 h => ?_)
    refine lv_icmp_ge (tgt := 111) M.1 M.2.1 dX9_gather_12 (by decide) (fun c2 => ?_) (fun c2 => ?_)
    · have h := h.1 c2
      refine lv_iconst (v := 0) M.1 M.2.1 dX9_gather_111 (by decide) ?_
      refine lv_istore_n (lv' := [(1, .int 0), (0, va_rf v0)]) M.1 M.2.1 dX9_gather_112 rfl hl (by decide) (fl_e (fl_r rfl (fl_d rfl fl_0))) (fun ls hl => ?_)
      obtain ⟨n1, h⟩ := h
      exact tX9_gather_113 M hr hlk hRf hRl hRc hRs n1 _ _ _ h _ _ _ B (lv_sub hl [1, 0] rfl)
    · have h := h.2 c2
      refine g_aload_n M dX9_gather_15 rfl (lv_at hl 0 rfl) ?_
      refine lv_iload_n M.1 M.2.1 dX9_gather_16 rfl (lv_at hl 1 rfl) ?_
      refine g_aload_n M dX9_gather_17 rfl (lv_at hl 0 rfl) ?_
      refine gfX9_120 M B dX9_gather_18 h (fun a3 h => ?_)
      obtain ⟨o1, e1, hL1, hK1, h⟩ := h
      refine g_callv (k1 := 0) (k2 := 0) B (g_runV (n := 2) (As := [.int v1, .int a3]) (rm := rmX9_work) M B e1 (kX9_work (v0 := v0) (v1 := v1) (v2 := a3) l D cy h _) wmX9_236 wiX9_work wsX9_work wnX9 wcdX9_work ⟨rfl, by decide, by decide, by decide +kernel⟩ ⟨Nat.le_trans (by decide) hRf, Nat.le_trans (by decide) hRl⟩ ⟨Nat.le_trans (by decide) hRc, Nat.le_trans (by decide) hRs⟩ hL1 hK1 (by decide) rfl rfl rfl hl.1 rfl ct_0 (by decide) dX9_gather_21) (by decide) (by decide) (fun S4 H locs h B => ?_)
      refine lv_iconst (v := 0) M.1 M.2.1 dX9_gather_24 (by decide) ?_
      refine lv_istore_n (lv' := [(2, .int 0), (0, va_rf v0), (1, .int v1)]) M.1 M.2.1 dX9_gather_25 rfl hl (by decide) (fl_e (fl_k rfl rfl (fl_i rfl fl_0))) (fun ls hl => ?_)
      obtain ⟨n1, h⟩ := h
      exact tX9_gather_26 M hr hlk hRf hRl hRc hRs ih n1 _ _ _ _ h _ _ _ B (lv_sub hl [1, 2, 0] rfl)
set_option maxRecDepth 100000 in
set_option maxHeartbeats 4000000 in
theorem tX9_gather {post : Pool → Prop} (M : MC p m c cX9_gather 6 s args RX9) (hr : meth.sig.returnType = none) (hlk : meth.locks = false) (hRf : 3 ≤ R.frames) (hRl : 77 ≤ R.locals) (hRc : 0 ≤ R.cells) (hRs : 0 ≤ R.slots) : ∀ (v0 : Option Nat) (S : Pool), wX9_gather post v0 S → ∀ (H : Heap) (locs : List Loc) (ls : Array Slot), PB D cy A s S H locs → lv_has ls 6 [(0, va_rf v0)] → W p l e R s m args below meth c H locs 0 0 (MQ below (va_Qv post (PQ D cy A) A) args s 0 0 A) (F0 m 0 ls []) := by
  intro v0 S h H locs ls B hl
  unfold wX9_gather at h
  refine g_aload_n M dX9_gather_0 rfl (lv_at hl 0 rfl) ?_
  refine lv_iconst (v := 0) M.1 M.2.1 dX9_gather_1 (by decide) ?_
  refine gpX9_249 M B dX9_gather_2 h (fun S1 H locs h B => ?_)
  refine lv_iconst (v := 0) M.1 M.2.1 dX9_gather_5 (by decide) ?_
  refine lv_istore_n (lv' := [(1, .int 0), (0, va_rf v0)]) M.1 M.2.1 dX9_gather_6 rfl hl (by decide) (fl_e (fl_r rfl fl_0)) (fun ls hl => ?_)
  obtain ⟨n1, h⟩ := h
  exact tX9_gather_7 M hr hlk hRf hRl hRc hRs n1 _ _ _ h _ _ _ B (lv_sub hl [1, 0] rfl)
end
set_option maxRecDepth 100000 in
set_option maxHeartbeats 4000000 in
theorem kX9_gather (l : Launch) (D : va_G) (cy : Nat → ClassId) {post : Pool → Prop} {v0 : Option Nat} {S : Pool} (h : wX9_gather post v0 S) : MetV l yX9_gather cX9_gather 6 rmX9_gather [va_rf v0] D cy S post := by
  intro sz
  refine Met.ofW (cc := cX9_gather) (maxL := 6) (ret := none) (by decide) rfl ?_
  intro p e s m args below meth c s₁ B0 hml hv
  obtain ⟨rfl, hpp⟩ := hv
  have hts := atoms_spec (ws := .code yX9_gather cX9_gather 6 none :: Gw) B0.pre
  obtain rfl : s.heap.size = sz := hpp.1
  have hl := lv_entry [va_rf v0] (n := 6) (by rw [sl_r, sl_0]; decide)
  rw [lg_entry_eq]
  rw [la_r, la_0] at hl
  exact tX9_gather (l := l) (R := rmX9_gather) ⟨B0.exec, B0.bytes, hml, findClass_of_methodNamed B0.named, fun w hw => hts w (List.mem_cons_of_mem _ hw)⟩ B0.returns B0.notSynchronized (Nat.le_refl _) (Nat.le_refl _) (Nat.le_refl _) (Nat.le_refl _) _ _ h _ _ _ hpp.pb (lv_sub hl [0] rfl)
-- X9_cases: LogHuntModel.cases()I
def wX9_cases_74 (K13 : Option Nat → Int32 → Int32 → Pool → Prop) (post : Int32 → Pool → Prop) (v0 : Option Nat) (v2 : Int32) (z0 : Int32) (z1 : Int32) (S : Pool) : Prop := K13 v0 (z1 + z0) (v2 + 1) S
def wX9_cases_57 (K13 : Option Nat → Int32 → Int32 → Pool → Prop) (K26 : Option Nat → Int32 → Int32 → Int32 → Int32 → Pool → Prop) (post : Int32 → Pool → Prop) (v0 : Option Nat) (v1 : Int32) (v2 : Int32) (v4 : Int32) (z0 : Int32) (S : Pool) : Prop := K26 v0 v1 v2 z0 (v4 + 1) S
def wX9_cases_56 (K13 : Option Nat → Int32 → Int32 → Pool → Prop) (K26 : Option Nat → Int32 → Int32 → Int32 → Int32 → Pool → Prop) (post : Int32 → Pool → Prop) (v0 : Option Nat) (v1 : Int32) (v2 : Int32) (v4 : Int32) (S : Pool) : Prop := wX9_cases_57 K13 K26 post v0 v1 v2 v4 0 S
def wX9_cases_26 (K13 : Option Nat → Int32 → Int32 → Pool → Prop) (post : Int32 → Pool → Prop) : Nat → Option Nat → Int32 → Int32 → Int32 → Int32 → Pool → Prop
  | 0 => fun _ _ _ _ _ _ => False
  | n + 1 => fun v0 v1 v2 v3 v4 S => br (v2 ≤ v4) (br (v3 = 0) (wX9_cases_74 K13 post v0 v2 0 v1 S) (wX9_cases_74 K13 post v0 v2 1 v1 S)) (br (v3 = 0) (wX9_cases_56 K13 (wX9_cases_26 K13 post n) post v0 v1 v2 v4 S) (xR S v0 9 41 fun a4 => xaI S a4 10 v4 fun a5 => xR S v0 9 41 fun a6 => xaI S a6 10 v2 fun a7 => br (a5 = a7) (wX9_cases_56 K13 (wX9_cases_26 K13 post n) post v0 v1 v2 v4 S) (wX9_cases_57 K13 (wX9_cases_26 K13 post n) post v0 v1 v2 v4 1 S)))
def wX9_cases_13 (post : Int32 → Pool → Prop) : Nat → Option Nat → Int32 → Int32 → Pool → Prop
  | 0 => fun _ _ _ _ => False
  | n + 1 => fun v0 v1 v2 S => xI S v0 9 38 fun a1 => br (a1 ≤ v2) (post v1 S) (∃ n1, wX9_cases_26 (wX9_cases_13 post n) post n1 v0 v1 v2 1 0 S)
def wX9_cases (post : Int32 → Pool → Prop) (v0 : Option Nat) (S : Pool) : Prop := xpI S v0 9 0 0 fun S1 => xrc S1 v0 9 (wX9_gather (fun S2 => ∃ n1, wX9_cases_13 post n1 v0 0 0 S2) v0 S1)
def rmX9_cases : Room := { frames := 4, cells := 0, slots := 0, locals := 102 }
section
variable {p : Program} {l : Launch} {e : Env} {R : Room} {s : State} {m : MethodId} {args : Array Value} {below : List Frame} {meth : Method} {c : Code} {D : va_G} {cy : Nat → ClassId} {A : Nat → Prop}
set_option maxRecDepth 100000 in
set_option maxHeartbeats 4000000 in
theorem tX9_cases_74 {K13 : Option Nat → Int32 → Int32 → Pool → Prop} {post : Int32 → Pool → Prop} (M : MC p m c cX9_cases 5 s args RX9) (hr : meth.sig.returnType = (some FieldType.int)) (hlk : meth.locks = false) (hRf : 4 ≤ R.frames) (hRl : 102 ≤ R.locals) (hRc : 0 ≤ R.cells) (hRs : 0 ≤ R.slots) (hK13 : ∀ (v0 : Option Nat) (v1 : Int32) (v2 : Int32) (S : Pool), K13 v0 v1 v2 S → ∀ (H : Heap) (locs : List Loc) (ls : Array Slot), PB D cy A s S H locs → lv_has ls 5 [(0, va_rf v0), (1, .int v1), (2, .int v2)] → W p l e R s m args below meth c H locs 0 0 (MQ below (va_Qi post (PQ D cy A) A) args s 0 0 A) (F0 m 13 ls [])) : ∀ (v0 : Option Nat) (v2 : Int32) (z0 : Int32) (z1 : Int32) (S : Pool), wX9_cases_74 K13 post v0 v2 z0 z1 S → ∀ (H : Heap) (locs : List Loc) (ls : Array Slot), PB D cy A s S H locs → lv_has ls 5 [(0, va_rf v0), (2, .int v2)] → W p l e R s m args below meth c H locs 0 0 (MQ below (va_Qi post (PQ D cy A) A) args s 0 0 A) (F0 m 74 ls [.int z0, .int z1]) := by
  intro v0 v2 z0 z1 S h H locs ls B hl
  unfold wX9_cases_74 at h
  refine lv_iadd M.1 M.2.1 dX9_cases_74 ?_
  refine lv_istore_n (lv' := [(1, .int (z1 + z0)), (0, va_rf v0), (2, .int v2)]) M.1 M.2.1 dX9_cases_75 rfl hl (by decide) (fl_e (fl_r rfl (fl_k rfl rfl fl_0))) (fun ls hl => ?_)
  refine lv_iinc (v := v2 + 1) (lv' := [(2, .int (v2 + 1)), (1, .int (z1 + z0)), (0, va_rf v0)]) M.1 M.2.1 dX9_cases_76 hl (k := 2) rfl (by rfl) (by decide) (fl_e (fl_i rfl (fl_k rfl rfl (fl_d rfl fl_0)))) (fun ls hl => ?_)
  refine lv_goto (tgt := 13) M.1 M.2.1 dX9_cases_79 (by decide) ?_
  exact hK13 _ _ _ _ h _ _ _ B (lv_sub hl [2, 1, 0] rfl)
set_option maxRecDepth 100000 in
set_option maxHeartbeats 4000000 in
theorem tX9_cases_57 {K13 : Option Nat → Int32 → Int32 → Pool → Prop} {K26 : Option Nat → Int32 → Int32 → Int32 → Int32 → Pool → Prop} {post : Int32 → Pool → Prop} (M : MC p m c cX9_cases 5 s args RX9) (hr : meth.sig.returnType = (some FieldType.int)) (hlk : meth.locks = false) (hRf : 4 ≤ R.frames) (hRl : 102 ≤ R.locals) (hRc : 0 ≤ R.cells) (hRs : 0 ≤ R.slots) (hK13 : ∀ (v0 : Option Nat) (v1 : Int32) (v2 : Int32) (S : Pool), K13 v0 v1 v2 S → ∀ (H : Heap) (locs : List Loc) (ls : Array Slot), PB D cy A s S H locs → lv_has ls 5 [(0, va_rf v0), (1, .int v1), (2, .int v2)] → W p l e R s m args below meth c H locs 0 0 (MQ below (va_Qi post (PQ D cy A) A) args s 0 0 A) (F0 m 13 ls [])) (hK26 : ∀ (v0 : Option Nat) (v1 : Int32) (v2 : Int32) (v3 : Int32) (v4 : Int32) (S : Pool), K26 v0 v1 v2 v3 v4 S → ∀ (H : Heap) (locs : List Loc) (ls : Array Slot), PB D cy A s S H locs → lv_has ls 5 [(0, va_rf v0), (1, .int v1), (2, .int v2), (3, .int v3), (4, .int v4)] → W p l e R s m args below meth c H locs 0 0 (MQ below (va_Qi post (PQ D cy A) A) args s 0 0 A) (F0 m 26 ls [])) : ∀ (v0 : Option Nat) (v1 : Int32) (v2 : Int32) (v4 : Int32) (z0 : Int32) (S : Pool), wX9_cases_57 K13 K26 post v0 v1 v2 v4 z0 S → ∀ (H : Heap) (locs : List Loc) (ls : Array Slot), PB D cy A s S H locs → lv_has ls 5 [(0, va_rf v0), (1, .int v1), (2, .int v2), (4, .int v4)] → W p l e R s m args below meth c H locs 0 0 (MQ below (va_Qi post (PQ D cy A) A) args s 0 0 A) (F0 m 57 ls [.int z0]) := by
  intro v0 v1 v2 v4 z0 S h H locs ls B hl
  unfold wX9_cases_57 at h
  refine lv_istore_n (lv' := [(3, .int z0), (0, va_rf v0), (1, .int v1), (2, .int v2), (4, .int v4)]) M.1 M.2.1 dX9_cases_57 rfl hl (by decide) (fl_e (fl_k rfl rfl (fl_k rfl rfl (fl_i rfl (fl_k rfl rfl fl_0))))) (fun ls hl => ?_)
  refine lv_iinc (v := v4 + 1) (lv' := [(4, .int (v4 + 1)), (3, .int z0), (0, va_rf v0), (1, .int v1), (2, .int v2)]) M.1 M.2.1 dX9_cases_58 hl (k := 4) rfl (by rfl) (by decide) (fl_e (fl_i rfl (fl_k rfl rfl (fl_k rfl rfl (fl_k rfl rfl (fl_d rfl fl_0)))))) (fun ls hl => ?_)
  refine lv_goto (tgt := 26) M.1 M.2.1 dX9_cases_61 (by decide) ?_
  exact hK26 _ _ _ _ _ _ h _ _ _ B (lv_sub hl [2, 3, 4, 1, 0] rfl)
set_option maxRecDepth 100000 in
set_option maxHeartbeats 4000000 in
theorem tX9_cases_56 {K13 : Option Nat → Int32 → Int32 → Pool → Prop} {K26 : Option Nat → Int32 → Int32 → Int32 → Int32 → Pool → Prop} {post : Int32 → Pool → Prop} (M : MC p m c cX9_cases 5 s args RX9) (hr : meth.sig.returnType = (some FieldType.int)) (hlk : meth.locks = false) (hRf : 4 ≤ R.frames) (hRl : 102 ≤ R.locals) (hRc : 0 ≤ R.cells) (hRs : 0 ≤ R.slots) (hK13 : ∀ (v0 : Option Nat) (v1 : Int32) (v2 : Int32) (S : Pool), K13 v0 v1 v2 S → ∀ (H : Heap) (locs : List Loc) (ls : Array Slot), PB D cy A s S H locs → lv_has ls 5 [(0, va_rf v0), (1, .int v1), (2, .int v2)] → W p l e R s m args below meth c H locs 0 0 (MQ below (va_Qi post (PQ D cy A) A) args s 0 0 A) (F0 m 13 ls [])) (hK26 : ∀ (v0 : Option Nat) (v1 : Int32) (v2 : Int32) (v3 : Int32) (v4 : Int32) (S : Pool), K26 v0 v1 v2 v3 v4 S → ∀ (H : Heap) (locs : List Loc) (ls : Array Slot), PB D cy A s S H locs → lv_has ls 5 [(0, va_rf v0), (1, .int v1), (2, .int v2), (3, .int v3), (4, .int v4)] → W p l e R s m args below meth c H locs 0 0 (MQ below (va_Qi post (PQ D cy A) A) args s 0 0 A) (F0 m 26 ls [])) : ∀ (v0 : Option Nat) (v1 : Int32) (v2 : Int32) (v4 : Int32) (S : Pool), wX9_cases_56 K13 K26 post v0 v1 v2 v4 S → ∀ (H : Heap) (locs : List Loc) (ls : Array Slot), PB D cy A s S H locs → lv_has ls 5 [(0, va_rf v0), (1, .int v1), (2, .int v2), (4, .int v4)] → W p l e R s m args below meth c H locs 0 0 (MQ below (va_Qi post (PQ D cy A) A) args s 0 0 A) (F0 m 56 ls []) := by
  intro v0 v1 v2 v4 S h H locs ls B hl
  unfold wX9_cases_56 at h
  refine lv_iconst (v := 0) M.1 M.2.1 dX9_cases_56 (by decide) ?_
  exact tX9_cases_57 M hr hlk hRf hRl hRc hRs hK13 hK26 _ _ _ _ _ _ h _ _ _ B (lv_sub hl [0, 1, 2, 3] rfl)
set_option maxRecDepth 100000 in
set_option maxHeartbeats 4000000 in
theorem tX9_cases_26 {K13 : Option Nat → Int32 → Int32 → Pool → Prop} {post : Int32 → Pool → Prop} (M : MC p m c cX9_cases 5 s args RX9) (hr : meth.sig.returnType = (some FieldType.int)) (hlk : meth.locks = false) (hRf : 4 ≤ R.frames) (hRl : 102 ≤ R.locals) (hRc : 0 ≤ R.cells) (hRs : 0 ≤ R.slots) (hK13 : ∀ (v0 : Option Nat) (v1 : Int32) (v2 : Int32) (S : Pool), K13 v0 v1 v2 S → ∀ (H : Heap) (locs : List Loc) (ls : Array Slot), PB D cy A s S H locs → lv_has ls 5 [(0, va_rf v0), (1, .int v1), (2, .int v2)] → W p l e R s m args below meth c H locs 0 0 (MQ below (va_Qi post (PQ D cy A) A) args s 0 0 A) (F0 m 13 ls [])) : ∀ (n : Nat) (v0 : Option Nat) (v1 : Int32) (v2 : Int32) (v3 : Int32) (v4 : Int32) (S : Pool), wX9_cases_26 K13 post n v0 v1 v2 v3 v4 S → ∀ (H : Heap) (locs : List Loc) (ls : Array Slot), PB D cy A s S H locs → lv_has ls 5 [(0, va_rf v0), (1, .int v1), (2, .int v2), (3, .int v3), (4, .int v4)] → W p l e R s m args below meth c H locs 0 0 (MQ below (va_Qi post (PQ D cy A) A) args s 0 0 A) (F0 m 26 ls []) := by
  intro n
  induction n with
  | zero => intro v0 v1 v2 v3 v4 S h; exact False.elim h
  | succ n ih =>
    intro v0 v1 v2 v3 v4 S h H locs ls B hl
    unfold wX9_cases_26 at h
    refine lv_iload M.1 M.2.1 dX9_cases_26 (lv_at hl 4 rfl) ?_
    refine lv_iload_n M.1 M.2.1 dX9_cases_28 rfl (lv_at hl 2 rfl) ?_
    refine lv_icmp_ge (tgt := 64) M.1 M.2.1 dX9_cases_29 (by decide) (fun c1 => ?_) (fun c1 => ?_)
    · have h := h.1 c1
      refine lv_iload_n M.1 M.2.1 dX9_cases_64 rfl (lv_at hl 1 rfl) ?_
      refine lv_iload_n M.1 M.2.1 dX9_cases_65 rfl (lv_at hl 3 rfl) ?_
      refine lv_if_eq (tgt := 73) M.1 M.2.1 dX9_cases_66 (by decide) (fun c2 => ?_) (fun c2 => ?_)
      · have h := h.1 c2
        refine lv_iconst (v := 0) M.1 M.2.1 dX9_cases_73 (by decide) ?_
        exact tX9_cases_74 M hr hlk hRf hRl hRc hRs hK13 _ _ _ _ _ h _ _ _ B (lv_sub hl [0, 2] rfl)
      · have h := h.2 c2
        refine lv_iconst (v := 1) M.1 M.2.1 dX9_cases_69 (by decide) ?_
        refine lv_goto (tgt := 74) M.1 M.2.1 dX9_cases_70 (by decide) ?_
        exact tX9_cases_74 M hr hlk hRf hRl hRc hRs hK13 _ _ _ _ _ h _ _ _ B (lv_sub hl [0, 2] rfl)
    · have h := h.2 c1
      refine lv_iload_n M.1 M.2.1 dX9_cases_32 rfl (lv_at hl 3 rfl) ?_
      refine lv_if_eq (tgt := 56) M.1 M.2.1 dX9_cases_33 (by decide) (fun c3 => ?_) (fun c3 => ?_)
      · have h := h.1 c3
        exact tX9_cases_56 M hr hlk hRf hRl hRc hRs hK13 ih _ _ _ _ _ h _ _ _ B (lv_sub hl [0, 1, 2, 4] rfl)
      · have h := h.2 c3
        refine g_aload_n M dX9_cases_36 rfl (lv_at hl 0 rfl) ?_
        refine gfX9_96 M B dX9_cases_37 h (fun a4 h => ?_)
        refine lv_iload M.1 M.2.1 dX9_cases_40 (lv_at hl 4 rfl) ?_
        refine g_iald M B dX9_cases_42 h (fun a5 h => ?_)
        refine g_aload_n M dX9_cases_43 rfl (lv_at hl 0 rfl) ?_
        refine gfX9_96 M B dX9_cases_44 h (fun a6 h => ?_)
        refine lv_iload_n M.1 M.2.1 dX9_cases_47 rfl (lv_at hl 2 rfl) ?_
        refine g_iald M B dX9_cases_48 h (fun a7 h => ?_)
        refine lv_icmp_eq (tgt := 56) M.1 M.2.1 dX9_cases_49 (by decide) (fun c8 => ?_) (fun c8 => ?_)
        · have h := h.1 c8
          exact tX9_cases_56 M hr hlk hRf hRl hRc hRs hK13 ih _ _ _ _ _ h _ _ _ B (lv_sub hl [0, 1, 2, 4] rfl)
        · have h := h.2 c8
          refine lv_iconst (v := 1) M.1 M.2.1 dX9_cases_52 (by decide) ?_
          refine lv_goto (tgt := 57) M.1 M.2.1 dX9_cases_53 (by decide) ?_
          exact tX9_cases_57 M hr hlk hRf hRl hRc hRs hK13 ih _ _ _ _ _ _ h _ _ _ B (lv_sub hl [0, 1, 2, 4] rfl)
set_option maxRecDepth 100000 in
set_option maxHeartbeats 4000000 in
theorem tX9_cases_13 {post : Int32 → Pool → Prop} (M : MC p m c cX9_cases 5 s args RX9) (hr : meth.sig.returnType = (some FieldType.int)) (hlk : meth.locks = false) (hRf : 4 ≤ R.frames) (hRl : 102 ≤ R.locals) (hRc : 0 ≤ R.cells) (hRs : 0 ≤ R.slots) : ∀ (n : Nat) (v0 : Option Nat) (v1 : Int32) (v2 : Int32) (S : Pool), wX9_cases_13 post n v0 v1 v2 S → ∀ (H : Heap) (locs : List Loc) (ls : Array Slot), PB D cy A s S H locs → lv_has ls 5 [(0, va_rf v0), (1, .int v1), (2, .int v2)] → W p l e R s m args below meth c H locs 0 0 (MQ below (va_Qi post (PQ D cy A) A) args s 0 0 A) (F0 m 13 ls []) := by
  intro n
  induction n with
  | zero => intro v0 v1 v2 S h; exact False.elim h
  | succ n ih =>
    intro v0 v1 v2 S h H locs ls B hl
    unfold wX9_cases_13 at h
    refine lv_iload_n M.1 M.2.1 dX9_cases_13 rfl (lv_at hl 2 rfl) ?_
    refine g_aload_n M dX9_cases_14 rfl (lv_at hl 0 rfl) ?_
    refine gfX9_249 M B dX9_cases_15 h (fun a1 h => ?_)
    refine lv_icmp_ge (tgt := 82) M.1 M.2.1 dX9_cases_18 (by decide) (fun c2 => ?_) (fun c2 => ?_)
    · have h := h.1 c2
      refine lv_iload_n M.1 M.2.1 dX9_cases_82 rfl (lv_at hl 1 rfl) ?_
      exact g_iret M B hr hlk h (by decide) (by decide) dX9_cases_83
    · have h := h.2 c2
      refine lv_iconst (v := 1) M.1 M.2.1 dX9_cases_21 (by decide) ?_
      refine lv_istore_n (lv' := [(3, .int 1), (0, va_rf v0), (1, .int v1), (2, .int v2)]) M.1 M.2.1 dX9_cases_22 rfl hl (by decide) (fl_e (fl_k rfl rfl (fl_k rfl rfl (fl_i rfl fl_0)))) (fun ls hl => ?_)
      refine lv_iconst (v := 0) M.1 M.2.1 dX9_cases_23 (by decide) ?_
      refine lv_istore (lv' := [(4, .int 0), (3, .int 1), (0, va_rf v0), (1, .int v1), (2, .int v2)]) M.1 M.2.1 dX9_cases_24 hl (by decide) (fl_e (fl_i rfl (fl_k rfl rfl (fl_k rfl rfl (fl_k rfl rfl fl_0))))) (fun ls hl => ?_)
      obtain ⟨n1, h⟩ := h
      exact tX9_cases_26 M hr hlk hRf hRl hRc hRs ih n1 _ _ _ _ _ _ h _ _ _ B (lv_sub hl [2, 3, 4, 1, 0] rfl)
set_option maxRecDepth 100000 in
set_option maxHeartbeats 4000000 in
theorem tX9_cases {post : Int32 → Pool → Prop} (M : MC p m c cX9_cases 5 s args RX9) (hr : meth.sig.returnType = (some FieldType.int)) (hlk : meth.locks = false) (hRf : 4 ≤ R.frames) (hRl : 102 ≤ R.locals) (hRc : 0 ≤ R.cells) (hRs : 0 ≤ R.slots) : ∀ (v0 : Option Nat) (S : Pool), wX9_cases post v0 S → ∀ (H : Heap) (locs : List Loc) (ls : Array Slot), PB D cy A s S H locs → lv_has ls 5 [(0, va_rf v0)] → W p l e R s m args below meth c H locs 0 0 (MQ below (va_Qi post (PQ D cy A) A) args s 0 0 A) (F0 m 0 ls []) := by
  intro v0 S h H locs ls B hl
  unfold wX9_cases at h
  refine g_aload_n M dX9_cases_0 rfl (lv_at hl 0 rfl) ?_
  refine lv_iconst (v := 0) M.1 M.2.1 dX9_cases_1 (by decide) ?_
  refine gpX9_99 M B dX9_cases_2 h (fun S1 H locs h B => ?_)
  refine g_aload_n M dX9_cases_5 rfl (lv_at hl 0 rfl) ?_
  obtain ⟨o1, e1, hL1, hK1, h⟩ := h
  refine g_callv (k1 := 0) (k2 := 0) B (g_runV (n := 0) (As := []) (rm := rmX9_gather) M B e1 (kX9_gather (v0 := v0) l D cy h _) wmX9_255 wiX9_gather wsX9_gather wnX9 wcdX9_gather ⟨rfl, by decide, by decide, by decide +kernel⟩ ⟨Nat.le_trans (by decide) hRf, Nat.le_trans (by decide) hRl⟩ ⟨Nat.le_trans (by decide) hRc, Nat.le_trans (by decide) hRs⟩ hL1 hK1 (by decide) rfl rfl rfl hl.1 rfl ct_0 (by decide) dX9_cases_6) (by decide) (by decide) (fun S2 H locs h B => ?_)
  refine lv_iconst (v := 0) M.1 M.2.1 dX9_cases_9 (by decide) ?_
  refine lv_istore_n (lv' := [(1, .int 0), (0, va_rf v0)]) M.1 M.2.1 dX9_cases_10 rfl hl (by decide) (fl_e (fl_r rfl fl_0)) (fun ls hl => ?_)
  refine lv_iconst (v := 0) M.1 M.2.1 dX9_cases_11 (by decide) ?_
  refine lv_istore_n (lv' := [(2, .int 0), (1, .int 0), (0, va_rf v0)]) M.1 M.2.1 dX9_cases_12 rfl hl (by decide) (fl_e (fl_i rfl (fl_k rfl rfl fl_0))) (fun ls hl => ?_)
  obtain ⟨n1, h⟩ := h
  exact tX9_cases_13 M hr hlk hRf hRl hRc hRs n1 _ _ _ _ h _ _ _ B (lv_sub hl [2, 1, 0] rfl)
end
set_option maxRecDepth 100000 in
set_option maxHeartbeats 4000000 in
theorem kX9_cases (l : Launch) (D : va_G) (cy : Nat → ClassId) {post : Int32 → Pool → Prop} {v0 : Option Nat} {S : Pool} (h : wX9_cases post v0 S) : MetI l yX9_cases cX9_cases 5 (some FieldType.int) rmX9_cases [va_rf v0] D cy S post := by
  intro sz
  refine Met.ofW (cc := cX9_cases) (maxL := 5) (ret := (some FieldType.int)) (by decide) rfl ?_
  intro p e s m args below meth c s₁ B0 hml hv
  obtain ⟨rfl, hpp⟩ := hv
  have hts := atoms_spec (ws := .code yX9_cases cX9_cases 5 (some FieldType.int) :: Gw) B0.pre
  obtain rfl : s.heap.size = sz := hpp.1
  have hl := lv_entry [va_rf v0] (n := 5) (by rw [sl_r, sl_0]; decide)
  rw [lg_entry_eq]
  rw [la_r, la_0] at hl
  exact tX9_cases (l := l) (R := rmX9_cases) ⟨B0.exec, B0.bytes, hml, findClass_of_methodNamed B0.named, fun w hw => hts w (List.mem_cons_of_mem _ hw)⟩ B0.returns B0.notSynchronized (Nat.le_refl _) (Nat.le_refl _) (Nat.le_refl _) (Nat.le_refl _) _ _ h _ _ _ hpp.pb (lv_sub hl [0] rfl)
-- X9_joined: LogHuntModel.joined(II)I
def wX9_joined_120 (K43 : Option Nat → Int32 → Int32 → Int32 → Int32 → Pool → Prop) (post : Int32 → Pool → Prop) (v0 : Option Nat) (v1 : Int32) (v2 : Int32) (v3 : Int32) (v4 : Int32) (S : Pool) : Prop := K43 v0 v1 v2 v3 (v4 + 1) S
def wX9_joined_112 (K43 : Option Nat → Int32 → Int32 → Int32 → Int32 → Pool → Prop) (K80 : Option Nat → Int32 → Int32 → Int32 → Int32 → Int32 → Pool → Prop) (post : Int32 → Pool → Prop) (v0 : Option Nat) (v1 : Int32) (v2 : Int32) (v4 : Int32) (v5 : Int32) (z0 : Int32) (z1 : Int32) (S : Pool) : Prop := K80 v0 v1 v2 (z1 + z0) v4 (v5 + 1) S
def wX9_joined_80 (K43 : Option Nat → Int32 → Int32 → Int32 → Int32 → Pool → Prop) (post : Int32 → Pool → Prop) : Nat → Option Nat → Int32 → Int32 → Int32 → Int32 → Int32 → Pool → Prop
  | 0 => fun _ _ _ _ _ _ _ => False
  | n + 1 => fun v0 v1 v2 v3 v4 v5 S => xI S v0 9 38 fun a1 => br (a1 ≤ v5) (wX9_joined_120 K43 post v0 v1 v2 v3 v4 S) (xR S v0 9 41 fun a3 => xaI S a3 10 v5 fun a4 => xR S v0 9 41 fun a5 => xaI S a5 10 v4 fun a6 => br (a4 = a6) (wX9_joined_112 K43 (wX9_joined_80 K43 post n) post v0 v1 v2 v4 v5 1 v3 S) (wX9_joined_112 K43 (wX9_joined_80 K43 post n) post v0 v1 v2 v4 v5 0 v3 S))
def wX9_joined_43 (post : Int32 → Pool → Prop) : Nat → Option Nat → Int32 → Int32 → Int32 → Int32 → Pool → Prop
  | 0 => fun _ _ _ _ _ _ => False
  | n + 1 => fun v0 v1 v2 v3 v4 S => xI S v0 9 38 fun a1 => br (a1 ≤ v4) (post v3 S) (xR S v0 9 39 fun a3 => xaI S a3 10 v4 fun a4 => br (a4 = v1) (xR S v0 9 40 fun a6 => xaI S a6 10 v4 fun a7 => br (a7 = v2) (∃ n1, wX9_joined_80 (wX9_joined_43 post n) post n1 v0 v1 v2 v3 v4 0 S) (wX9_joined_120 (wX9_joined_43 post n) post v0 v1 v2 v3 v4 S)) (wX9_joined_120 (wX9_joined_43 post n) post v0 v1 v2 v3 v4 S))
def wX9_joined_22 (post : Int32 → Pool → Prop) (v0 : Option Nat) (v1 : Int32) (v2 : Int32) (z0 : Int32) (z1 : Option Nat) (S : Pool) : Prop := xpI S z1 9 0 z0 fun S1 => xI S1 v0 9 0 fun a2 => br (a2 ≤ 0) (xrc S1 v0 9 (wX9_gather (fun S4 => ∃ n1, wX9_joined_43 post n1 v0 v1 v2 0 0 S4) v0 S1)) (post 0 S1)
def wX9_joined_17 (post : Int32 → Pool → Prop) (v0 : Option Nat) (v1 : Int32) (v2 : Int32) (z0 : Option Nat) (S : Pool) : Prop := wX9_joined_22 post v0 v1 v2 1 z0 S
def wX9_joined (post : Int32 → Pool → Prop) (v0 : Option Nat) (v1 : Int32) (v2 : Int32) (S : Pool) : Prop := xrc S v0 9 (wX9_isQuestion (fun a2 S1 => br (a2 = 0) (wX9_joined_17 post v0 v1 v2 v0 S1) (xrc S1 v0 9 (wX9_isAct (fun a5 S4 => br (a5 = 0) (wX9_joined_17 post v0 v1 v2 v0 S4) (wX9_joined_22 post v0 v1 v2 0 v0 S4)) v0 v2 S1))) v0 v1 S)
def rmX9_joined : Room := { frames := 4, cells := 0, slots := 0, locals := 102 }
section
variable {p : Program} {l : Launch} {e : Env} {R : Room} {s : State} {m : MethodId} {args : Array Value} {below : List Frame} {meth : Method} {c : Code} {D : va_G} {cy : Nat → ClassId} {A : Nat → Prop}
set_option maxRecDepth 100000 in
set_option maxHeartbeats 4000000 in
theorem tX9_joined_120 {K43 : Option Nat → Int32 → Int32 → Int32 → Int32 → Pool → Prop} {post : Int32 → Pool → Prop} (M : MC p m c cX9_joined 6 s args RX9) (hr : meth.sig.returnType = (some FieldType.int)) (hlk : meth.locks = false) (hRf : 4 ≤ R.frames) (hRl : 102 ≤ R.locals) (hRc : 0 ≤ R.cells) (hRs : 0 ≤ R.slots) (hK43 : ∀ (v0 : Option Nat) (v1 : Int32) (v2 : Int32) (v3 : Int32) (v4 : Int32) (S : Pool), K43 v0 v1 v2 v3 v4 S → ∀ (H : Heap) (locs : List Loc) (ls : Array Slot), PB D cy A s S H locs → lv_has ls 6 [(0, va_rf v0), (1, .int v1), (2, .int v2), (3, .int v3), (4, .int v4)] → W p l e R s m args below meth c H locs 0 0 (MQ below (va_Qi post (PQ D cy A) A) args s 0 0 A) (F0 m 43 ls [])) : ∀ (v0 : Option Nat) (v1 : Int32) (v2 : Int32) (v3 : Int32) (v4 : Int32) (S : Pool), wX9_joined_120 K43 post v0 v1 v2 v3 v4 S → ∀ (H : Heap) (locs : List Loc) (ls : Array Slot), PB D cy A s S H locs → lv_has ls 6 [(0, va_rf v0), (1, .int v1), (2, .int v2), (3, .int v3), (4, .int v4)] → W p l e R s m args below meth c H locs 0 0 (MQ below (va_Qi post (PQ D cy A) A) args s 0 0 A) (F0 m 120 ls []) := by
  intro v0 v1 v2 v3 v4 S h H locs ls B hl
  unfold wX9_joined_120 at h
  refine lv_iinc (v := v4 + 1) (lv' := [(4, .int (v4 + 1)), (0, va_rf v0), (1, .int v1), (2, .int v2), (3, .int v3)]) M.1 M.2.1 dX9_joined_120 hl (k := 4) rfl (by rfl) (by decide) (fl_e (fl_k rfl rfl (fl_k rfl rfl (fl_k rfl rfl (fl_i rfl (fl_d rfl fl_0)))))) (fun ls hl => ?_)
  refine lv_goto (tgt := 43) M.1 M.2.1 dX9_joined_123 (by decide) ?_
  exact hK43 _ _ _ _ _ _ h _ _ _ B (lv_sub hl [1, 2, 3, 4, 0] rfl)
set_option maxRecDepth 100000 in
set_option maxHeartbeats 4000000 in
theorem tX9_joined_112 {K43 : Option Nat → Int32 → Int32 → Int32 → Int32 → Pool → Prop} {K80 : Option Nat → Int32 → Int32 → Int32 → Int32 → Int32 → Pool → Prop} {post : Int32 → Pool → Prop} (M : MC p m c cX9_joined 6 s args RX9) (hr : meth.sig.returnType = (some FieldType.int)) (hlk : meth.locks = false) (hRf : 4 ≤ R.frames) (hRl : 102 ≤ R.locals) (hRc : 0 ≤ R.cells) (hRs : 0 ≤ R.slots) (hK43 : ∀ (v0 : Option Nat) (v1 : Int32) (v2 : Int32) (v3 : Int32) (v4 : Int32) (S : Pool), K43 v0 v1 v2 v3 v4 S → ∀ (H : Heap) (locs : List Loc) (ls : Array Slot), PB D cy A s S H locs → lv_has ls 6 [(0, va_rf v0), (1, .int v1), (2, .int v2), (3, .int v3), (4, .int v4)] → W p l e R s m args below meth c H locs 0 0 (MQ below (va_Qi post (PQ D cy A) A) args s 0 0 A) (F0 m 43 ls [])) (hK80 : ∀ (v0 : Option Nat) (v1 : Int32) (v2 : Int32) (v3 : Int32) (v4 : Int32) (v5 : Int32) (S : Pool), K80 v0 v1 v2 v3 v4 v5 S → ∀ (H : Heap) (locs : List Loc) (ls : Array Slot), PB D cy A s S H locs → lv_has ls 6 [(0, va_rf v0), (1, .int v1), (2, .int v2), (3, .int v3), (4, .int v4), (5, .int v5)] → W p l e R s m args below meth c H locs 0 0 (MQ below (va_Qi post (PQ D cy A) A) args s 0 0 A) (F0 m 80 ls [])) : ∀ (v0 : Option Nat) (v1 : Int32) (v2 : Int32) (v4 : Int32) (v5 : Int32) (z0 : Int32) (z1 : Int32) (S : Pool), wX9_joined_112 K43 K80 post v0 v1 v2 v4 v5 z0 z1 S → ∀ (H : Heap) (locs : List Loc) (ls : Array Slot), PB D cy A s S H locs → lv_has ls 6 [(0, va_rf v0), (1, .int v1), (2, .int v2), (4, .int v4), (5, .int v5)] → W p l e R s m args below meth c H locs 0 0 (MQ below (va_Qi post (PQ D cy A) A) args s 0 0 A) (F0 m 112 ls [.int z0, .int z1]) := by
  intro v0 v1 v2 v4 v5 z0 z1 S h H locs ls B hl
  unfold wX9_joined_112 at h
  refine lv_iadd M.1 M.2.1 dX9_joined_112 ?_
  refine lv_istore_n (lv' := [(3, .int (z1 + z0)), (0, va_rf v0), (1, .int v1), (2, .int v2), (4, .int v4), (5, .int v5)]) M.1 M.2.1 dX9_joined_113 rfl hl (by decide) (fl_e (fl_k rfl rfl (fl_k rfl rfl (fl_i rfl (fl_k rfl rfl (fl_k rfl rfl fl_0)))))) (fun ls hl => ?_)
  refine lv_iinc (v := v5 + 1) (lv' := [(5, .int (v5 + 1)), (3, .int (z1 + z0)), (0, va_rf v0), (1, .int v1), (2, .int v2), (4, .int v4)]) M.1 M.2.1 dX9_joined_114 hl (k := 5) rfl (by rfl) (by decide) (fl_e (fl_k rfl rfl (fl_k rfl rfl (fl_k rfl rfl (fl_k rfl rfl (fl_i rfl (fl_d rfl fl_0))))))) (fun ls hl => ?_)
  refine lv_goto (tgt := 80) M.1 M.2.1 dX9_joined_117 (by decide) ?_
  exact hK80 _ _ _ _ _ _ _ h _ _ _ B (lv_sub hl [2, 3, 4, 1, 5, 0] rfl)
set_option maxRecDepth 100000 in
set_option maxHeartbeats 4000000 in
theorem tX9_joined_80 {K43 : Option Nat → Int32 → Int32 → Int32 → Int32 → Pool → Prop} {post : Int32 → Pool → Prop} (M : MC p m c cX9_joined 6 s args RX9) (hr : meth.sig.returnType = (some FieldType.int)) (hlk : meth.locks = false) (hRf : 4 ≤ R.frames) (hRl : 102 ≤ R.locals) (hRc : 0 ≤ R.cells) (hRs : 0 ≤ R.slots) (hK43 : ∀ (v0 : Option Nat) (v1 : Int32) (v2 : Int32) (v3 : Int32) (v4 : Int32) (S : Pool), K43 v0 v1 v2 v3 v4 S → ∀ (H : Heap) (locs : List Loc) (ls : Array Slot), PB D cy A s S H locs → lv_has ls 6 [(0, va_rf v0), (1, .int v1), (2, .int v2), (3, .int v3), (4, .int v4)] → W p l e R s m args below meth c H locs 0 0 (MQ below (va_Qi post (PQ D cy A) A) args s 0 0 A) (F0 m 43 ls [])) : ∀ (n : Nat) (v0 : Option Nat) (v1 : Int32) (v2 : Int32) (v3 : Int32) (v4 : Int32) (v5 : Int32) (S : Pool), wX9_joined_80 K43 post n v0 v1 v2 v3 v4 v5 S → ∀ (H : Heap) (locs : List Loc) (ls : Array Slot), PB D cy A s S H locs → lv_has ls 6 [(0, va_rf v0), (1, .int v1), (2, .int v2), (3, .int v3), (4, .int v4), (5, .int v5)] → W p l e R s m args below meth c H locs 0 0 (MQ below (va_Qi post (PQ D cy A) A) args s 0 0 A) (F0 m 80 ls []) := by
  intro n
  induction n with
  | zero => intro v0 v1 v2 v3 v4 v5 S h; exact False.elim h
  | succ n ih =>
    intro v0 v1 v2 v3 v4 v5 S h H locs ls B hl
    unfold wX9_joined_80 at h
    refine lv_iload M.1 M.2.1 dX9_joined_80 (lv_at hl 5 rfl) ?_
    refine g_aload_n M dX9_joined_82 rfl (lv_at hl 0 rfl) ?_
    refine gfX9_249 M B dX9_joined_83 h (fun a1 h => ?_)
    refine lv_icmp_ge (tgt := 120) M.1 M.2.1 dX9_joined_86 (by decide) (fun c2 => ?_) (fun c2 => ?_)
    · have h := h.1 c2
      exact tX9_joined_120 M hr hlk hRf hRl hRc hRs hK43 _ _ _ _ _ _ h _ _ _ B (lv_sub hl [0, 1, 2, 3, 4] rfl)
    · have h := h.2 c2
      refine lv_iload_n M.1 M.2.1 dX9_joined_89 rfl (lv_at hl 3 rfl) ?_
      refine g_aload_n M dX9_joined_90 rfl (lv_at hl 0 rfl) ?_
      refine gfX9_96 M B dX9_joined_91 h (fun a3 h => ?_)
      refine lv_iload M.1 M.2.1 dX9_joined_94 (lv_at hl 5 rfl) ?_
      refine g_iald M B dX9_joined_96 h (fun a4 h => ?_)
      refine g_aload_n M dX9_joined_97 rfl (lv_at hl 0 rfl) ?_
      refine gfX9_96 M B dX9_joined_98 h (fun a5 h => ?_)
      refine lv_iload M.1 M.2.1 dX9_joined_101 (lv_at hl 4 rfl) ?_
      refine g_iald M B dX9_joined_103 h (fun a6 h => ?_)
      refine lv_icmp_ne (tgt := 111) M.1 M.2.1 dX9_joined_104 (by decide) (fun c7 => ?_) (fun c7 => ?_)
      · have h := h.2 c7
        refine lv_iconst (v := 0) M.1 M.2.1 dX9_joined_111 (by decide) ?_
        exact tX9_joined_112 M hr hlk hRf hRl hRc hRs hK43 ih _ _ _ _ _ _ _ _ h _ _ _ B (lv_sub hl [0, 1, 2, 4, 5] rfl)
      · have h := h.1 c7
        refine lv_iconst (v := 1) M.1 M.2.1 dX9_joined_107 (by decide) ?_
        refine lv_goto (tgt := 112) M.1 M.2.1 dX9_joined_108 (by decide) ?_
        exact tX9_joined_112 M hr hlk hRf hRl hRc hRs hK43 ih _ _ _ _ _ _ _ _ h _ _ _ B (lv_sub hl [0, 1, 2, 4, 5] rfl)
set_option maxRecDepth 100000 in
set_option maxHeartbeats 4000000 in
theorem tX9_joined_43 {post : Int32 → Pool → Prop} (M : MC p m c cX9_joined 6 s args RX9) (hr : meth.sig.returnType = (some FieldType.int)) (hlk : meth.locks = false) (hRf : 4 ≤ R.frames) (hRl : 102 ≤ R.locals) (hRc : 0 ≤ R.cells) (hRs : 0 ≤ R.slots) : ∀ (n : Nat) (v0 : Option Nat) (v1 : Int32) (v2 : Int32) (v3 : Int32) (v4 : Int32) (S : Pool), wX9_joined_43 post n v0 v1 v2 v3 v4 S → ∀ (H : Heap) (locs : List Loc) (ls : Array Slot), PB D cy A s S H locs → lv_has ls 6 [(0, va_rf v0), (1, .int v1), (2, .int v2), (3, .int v3), (4, .int v4)] → W p l e R s m args below meth c H locs 0 0 (MQ below (va_Qi post (PQ D cy A) A) args s 0 0 A) (F0 m 43 ls []) := by
  intro n
  induction n with
  | zero => intro v0 v1 v2 v3 v4 S h; exact False.elim h
  | succ n ih =>
    intro v0 v1 v2 v3 v4 S h H locs ls B hl
    unfold wX9_joined_43 at h
    refine lv_iload M.1 M.2.1 dX9_joined_43 (lv_at hl 4 rfl) ?_
    refine g_aload_n M dX9_joined_45 rfl (lv_at hl 0 rfl) ?_
    refine gfX9_249 M B dX9_joined_46 h (fun a1 h => ?_)
    refine lv_icmp_ge (tgt := 126) M.1 M.2.1 dX9_joined_49 (by decide) (fun c2 => ?_) (fun c2 => ?_)
    · have h := h.1 c2
      refine lv_iload_n M.1 M.2.1 dX9_joined_126 rfl (lv_at hl 3 rfl) ?_
      exact g_iret M B hr hlk h (by decide) (by decide) dX9_joined_127
    · have h := h.2 c2
      refine g_aload_n M dX9_joined_52 rfl (lv_at hl 0 rfl) ?_
      refine gfX9_90 M B dX9_joined_53 h (fun a3 h => ?_)
      refine lv_iload M.1 M.2.1 dX9_joined_56 (lv_at hl 4 rfl) ?_
      refine g_iald M B dX9_joined_58 h (fun a4 h => ?_)
      refine lv_iload_n M.1 M.2.1 dX9_joined_59 rfl (lv_at hl 1 rfl) ?_
      refine lv_icmp_ne (tgt := 120) M.1 M.2.1 dX9_joined_60 (by decide) (fun c5 => ?_) (fun c5 => ?_)
      · have h := h.2 c5
        exact tX9_joined_120 M hr hlk hRf hRl hRc hRs ih _ _ _ _ _ _ h _ _ _ B (lv_sub hl [0, 1, 2, 3, 4] rfl)
      · have h := h.1 c5
        refine g_aload_n M dX9_joined_63 rfl (lv_at hl 0 rfl) ?_
        refine gfX9_93 M B dX9_joined_64 h (fun a6 h => ?_)
        refine lv_iload M.1 M.2.1 dX9_joined_67 (lv_at hl 4 rfl) ?_
        refine g_iald M B dX9_joined_69 h (fun a7 h => ?_)
        refine lv_iload_n M.1 M.2.1 dX9_joined_70 rfl (lv_at hl 2 rfl) ?_
        refine lv_icmp_eq (tgt := 77) M.1 M.2.1 dX9_joined_71 (by decide) (fun c8 => ?_) (fun c8 => ?_)
        · have h := h.1 c8
          refine lv_iconst (v := 0) M.1 M.2.1 dX9_joined_77 (by decide) ?_
          refine lv_istore (lv' := [(5, .int 0), (0, va_rf v0), (1, .int v1), (2, .int v2), (3, .int v3), (4, .int v4)]) M.1 M.2.1 dX9_joined_78 hl (by decide) (fl_e (fl_k rfl rfl (fl_k rfl rfl (fl_k rfl rfl (fl_k rfl rfl (fl_i rfl fl_0)))))) (fun ls hl => ?_)
          obtain ⟨n1, h⟩ := h
          exact tX9_joined_80 M hr hlk hRf hRl hRc hRs ih n1 _ _ _ _ _ _ _ h _ _ _ B (lv_sub hl [1, 2, 3, 4, 5, 0] rfl)
        · have h := h.2 c8
          refine lv_goto (tgt := 120) M.1 M.2.1 dX9_joined_74 (by decide) ?_
          exact tX9_joined_120 M hr hlk hRf hRl hRc hRs ih _ _ _ _ _ _ h _ _ _ B (lv_sub hl [0, 1, 2, 3, 4] rfl)
set_option maxRecDepth 100000 in
set_option maxHeartbeats 4000000 in
theorem tX9_joined_22 {post : Int32 → Pool → Prop} (M : MC p m c cX9_joined 6 s args RX9) (hr : meth.sig.returnType = (some FieldType.int)) (hlk : meth.locks = false) (hRf : 4 ≤ R.frames) (hRl : 102 ≤ R.locals) (hRc : 0 ≤ R.cells) (hRs : 0 ≤ R.slots) : ∀ (v0 : Option Nat) (v1 : Int32) (v2 : Int32) (z0 : Int32) (z1 : Option Nat) (S : Pool), wX9_joined_22 post v0 v1 v2 z0 z1 S → ∀ (H : Heap) (locs : List Loc) (ls : Array Slot), PB D cy A s S H locs → lv_has ls 6 [(0, va_rf v0), (1, .int v1), (2, .int v2)] → W p l e R s m args below meth c H locs 0 0 (MQ below (va_Qi post (PQ D cy A) A) args s 0 0 A) (F0 m 22 ls [.int z0, va_rf z1]) := by
  intro v0 v1 v2 z0 z1 S h H locs ls B hl
  unfold wX9_joined_22 at h
  refine gpX9_99 M B dX9_joined_22 h (fun S1 H locs h B => ?_)
  refine g_aload_n M dX9_joined_25 rfl (lv_at hl 0 rfl) ?_
  refine gfX9_99 M B dX9_joined_26 h (fun a2 h => ?_)
  refine lv_if_le (tgt := 34) M.1 M.2.1 dX9_joined_29 (by decide) (fun c3 => ?_) (fun c3 => ?_)
  · have h := h.1 c3
    refine g_aload_n M dX9_joined_34 rfl (lv_at hl 0 rfl) ?_
    obtain ⟨o1, e1, hL1, hK1, h⟩ := h
    refine g_callv (k1 := 0) (k2 := 0) B (g_runV (n := 0) (As := []) (rm := rmX9_gather) M B e1 (kX9_gather (v0 := v0) l D cy h _) wmX9_255 wiX9_gather wsX9_gather wnX9 wcdX9_gather ⟨rfl, by decide, by decide, by decide +kernel⟩ ⟨Nat.le_trans (by decide) hRf, Nat.le_trans (by decide) hRl⟩ ⟨Nat.le_trans (by decide) hRc, Nat.le_trans (by decide) hRs⟩ hL1 hK1 (by decide) rfl rfl rfl hl.1 rfl ct_0 (by decide) dX9_joined_35) (by decide) (by decide) (fun S4 H locs h B => ?_)
    refine lv_iconst (v := 0) M.1 M.2.1 dX9_joined_38 (by decide) ?_
    refine lv_istore_n (lv' := [(3, .int 0), (0, va_rf v0), (1, .int v1), (2, .int v2)]) M.1 M.2.1 dX9_joined_39 rfl hl (by decide) (fl_e (fl_k rfl rfl (fl_k rfl rfl (fl_i rfl fl_0)))) (fun ls hl => ?_)
    refine lv_iconst (v := 0) M.1 M.2.1 dX9_joined_40 (by decide) ?_
    refine lv_istore (lv' := [(4, .int 0), (3, .int 0), (0, va_rf v0), (1, .int v1), (2, .int v2)]) M.1 M.2.1 dX9_joined_41 hl (by decide) (fl_e (fl_i rfl (fl_k rfl rfl (fl_k rfl rfl (fl_k rfl rfl fl_0))))) (fun ls hl => ?_)
    obtain ⟨n1, h⟩ := h
    exact tX9_joined_43 M hr hlk hRf hRl hRc hRs n1 _ _ _ _ _ _ h _ _ _ B (lv_sub hl [2, 3, 4, 1, 0] rfl)
  · have h := h.2 c3
    refine lv_iconst (v := 0) M.1 M.2.1 dX9_joined_32 (by decide) ?_
    exact g_iret M B hr hlk h (by decide) (by decide) dX9_joined_33
set_option maxRecDepth 100000 in
set_option maxHeartbeats 4000000 in
theorem tX9_joined_17 {post : Int32 → Pool → Prop} (M : MC p m c cX9_joined 6 s args RX9) (hr : meth.sig.returnType = (some FieldType.int)) (hlk : meth.locks = false) (hRf : 4 ≤ R.frames) (hRl : 102 ≤ R.locals) (hRc : 0 ≤ R.cells) (hRs : 0 ≤ R.slots) : ∀ (v0 : Option Nat) (v1 : Int32) (v2 : Int32) (z0 : Option Nat) (S : Pool), wX9_joined_17 post v0 v1 v2 z0 S → ∀ (H : Heap) (locs : List Loc) (ls : Array Slot), PB D cy A s S H locs → lv_has ls 6 [(0, va_rf v0), (1, .int v1), (2, .int v2)] → W p l e R s m args below meth c H locs 0 0 (MQ below (va_Qi post (PQ D cy A) A) args s 0 0 A) (F0 m 17 ls [va_rf z0]) := by
  intro v0 v1 v2 z0 S h H locs ls B hl
  unfold wX9_joined_17 at h
  refine lv_iconst (v := 1) M.1 M.2.1 dX9_joined_17 (by decide) ?_
  refine lv_goto (tgt := 22) M.1 M.2.1 dX9_joined_18 (by decide) ?_
  exact tX9_joined_22 M hr hlk hRf hRl hRc hRs _ _ _ _ _ _ h _ _ _ B (lv_sub hl [0, 1, 2] rfl)
set_option maxRecDepth 100000 in
set_option maxHeartbeats 4000000 in
theorem tX9_joined {post : Int32 → Pool → Prop} (M : MC p m c cX9_joined 6 s args RX9) (hr : meth.sig.returnType = (some FieldType.int)) (hlk : meth.locks = false) (hRf : 4 ≤ R.frames) (hRl : 102 ≤ R.locals) (hRc : 0 ≤ R.cells) (hRs : 0 ≤ R.slots) : ∀ (v0 : Option Nat) (v1 : Int32) (v2 : Int32) (S : Pool), wX9_joined post v0 v1 v2 S → ∀ (H : Heap) (locs : List Loc) (ls : Array Slot), PB D cy A s S H locs → lv_has ls 6 [(0, va_rf v0), (1, .int v1), (2, .int v2)] → W p l e R s m args below meth c H locs 0 0 (MQ below (va_Qi post (PQ D cy A) A) args s 0 0 A) (F0 m 0 ls []) := by
  intro v0 v1 v2 S h H locs ls B hl
  unfold wX9_joined at h
  refine g_aload_n M dX9_joined_0 rfl (lv_at hl 0 rfl) ?_
  refine g_aload_n M dX9_joined_1 rfl (lv_at hl 0 rfl) ?_
  refine lv_iload_n M.1 M.2.1 dX9_joined_2 rfl (lv_at hl 1 rfl) ?_
  obtain ⟨o1, e1, hL1, hK1, h⟩ := h
  refine g_calli (k1 := 0) (k2 := 0) B (g_runV (n := 1) (As := [.int v1]) (rm := rmX9_isQuestion) M B e1 (kX9_isQuestion (v0 := v0) (v1 := v1) l D cy h _) wmX9_233 wiX9_isQuestion wsX9_isQuestion wnX9 wcdX9_isQuestion ⟨rfl, by decide, by decide, by decide +kernel⟩ ⟨Nat.le_trans (by decide) hRf, Nat.le_trans (by decide) hRl⟩ ⟨Nat.le_trans (by decide) hRc, Nat.le_trans (by decide) hRs⟩ hL1 hK1 (by decide) rfl rfl rfl hl.1 rfl (ct_r ct_0) (by decide) dX9_joined_3) (by decide) (by decide) (fun a2 S1 H locs h B => ?_)
  refine lv_if_eq (tgt := 17) M.1 M.2.1 dX9_joined_6 (by decide) (fun c3 => ?_) (fun c3 => ?_)
  · have h := h.1 c3
    exact tX9_joined_17 M hr hlk hRf hRl hRc hRs _ _ _ _ _ h _ _ _ B (lv_sub hl [0, 1, 2] rfl)
  · have h := h.2 c3
    refine g_aload_n M dX9_joined_9 rfl (lv_at hl 0 rfl) ?_
    refine lv_iload_n M.1 M.2.1 dX9_joined_10 rfl (lv_at hl 2 rfl) ?_
    obtain ⟨o1, e1, hL1, hK1, h⟩ := h
    refine g_calli (k1 := 0) (k2 := 0) B (g_runV (n := 1) (As := [.int v2]) (rm := rmX9_isAct) M B e1 (kX9_isAct (v0 := v0) (v1 := v2) l D cy h _) wmX9_127 wiX9_isAct wsX9_isAct wnX9 wcdX9_isAct ⟨rfl, by decide, by decide, by decide +kernel⟩ ⟨Nat.le_trans (by decide) hRf, Nat.le_trans (by decide) hRl⟩ ⟨Nat.le_trans (by decide) hRc, Nat.le_trans (by decide) hRs⟩ hL1 hK1 (by decide) rfl rfl rfl hl.1 rfl (ct_r ct_0) (by decide) dX9_joined_11) (by decide) (by decide) (fun a5 S4 H locs h B => ?_)
    refine lv_if_ne (tgt := 21) M.1 M.2.1 dX9_joined_14 (by decide) (fun c6 => ?_) (fun c6 => ?_)
    · have h := h.2 c6
      refine lv_iconst (v := 0) M.1 M.2.1 dX9_joined_21 (by decide) ?_
      exact tX9_joined_22 M hr hlk hRf hRl hRc hRs _ _ _ _ _ _ h _ _ _ B (lv_sub hl [0, 1, 2] rfl)
    · have h := h.1 c6
      exact tX9_joined_17 M hr hlk hRf hRl hRc hRs _ _ _ _ _ h _ _ _ B (lv_sub hl [0, 1, 2] rfl)
end
set_option maxRecDepth 100000 in
set_option maxHeartbeats 4000000 in
theorem kX9_joined (l : Launch) (D : va_G) (cy : Nat → ClassId) {post : Int32 → Pool → Prop} {v0 : Option Nat} {v1 : Int32} {v2 : Int32} {S : Pool} (h : wX9_joined post v0 v1 v2 S) : MetI l yX9_joined cX9_joined 6 (some FieldType.int) rmX9_joined [va_rf v0, .int v1, .int v2] D cy S post := by
  intro sz
  refine Met.ofW (cc := cX9_joined) (maxL := 6) (ret := (some FieldType.int)) (by decide) rfl ?_
  intro p e s m args below meth c s₁ B0 hml hv
  obtain ⟨rfl, hpp⟩ := hv
  have hts := atoms_spec (ws := .code yX9_joined cX9_joined 6 (some FieldType.int) :: Gw) B0.pre
  obtain rfl : s.heap.size = sz := hpp.1
  have hl := lv_entry [va_rf v0, .int v1, .int v2] (n := 6) (by rw [sl_r, sl_i, sl_i, sl_0]; decide)
  rw [lg_entry_eq]
  rw [la_r, la_i, la_i, la_0] at hl
  exact tX9_joined (l := l) (R := rmX9_joined) ⟨B0.exec, B0.bytes, hml, findClass_of_methodNamed B0.named, fun w hw => hts w (List.mem_cons_of_mem _ hw)⟩ B0.returns B0.notSynchronized (Nat.le_refl _) (Nat.le_refl _) (Nat.le_refl _) (Nat.le_refl _) _ _ _ _ h _ _ _ hpp.pb (lv_sub hl [0, 1, 2] rfl)
-- X9_cost: LogHuntModel.cost(II)I
def wX9_cost_118 (K31 : Option Nat → Int32 → Int32 → Int32 → Int32 → Pool → Prop) (post : Int32 → Pool → Prop) (v0 : Option Nat) (v1 : Int32) (v2 : Int32) (v3 : Int32) (v4 : Int32) (S : Pool) : Prop := K31 v0 v1 v2 v3 (v4 + 1) S
def wX9_cost_115 (K31 : Option Nat → Int32 → Int32 → Int32 → Int32 → Pool → Prop) (post : Int32 → Pool → Prop) (v0 : Option Nat) (v1 : Int32) (v2 : Int32) (v4 : Int32) (v5 : Int32) (S : Pool) : Prop := wX9_cost_118 K31 post v0 v1 v2 v5 v4 S
def wX9_cost_95 (K31 : Option Nat → Int32 → Int32 → Int32 → Int32 → Pool → Prop) (K66 : Option Nat → Int32 → Int32 → Int32 → Int32 → Int32 → Int32 → Pool → Prop) (post : Int32 → Pool → Prop) (v0 : Option Nat) (v1 : Int32) (v2 : Int32) (v3 : Int32) (v4 : Int32) (v6 : Int32) (z0 : Int32) (z1 : Int32) (S : Pool) : Prop := K66 v0 v1 v2 v3 v4 (z1 + z0) (v6 + 1) S
def wX9_cost_66 (K31 : Option Nat → Int32 → Int32 → Int32 → Int32 → Pool → Prop) (post : Int32 → Pool → Prop) : Nat → Option Nat → Int32 → Int32 → Int32 → Int32 → Int32 → Int32 → Pool → Prop
  | 0 => fun _ _ _ _ _ _ _ _ => False
  | n + 1 => fun v0 v1 v2 v3 v4 v5 v6 S => xI S v0 9 4 fun a1 => br (a1 ≤ v6) (br (v3 = ((-1))) (wX9_cost_115 K31 post v0 v1 v2 v4 v5 S) (br (v3 ≤ v5) (wX9_cost_118 K31 post v0 v1 v2 v3 v4 S) (wX9_cost_115 K31 post v0 v1 v2 v4 v5 S))) (xrc S v0 9 (wX9_fits (fun a6 S5 => br (a6 = 0) (wX9_cost_95 K31 (wX9_cost_66 K31 post n) post v0 v1 v2 v3 v4 v6 0 v5 S5) (wX9_cost_95 K31 (wX9_cost_66 K31 post n) post v0 v1 v2 v3 v4 v6 1 v5 S5)) v0 v1 v4 v6 v2 S))
def wX9_cost_31 (post : Int32 → Pool → Prop) : Nat → Option Nat → Int32 → Int32 → Int32 → Int32 → Pool → Prop
  | 0 => fun _ _ _ _ _ _ => False
  | n + 1 => fun v0 v1 v2 v3 v4 S => xR S v0 9 13 fun a1 => xaI S a1 10 v1 fun a2 => br (a2 ≤ v4) (post v3 S) (xR S v0 9 14 fun a4 => xaI S a4 11 (((6 : Int32) * v1) + v4) fun a5 => br (a5 = 0) (∃ n1, wX9_cost_66 (wX9_cost_31 post n) post n1 v0 v1 v2 v3 v4 0 0 S) (wX9_cost_118 (wX9_cost_31 post n) post v0 v1 v2 v3 v4 S))
def wX9_cost_14 (post : Int32 → Pool → Prop) (v0 : Option Nat) (v1 : Int32) (v2 : Int32) (z0 : Int32) (z1 : Option Nat) (S : Pool) : Prop := xpI S z1 9 0 z0 fun S1 => xI S1 v0 9 0 fun a2 => br (a2 ≤ 0) (∃ n1, wX9_cost_31 post n1 v0 v1 v2 ((-1)) 0 S1) (post 0 S1)
def wX9_cost (post : Int32 → Pool → Prop) (v0 : Option Nat) (v1 : Int32) (v2 : Int32) (S : Pool) : Prop := xrc S v0 9 (wX9_isQuestion (fun a2 S1 => br (a2 = 0) (wX9_cost_14 post v0 v1 v2 1 v0 S1) (wX9_cost_14 post v0 v1 v2 0 v0 S1)) v0 v1 S)
def rmX9_cost : Room := { frames := 1, cells := 0, slots := 0, locals := 27 }
section
variable {p : Program} {l : Launch} {e : Env} {R : Room} {s : State} {m : MethodId} {args : Array Value} {below : List Frame} {meth : Method} {c : Code} {D : va_G} {cy : Nat → ClassId} {A : Nat → Prop}
set_option maxRecDepth 100000 in
set_option maxHeartbeats 4000000 in
theorem tX9_cost_118 {K31 : Option Nat → Int32 → Int32 → Int32 → Int32 → Pool → Prop} {post : Int32 → Pool → Prop} (M : MC p m c cX9_cost 7 s args RX9) (hr : meth.sig.returnType = (some FieldType.int)) (hlk : meth.locks = false) (hRf : 1 ≤ R.frames) (hRl : 27 ≤ R.locals) (hRc : 0 ≤ R.cells) (hRs : 0 ≤ R.slots) (hK31 : ∀ (v0 : Option Nat) (v1 : Int32) (v2 : Int32) (v3 : Int32) (v4 : Int32) (S : Pool), K31 v0 v1 v2 v3 v4 S → ∀ (H : Heap) (locs : List Loc) (ls : Array Slot), PB D cy A s S H locs → lv_has ls 7 [(0, va_rf v0), (1, .int v1), (2, .int v2), (3, .int v3), (4, .int v4)] → W p l e R s m args below meth c H locs 0 0 (MQ below (va_Qi post (PQ D cy A) A) args s 0 0 A) (F0 m 31 ls [])) : ∀ (v0 : Option Nat) (v1 : Int32) (v2 : Int32) (v3 : Int32) (v4 : Int32) (S : Pool), wX9_cost_118 K31 post v0 v1 v2 v3 v4 S → ∀ (H : Heap) (locs : List Loc) (ls : Array Slot), PB D cy A s S H locs → lv_has ls 7 [(0, va_rf v0), (1, .int v1), (2, .int v2), (3, .int v3), (4, .int v4)] → W p l e R s m args below meth c H locs 0 0 (MQ below (va_Qi post (PQ D cy A) A) args s 0 0 A) (F0 m 118 ls []) := by
  intro v0 v1 v2 v3 v4 S h H locs ls B hl
  unfold wX9_cost_118 at h
  refine lv_iinc (v := v4 + 1) (lv' := [(4, .int (v4 + 1)), (0, va_rf v0), (1, .int v1), (2, .int v2), (3, .int v3)]) M.1 M.2.1 dX9_cost_118 hl (k := 4) rfl (by rfl) (by decide) (fl_e (fl_k rfl rfl (fl_k rfl rfl (fl_k rfl rfl (fl_i rfl (fl_d rfl fl_0)))))) (fun ls hl => ?_)
  refine lv_goto (tgt := 31) M.1 M.2.1 dX9_cost_121 (by decide) ?_
  exact hK31 _ _ _ _ _ _ h _ _ _ B (lv_sub hl [1, 2, 3, 4, 0] rfl)
set_option maxRecDepth 100000 in
set_option maxHeartbeats 4000000 in
theorem tX9_cost_115 {K31 : Option Nat → Int32 → Int32 → Int32 → Int32 → Pool → Prop} {post : Int32 → Pool → Prop} (M : MC p m c cX9_cost 7 s args RX9) (hr : meth.sig.returnType = (some FieldType.int)) (hlk : meth.locks = false) (hRf : 1 ≤ R.frames) (hRl : 27 ≤ R.locals) (hRc : 0 ≤ R.cells) (hRs : 0 ≤ R.slots) (hK31 : ∀ (v0 : Option Nat) (v1 : Int32) (v2 : Int32) (v3 : Int32) (v4 : Int32) (S : Pool), K31 v0 v1 v2 v3 v4 S → ∀ (H : Heap) (locs : List Loc) (ls : Array Slot), PB D cy A s S H locs → lv_has ls 7 [(0, va_rf v0), (1, .int v1), (2, .int v2), (3, .int v3), (4, .int v4)] → W p l e R s m args below meth c H locs 0 0 (MQ below (va_Qi post (PQ D cy A) A) args s 0 0 A) (F0 m 31 ls [])) : ∀ (v0 : Option Nat) (v1 : Int32) (v2 : Int32) (v4 : Int32) (v5 : Int32) (S : Pool), wX9_cost_115 K31 post v0 v1 v2 v4 v5 S → ∀ (H : Heap) (locs : List Loc) (ls : Array Slot), PB D cy A s S H locs → lv_has ls 7 [(0, va_rf v0), (1, .int v1), (2, .int v2), (4, .int v4), (5, .int v5)] → W p l e R s m args below meth c H locs 0 0 (MQ below (va_Qi post (PQ D cy A) A) args s 0 0 A) (F0 m 115 ls []) := by
  intro v0 v1 v2 v4 v5 S h H locs ls B hl
  unfold wX9_cost_115 at h
  refine lv_iload M.1 M.2.1 dX9_cost_115 (lv_at hl 4 rfl) ?_
  refine lv_istore_n (lv' := [(3, .int v5), (0, va_rf v0), (1, .int v1), (2, .int v2), (4, .int v4), (5, .int v5)]) M.1 M.2.1 dX9_cost_117 rfl hl (by decide) (fl_e (fl_k rfl rfl (fl_k rfl rfl (fl_i rfl (fl_k rfl rfl (fl_k rfl rfl fl_0)))))) (fun ls hl => ?_)
  exact tX9_cost_118 M hr hlk hRf hRl hRc hRs hK31 _ _ _ _ _ _ h _ _ _ B (lv_sub hl [1, 2, 3, 0, 4] rfl)
set_option maxRecDepth 100000 in
set_option maxHeartbeats 4000000 in
theorem tX9_cost_95 {K31 : Option Nat → Int32 → Int32 → Int32 → Int32 → Pool → Prop} {K66 : Option Nat → Int32 → Int32 → Int32 → Int32 → Int32 → Int32 → Pool → Prop} {post : Int32 → Pool → Prop} (M : MC p m c cX9_cost 7 s args RX9) (hr : meth.sig.returnType = (some FieldType.int)) (hlk : meth.locks = false) (hRf : 1 ≤ R.frames) (hRl : 27 ≤ R.locals) (hRc : 0 ≤ R.cells) (hRs : 0 ≤ R.slots) (hK31 : ∀ (v0 : Option Nat) (v1 : Int32) (v2 : Int32) (v3 : Int32) (v4 : Int32) (S : Pool), K31 v0 v1 v2 v3 v4 S → ∀ (H : Heap) (locs : List Loc) (ls : Array Slot), PB D cy A s S H locs → lv_has ls 7 [(0, va_rf v0), (1, .int v1), (2, .int v2), (3, .int v3), (4, .int v4)] → W p l e R s m args below meth c H locs 0 0 (MQ below (va_Qi post (PQ D cy A) A) args s 0 0 A) (F0 m 31 ls [])) (hK66 : ∀ (v0 : Option Nat) (v1 : Int32) (v2 : Int32) (v3 : Int32) (v4 : Int32) (v5 : Int32) (v6 : Int32) (S : Pool), K66 v0 v1 v2 v3 v4 v5 v6 S → ∀ (H : Heap) (locs : List Loc) (ls : Array Slot), PB D cy A s S H locs → lv_has ls 7 [(0, va_rf v0), (1, .int v1), (2, .int v2), (3, .int v3), (4, .int v4), (5, .int v5), (6, .int v6)] → W p l e R s m args below meth c H locs 0 0 (MQ below (va_Qi post (PQ D cy A) A) args s 0 0 A) (F0 m 66 ls [])) : ∀ (v0 : Option Nat) (v1 : Int32) (v2 : Int32) (v3 : Int32) (v4 : Int32) (v6 : Int32) (z0 : Int32) (z1 : Int32) (S : Pool), wX9_cost_95 K31 K66 post v0 v1 v2 v3 v4 v6 z0 z1 S → ∀ (H : Heap) (locs : List Loc) (ls : Array Slot), PB D cy A s S H locs → lv_has ls 7 [(0, va_rf v0), (1, .int v1), (2, .int v2), (3, .int v3), (4, .int v4), (6, .int v6)] → W p l e R s m args below meth c H locs 0 0 (MQ below (va_Qi post (PQ D cy A) A) args s 0 0 A) (F0 m 95 ls [.int z0, .int z1]) := by
  intro v0 v1 v2 v3 v4 v6 z0 z1 S h H locs ls B hl
  unfold wX9_cost_95 at h
  refine lv_iadd M.1 M.2.1 dX9_cost_95 ?_
  refine lv_istore (lv' := [(5, .int (z1 + z0)), (0, va_rf v0), (1, .int v1), (2, .int v2), (3, .int v3), (4, .int v4), (6, .int v6)]) M.1 M.2.1 dX9_cost_96 hl (by decide) (fl_e (fl_k rfl rfl (fl_k rfl rfl (fl_k rfl rfl (fl_k rfl rfl (fl_i rfl (fl_k rfl rfl fl_0))))))) (fun ls hl => ?_)
  refine lv_iinc (v := v6 + 1) (lv' := [(6, .int (v6 + 1)), (5, .int (z1 + z0)), (0, va_rf v0), (1, .int v1), (2, .int v2), (3, .int v3), (4, .int v4)]) M.1 M.2.1 dX9_cost_98 hl (k := 6) rfl (by rfl) (by decide) (fl_e (fl_i rfl (fl_k rfl rfl (fl_k rfl rfl (fl_k rfl rfl (fl_k rfl rfl (fl_k rfl rfl (fl_d rfl fl_0)))))))) (fun ls hl => ?_)
  refine lv_goto (tgt := 66) M.1 M.2.1 dX9_cost_101 (by decide) ?_
  exact hK66 _ _ _ _ _ _ _ _ h _ _ _ B (lv_sub hl [2, 3, 4, 5, 6, 1, 0] rfl)
set_option maxRecDepth 100000 in
set_option maxHeartbeats 4000000 in
theorem tX9_cost_66 {K31 : Option Nat → Int32 → Int32 → Int32 → Int32 → Pool → Prop} {post : Int32 → Pool → Prop} (M : MC p m c cX9_cost 7 s args RX9) (hr : meth.sig.returnType = (some FieldType.int)) (hlk : meth.locks = false) (hRf : 1 ≤ R.frames) (hRl : 27 ≤ R.locals) (hRc : 0 ≤ R.cells) (hRs : 0 ≤ R.slots) (hK31 : ∀ (v0 : Option Nat) (v1 : Int32) (v2 : Int32) (v3 : Int32) (v4 : Int32) (S : Pool), K31 v0 v1 v2 v3 v4 S → ∀ (H : Heap) (locs : List Loc) (ls : Array Slot), PB D cy A s S H locs → lv_has ls 7 [(0, va_rf v0), (1, .int v1), (2, .int v2), (3, .int v3), (4, .int v4)] → W p l e R s m args below meth c H locs 0 0 (MQ below (va_Qi post (PQ D cy A) A) args s 0 0 A) (F0 m 31 ls [])) : ∀ (n : Nat) (v0 : Option Nat) (v1 : Int32) (v2 : Int32) (v3 : Int32) (v4 : Int32) (v5 : Int32) (v6 : Int32) (S : Pool), wX9_cost_66 K31 post n v0 v1 v2 v3 v4 v5 v6 S → ∀ (H : Heap) (locs : List Loc) (ls : Array Slot), PB D cy A s S H locs → lv_has ls 7 [(0, va_rf v0), (1, .int v1), (2, .int v2), (3, .int v3), (4, .int v4), (5, .int v5), (6, .int v6)] → W p l e R s m args below meth c H locs 0 0 (MQ below (va_Qi post (PQ D cy A) A) args s 0 0 A) (F0 m 66 ls []) := by
  intro n
  induction n with
  | zero => intro v0 v1 v2 v3 v4 v5 v6 S h; exact False.elim h
  | succ n ih =>
    intro v0 v1 v2 v3 v4 v5 v6 S h H locs ls B hl
    unfold wX9_cost_66 at h
    refine lv_iload M.1 M.2.1 dX9_cost_66 (lv_at hl 6 rfl) ?_
    refine g_aload_n M dX9_cost_68 rfl (lv_at hl 0 rfl) ?_
    refine gfX9_105 M B dX9_cost_69 h (fun a1 h => ?_)
    refine lv_icmp_ge (tgt := 104) M.1 M.2.1 dX9_cost_72 (by decide) (fun c2 => ?_) (fun c2 => ?_)
    · have h := h.1 c2
      refine lv_iload_n M.1 M.2.1 dX9_cost_104 rfl (lv_at hl 3 rfl) ?_
      refine lv_iconst (v := (-1)) M.1 M.2.1 dX9_cost_105 (by decide) ?_
      refine lv_icmp_eq (tgt := 115) M.1 M.2.1 dX9_cost_106 (by decide) (fun c3 => ?_) (fun c3 => ?_)
      · have h := h.1 c3
        exact tX9_cost_115 M hr hlk hRf hRl hRc hRs hK31 _ _ _ _ _ _ h _ _ _ B (lv_sub hl [0, 1, 2, 4, 5] rfl)
      · have h := h.2 c3
        refine lv_iload M.1 M.2.1 dX9_cost_109 (lv_at hl 5 rfl) ?_
        refine lv_iload_n M.1 M.2.1 dX9_cost_111 rfl (lv_at hl 3 rfl) ?_
        refine lv_icmp_ge (tgt := 118) M.1 M.2.1 dX9_cost_112 (by decide) (fun c4 => ?_) (fun c4 => ?_)
        · have h := h.1 c4
          exact tX9_cost_118 M hr hlk hRf hRl hRc hRs hK31 _ _ _ _ _ _ h _ _ _ B (lv_sub hl [0, 1, 2, 3, 4] rfl)
        · have h := h.2 c4
          exact tX9_cost_115 M hr hlk hRf hRl hRc hRs hK31 _ _ _ _ _ _ h _ _ _ B (lv_sub hl [0, 1, 2, 4, 5] rfl)
    · have h := h.2 c2
      refine lv_iload M.1 M.2.1 dX9_cost_75 (lv_at hl 5 rfl) ?_
      refine g_aload_n M dX9_cost_77 rfl (lv_at hl 0 rfl) ?_
      refine lv_iload_n M.1 M.2.1 dX9_cost_78 rfl (lv_at hl 1 rfl) ?_
      refine lv_iload M.1 M.2.1 dX9_cost_79 (lv_at hl 4 rfl) ?_
      refine lv_iload M.1 M.2.1 dX9_cost_81 (lv_at hl 6 rfl) ?_
      refine lv_iload_n M.1 M.2.1 dX9_cost_83 rfl (lv_at hl 2 rfl) ?_
      obtain ⟨o1, e1, hL1, hK1, h⟩ := h
      refine g_calli (k1 := 0) (k2 := 0) B (g_runV (n := 4) (As := [.int v1, .int v4, .int v6, .int v2]) (rm := rmX9_fits) M B e1 (kX9_fits (v0 := v0) (v1 := v1) (v2 := v4) (v3 := v6) (v4 := v2) l D cy h _) wmX9_215 wiX9_fits wsX9_fits wnX9 wcdX9_fits ⟨rfl, by decide, by decide, by decide +kernel⟩ ⟨Nat.le_trans (by decide) hRf, Nat.le_trans (by decide) hRl⟩ ⟨Nat.le_trans (by decide) hRc, Nat.le_trans (by decide) hRs⟩ hL1 hK1 (by decide) rfl rfl rfl hl.1 rfl (ct_i ct_0) (by decide) dX9_cost_84) (by decide) (by decide) (fun a6 S5 H locs h B => ?_)
      refine lv_if_eq (tgt := 94) M.1 M.2.1 dX9_cost_87 (by decide) (fun c7 => ?_) (fun c7 => ?_)
      · have h := h.1 c7
        refine lv_iconst (v := 0) M.1 M.2.1 dX9_cost_94 (by decide) ?_
        exact tX9_cost_95 M hr hlk hRf hRl hRc hRs hK31 ih _ _ _ _ _ _ _ _ _ h _ _ _ B (lv_sub hl [0, 1, 2, 3, 4, 6] rfl)
      · have h := h.2 c7
        refine lv_iconst (v := 1) M.1 M.2.1 dX9_cost_90 (by decide) ?_
        refine lv_goto (tgt := 95) M.1 M.2.1 dX9_cost_91 (by decide) ?_
        exact tX9_cost_95 M hr hlk hRf hRl hRc hRs hK31 ih _ _ _ _ _ _ _ _ _ h _ _ _ B (lv_sub hl [0, 1, 2, 3, 4, 6] rfl)
set_option maxRecDepth 100000 in
set_option maxHeartbeats 4000000 in
theorem tX9_cost_31 {post : Int32 → Pool → Prop} (M : MC p m c cX9_cost 7 s args RX9) (hr : meth.sig.returnType = (some FieldType.int)) (hlk : meth.locks = false) (hRf : 1 ≤ R.frames) (hRl : 27 ≤ R.locals) (hRc : 0 ≤ R.cells) (hRs : 0 ≤ R.slots) : ∀ (n : Nat) (v0 : Option Nat) (v1 : Int32) (v2 : Int32) (v3 : Int32) (v4 : Int32) (S : Pool), wX9_cost_31 post n v0 v1 v2 v3 v4 S → ∀ (H : Heap) (locs : List Loc) (ls : Array Slot), PB D cy A s S H locs → lv_has ls 7 [(0, va_rf v0), (1, .int v1), (2, .int v2), (3, .int v3), (4, .int v4)] → W p l e R s m args below meth c H locs 0 0 (MQ below (va_Qi post (PQ D cy A) A) args s 0 0 A) (F0 m 31 ls []) := by
  intro n
  induction n with
  | zero => intro v0 v1 v2 v3 v4 S h; exact False.elim h
  | succ n ih =>
    intro v0 v1 v2 v3 v4 S h H locs ls B hl
    unfold wX9_cost_31 at h
    refine lv_iload M.1 M.2.1 dX9_cost_31 (lv_at hl 4 rfl) ?_
    refine g_aload_n M dX9_cost_33 rfl (lv_at hl 0 rfl) ?_
    refine gfX9_35 M B dX9_cost_34 h (fun a1 h => ?_)
    refine lv_iload_n M.1 M.2.1 dX9_cost_37 rfl (lv_at hl 1 rfl) ?_
    refine g_iald M B dX9_cost_38 h (fun a2 h => ?_)
    refine lv_icmp_ge (tgt := 124) M.1 M.2.1 dX9_cost_39 (by decide) (fun c3 => ?_) (fun c3 => ?_)
    · have h := h.1 c3
      refine lv_iload_n M.1 M.2.1 dX9_cost_124 rfl (lv_at hl 3 rfl) ?_
      exact g_iret M B hr hlk h (by decide) (by decide) dX9_cost_125
    · have h := h.2 c3
      refine lv_iconst (v := 0) M.1 M.2.1 dX9_cost_42 (by decide) ?_
      refine lv_istore (lv' := [(5, .int 0), (0, va_rf v0), (1, .int v1), (2, .int v2), (3, .int v3), (4, .int v4)]) M.1 M.2.1 dX9_cost_43 hl (by decide) (fl_e (fl_k rfl rfl (fl_k rfl rfl (fl_k rfl rfl (fl_k rfl rfl (fl_i rfl fl_0)))))) (fun ls hl => ?_)
      refine g_aload_n M dX9_cost_45 rfl (lv_at hl 1 rfl) ?_
      refine gfX9_38 M B dX9_cost_46 h (fun a4 h => ?_)
      refine lv_bipush (v := 6) M.1 M.2.1 dX9_cost_49 (by decide) ?_
      refine lv_iload_n M.1 M.2.1 dX9_cost_51 rfl (lv_at hl 2 rfl) ?_
      refine lv_imul M.1 M.2.1 dX9_cost_52 ?_
      refine lv_iload M.1 M.2.1 dX9_cost_53 (lv_at hl 5 rfl) ?_
      refine lv_iadd M.1 M.2.1 dX9_cost_55 ?_
      refine g_zald M B dX9_cost_56 h (fun a5 h => ?_)
      refine lv_if_eq (tgt := 63) M.1 M.2.1 dX9_cost_57 (by decide) (fun c6 => ?_) (fun c6 => ?_)
      · have h := h.1 c6
        refine lv_iconst (v := 0) M.1 M.2.1 dX9_cost_63 (by decide) ?_
        refine lv_istore (lv' := [(6, .int 0), (5, .int 0), (0, va_rf v0), (1, .int v1), (2, .int v2), (3, .int v3), (4, .int v4)]) M.1 M.2.1 dX9_cost_64 hl (by decide) (fl_e (fl_i rfl (fl_k rfl rfl (fl_k rfl rfl (fl_k rfl rfl (fl_k rfl rfl (fl_k rfl rfl fl_0))))))) (fun ls hl => ?_)
        obtain ⟨n1, h⟩ := h
        exact tX9_cost_66 M hr hlk hRf hRl hRc hRs ih n1 _ _ _ _ _ _ _ _ h _ _ _ B (lv_sub hl [2, 3, 4, 5, 6, 1, 0] rfl)
      · have h := h.2 c6
        refine lv_goto (tgt := 118) M.1 M.2.1 dX9_cost_60 (by decide) ?_
        exact tX9_cost_118 M hr hlk hRf hRl hRc hRs ih _ _ _ _ _ _ h _ _ _ B (lv_sub hl [1, 2, 3, 4, 5] rfl)
set_option maxRecDepth 100000 in
set_option maxHeartbeats 4000000 in
theorem tX9_cost_14 {post : Int32 → Pool → Prop} (M : MC p m c cX9_cost 7 s args RX9) (hr : meth.sig.returnType = (some FieldType.int)) (hlk : meth.locks = false) (hRf : 1 ≤ R.frames) (hRl : 27 ≤ R.locals) (hRc : 0 ≤ R.cells) (hRs : 0 ≤ R.slots) : ∀ (v0 : Option Nat) (v1 : Int32) (v2 : Int32) (z0 : Int32) (z1 : Option Nat) (S : Pool), wX9_cost_14 post v0 v1 v2 z0 z1 S → ∀ (H : Heap) (locs : List Loc) (ls : Array Slot), PB D cy A s S H locs → lv_has ls 7 [(0, va_rf v0), (1, .int v1), (2, .int v2)] → W p l e R s m args below meth c H locs 0 0 (MQ below (va_Qi post (PQ D cy A) A) args s 0 0 A) (F0 m 14 ls [.int z0, va_rf z1]) := by
  intro v0 v1 v2 z0 z1 S h H locs ls B hl
  unfold wX9_cost_14 at h
  refine gpX9_99 M B dX9_cost_14 h (fun S1 H locs h B => ?_)
  refine g_aload_n M dX9_cost_17 rfl (lv_at hl 0 rfl) ?_
  refine gfX9_99 M B dX9_cost_18 h (fun a2 h => ?_)
  refine lv_if_le (tgt := 26) M.1 M.2.1 dX9_cost_21 (by decide) (fun c3 => ?_) (fun c3 => ?_)
  · have h := h.1 c3
    refine lv_iconst (v := (-1)) M.1 M.2.1 dX9_cost_26 (by decide) ?_
    refine lv_istore_n (lv' := [(3, .int ((-1))), (0, va_rf v0), (1, .int v1), (2, .int v2)]) M.1 M.2.1 dX9_cost_27 rfl hl (by decide) (fl_e (fl_k rfl rfl (fl_k rfl rfl (fl_i rfl fl_0)))) (fun ls hl => ?_)
    refine lv_iconst (v := 0) M.1 M.2.1 dX9_cost_28 (by decide) ?_
    refine lv_istore (lv' := [(4, .int 0), (3, .int ((-1))), (0, va_rf v0), (1, .int v1), (2, .int v2)]) M.1 M.2.1 dX9_cost_29 hl (by decide) (fl_e (fl_i rfl (fl_k rfl rfl (fl_k rfl rfl (fl_k rfl rfl fl_0))))) (fun ls hl => ?_)
    obtain ⟨n1, h⟩ := h
    exact tX9_cost_31 M hr hlk hRf hRl hRc hRs n1 _ _ _ _ _ _ h _ _ _ B (lv_sub hl [2, 3, 4, 1, 0] rfl)
  · have h := h.2 c3
    refine lv_iconst (v := 0) M.1 M.2.1 dX9_cost_24 (by decide) ?_
    exact g_iret M B hr hlk h (by decide) (by decide) dX9_cost_25
set_option maxRecDepth 100000 in
set_option maxHeartbeats 4000000 in
theorem tX9_cost {post : Int32 → Pool → Prop} (M : MC p m c cX9_cost 7 s args RX9) (hr : meth.sig.returnType = (some FieldType.int)) (hlk : meth.locks = false) (hRf : 1 ≤ R.frames) (hRl : 27 ≤ R.locals) (hRc : 0 ≤ R.cells) (hRs : 0 ≤ R.slots) : ∀ (v0 : Option Nat) (v1 : Int32) (v2 : Int32) (S : Pool), wX9_cost post v0 v1 v2 S → ∀ (H : Heap) (locs : List Loc) (ls : Array Slot), PB D cy A s S H locs → lv_has ls 7 [(0, va_rf v0), (1, .int v1), (2, .int v2)] → W p l e R s m args below meth c H locs 0 0 (MQ below (va_Qi post (PQ D cy A) A) args s 0 0 A) (F0 m 0 ls []) := by
  intro v0 v1 v2 S h H locs ls B hl
  unfold wX9_cost at h
  refine g_aload_n M dX9_cost_0 rfl (lv_at hl 0 rfl) ?_
  refine g_aload_n M dX9_cost_1 rfl (lv_at hl 0 rfl) ?_
  refine lv_iload_n M.1 M.2.1 dX9_cost_2 rfl (lv_at hl 1 rfl) ?_
  obtain ⟨o1, e1, hL1, hK1, h⟩ := h
  refine g_calli (k1 := 0) (k2 := 0) B (g_runV (n := 1) (As := [.int v1]) (rm := rmX9_isQuestion) M B e1 (kX9_isQuestion (v0 := v0) (v1 := v1) l D cy h _) wmX9_233 wiX9_isQuestion wsX9_isQuestion wnX9 wcdX9_isQuestion ⟨rfl, by decide, by decide, by decide +kernel⟩ ⟨Nat.le_trans (by decide) hRf, Nat.le_trans (by decide) hRl⟩ ⟨Nat.le_trans (by decide) hRc, Nat.le_trans (by decide) hRs⟩ hL1 hK1 (by decide) rfl rfl rfl hl.1 rfl (ct_r ct_0) (by decide) dX9_cost_3) (by decide) (by decide) (fun a2 S1 H locs h B => ?_)
  refine lv_if_ne (tgt := 13) M.1 M.2.1 dX9_cost_6 (by decide) (fun c3 => ?_) (fun c3 => ?_)
  · have h := h.2 c3
    refine lv_iconst (v := 0) M.1 M.2.1 dX9_cost_13 (by decide) ?_
    exact tX9_cost_14 M hr hlk hRf hRl hRc hRs _ _ _ _ _ _ h _ _ _ B (lv_sub hl [0, 1, 2] rfl)
  · have h := h.1 c3
    refine lv_iconst (v := 1) M.1 M.2.1 dX9_cost_9 (by decide) ?_
    refine lv_goto (tgt := 14) M.1 M.2.1 dX9_cost_10 (by decide) ?_
    exact tX9_cost_14 M hr hlk hRf hRl hRc hRs _ _ _ _ _ _ h _ _ _ B (lv_sub hl [0, 1, 2] rfl)
end
set_option maxRecDepth 100000 in
set_option maxHeartbeats 4000000 in
theorem kX9_cost (l : Launch) (D : va_G) (cy : Nat → ClassId) {post : Int32 → Pool → Prop} {v0 : Option Nat} {v1 : Int32} {v2 : Int32} {S : Pool} (h : wX9_cost post v0 v1 v2 S) : MetI l yX9_cost cX9_cost 7 (some FieldType.int) rmX9_cost [va_rf v0, .int v1, .int v2] D cy S post := by
  intro sz
  refine Met.ofW (cc := cX9_cost) (maxL := 7) (ret := (some FieldType.int)) (by decide) rfl ?_
  intro p e s m args below meth c s₁ B0 hml hv
  obtain ⟨rfl, hpp⟩ := hv
  have hts := atoms_spec (ws := .code yX9_cost cX9_cost 7 (some FieldType.int) :: Gw) B0.pre
  obtain rfl : s.heap.size = sz := hpp.1
  have hl := lv_entry [va_rf v0, .int v1, .int v2] (n := 7) (by rw [sl_r, sl_i, sl_i, sl_0]; decide)
  rw [lg_entry_eq]
  rw [la_r, la_i, la_i, la_0] at hl
  exact tX9_cost (l := l) (R := rmX9_cost) ⟨B0.exec, B0.bytes, hml, findClass_of_methodNamed B0.named, fun w hw => hts w (List.mem_cons_of_mem _ hw)⟩ B0.returns B0.notSynchronized (Nat.le_refl _) (Nat.le_refl _) (Nat.le_refl _) (Nat.le_refl _) _ _ _ _ h _ _ _ hpp.pb (lv_sub hl [0, 1, 2] rfl)
-- X9_widest: LogHuntModel.widest(II)I
def wX9_widest_133 (K40 : Option Nat → Int32 → Int32 → Int32 → Pool → Prop) (post : Int32 → Pool → Prop) (v0 : Option Nat) (v3 : Int32) (v4 : Int32) (v5 : Int32) (S : Pool) : Prop := K40 v0 v3 v4 (v5 + 1) S
def wX9_widest_100 (K40 : Option Nat → Int32 → Int32 → Int32 → Pool → Prop) (K55 : Option Nat → Int32 → Int32 → Int32 → Int32 → Int32 → Int32 → Pool → Prop) (post : Int32 → Pool → Prop) (v0 : Option Nat) (v3 : Int32) (v4 : Int32) (v5 : Int32) (v6 : Int32) (v8 : Int32) (v9 : Int32) (z0 : Int32) (z1 : Int32) (S : Pool) : Prop := K55 v0 v3 v4 v5 (v6 ||| v9) (z1 + z0) (v8 + 1) S
def wX9_widest_55 (K40 : Option Nat → Int32 → Int32 → Int32 → Pool → Prop) (post : Int32 → Pool → Prop) : Nat → Option Nat → Int32 → Int32 → Int32 → Int32 → Int32 → Int32 → Pool → Prop
  | 0 => fun _ _ _ _ _ _ _ _ => False
  | n + 1 => fun v0 v3 v4 v5 v6 v7 v8 S => xI S v0 9 36 fun a1 => br (a1 ≤ v8) (br (v4 < v7) (wX9_widest_133 K40 post v0 v5 v7 v5 S) (wX9_widest_133 K40 post v0 v3 v4 v5 S)) (xR S v0 9 7 fun a4 => xR S v0 9 37 fun a5 => xaI S a5 10 v8 fun a6 => xaI S a4 10 (((3 : Int32) * a6) + v5) fun a7 => br ((v6 &&& ((1 : Int32) <<< (a7 &&& 31))) = 0) (wX9_widest_100 K40 (wX9_widest_55 K40 post n) post v0 v3 v4 v5 v6 v8 ((1 : Int32) <<< (a7 &&& 31)) 1 v7 S) (wX9_widest_100 K40 (wX9_widest_55 K40 post n) post v0 v3 v4 v5 v6 v8 ((1 : Int32) <<< (a7 &&& 31)) 0 v7 S))
def wX9_widest_40 (post : Int32 → Pool → Prop) : Nat → Option Nat → Int32 → Int32 → Int32 → Pool → Prop
  | 0 => fun _ _ _ _ _ => False
  | n + 1 => fun v0 v3 v4 v5 S => br (3 ≤ v5) (post v3 S) (∃ n1, wX9_widest_55 (wX9_widest_40 post n) post n1 v0 v3 v4 v5 0 0 0 S)
def wX9_widest_14 (post : Int32 → Pool → Prop) (v0 : Option Nat) (v1 : Int32) (v2 : Int32) (z0 : Int32) (z1 : Option Nat) (S : Pool) : Prop := xpI S z1 9 0 z0 fun S1 => xI S1 v0 9 0 fun a2 => br (a2 ≤ 0) (xrc S1 v0 9 (wX9_work (fun S4 => ∃ n1, wX9_widest_40 post n1 v0 ((-1)) 0 0 S4) v0 v1 v2 S1)) (post 0 S1)
def wX9_widest (post : Int32 → Pool → Prop) (v0 : Option Nat) (v1 : Int32) (v2 : Int32) (S : Pool) : Prop := xrc S v0 9 (wX9_isQuestion (fun a2 S1 => br (a2 = 0) (wX9_widest_14 post v0 v1 v2 1 v0 S1) (wX9_widest_14 post v0 v1 v2 0 v0 S1)) v0 v1 S)
def rmX9_widest : Room := { frames := 3, cells := 0, slots := 0, locals := 77 }
section
variable {p : Program} {l : Launch} {e : Env} {R : Room} {s : State} {m : MethodId} {args : Array Value} {below : List Frame} {meth : Method} {c : Code} {D : va_G} {cy : Nat → ClassId} {A : Nat → Prop}
set_option maxRecDepth 100000 in
set_option maxHeartbeats 4000000 in
theorem tX9_widest_133 {K40 : Option Nat → Int32 → Int32 → Int32 → Pool → Prop} {post : Int32 → Pool → Prop} (M : MC p m c cX9_widest 10 s args RX9) (hr : meth.sig.returnType = (some FieldType.int)) (hlk : meth.locks = false) (hRf : 3 ≤ R.frames) (hRl : 77 ≤ R.locals) (hRc : 0 ≤ R.cells) (hRs : 0 ≤ R.slots) (hK40 : ∀ (v0 : Option Nat) (v3 : Int32) (v4 : Int32) (v5 : Int32) (S : Pool), K40 v0 v3 v4 v5 S → ∀ (H : Heap) (locs : List Loc) (ls : Array Slot), PB D cy A s S H locs → lv_has ls 10 [(0, va_rf v0), (3, .int v3), (4, .int v4), (5, .int v5)] → W p l e R s m args below meth c H locs 0 0 (MQ below (va_Qi post (PQ D cy A) A) args s 0 0 A) (F0 m 40 ls [])) : ∀ (v0 : Option Nat) (v3 : Int32) (v4 : Int32) (v5 : Int32) (S : Pool), wX9_widest_133 K40 post v0 v3 v4 v5 S → ∀ (H : Heap) (locs : List Loc) (ls : Array Slot), PB D cy A s S H locs → lv_has ls 10 [(0, va_rf v0), (3, .int v3), (4, .int v4), (5, .int v5)] → W p l e R s m args below meth c H locs 0 0 (MQ below (va_Qi post (PQ D cy A) A) args s 0 0 A) (F0 m 133 ls []) := by
  intro v0 v3 v4 v5 S h H locs ls B hl
  unfold wX9_widest_133 at h
  refine lv_iinc (v := v5 + 1) (lv' := [(5, .int (v5 + 1)), (0, va_rf v0), (3, .int v3), (4, .int v4)]) M.1 M.2.1 dX9_widest_133 hl (k := 3) rfl (by rfl) (by decide) (fl_e (fl_k rfl rfl (fl_k rfl rfl (fl_i rfl (fl_d rfl fl_0))))) (fun ls hl => ?_)
  refine lv_goto (tgt := 40) M.1 M.2.1 dX9_widest_136 (by decide) ?_
  exact hK40 _ _ _ _ _ h _ _ _ B (lv_sub hl [1, 2, 3, 0] rfl)
set_option maxRecDepth 100000 in
set_option maxHeartbeats 4000000 in
theorem tX9_widest_100 {K40 : Option Nat → Int32 → Int32 → Int32 → Pool → Prop} {K55 : Option Nat → Int32 → Int32 → Int32 → Int32 → Int32 → Int32 → Pool → Prop} {post : Int32 → Pool → Prop} (M : MC p m c cX9_widest 10 s args RX9) (hr : meth.sig.returnType = (some FieldType.int)) (hlk : meth.locks = false) (hRf : 3 ≤ R.frames) (hRl : 77 ≤ R.locals) (hRc : 0 ≤ R.cells) (hRs : 0 ≤ R.slots) (hK40 : ∀ (v0 : Option Nat) (v3 : Int32) (v4 : Int32) (v5 : Int32) (S : Pool), K40 v0 v3 v4 v5 S → ∀ (H : Heap) (locs : List Loc) (ls : Array Slot), PB D cy A s S H locs → lv_has ls 10 [(0, va_rf v0), (3, .int v3), (4, .int v4), (5, .int v5)] → W p l e R s m args below meth c H locs 0 0 (MQ below (va_Qi post (PQ D cy A) A) args s 0 0 A) (F0 m 40 ls [])) (hK55 : ∀ (v0 : Option Nat) (v3 : Int32) (v4 : Int32) (v5 : Int32) (v6 : Int32) (v7 : Int32) (v8 : Int32) (S : Pool), K55 v0 v3 v4 v5 v6 v7 v8 S → ∀ (H : Heap) (locs : List Loc) (ls : Array Slot), PB D cy A s S H locs → lv_has ls 10 [(0, va_rf v0), (3, .int v3), (4, .int v4), (5, .int v5), (6, .int v6), (7, .int v7), (8, .int v8)] → W p l e R s m args below meth c H locs 0 0 (MQ below (va_Qi post (PQ D cy A) A) args s 0 0 A) (F0 m 55 ls [])) : ∀ (v0 : Option Nat) (v3 : Int32) (v4 : Int32) (v5 : Int32) (v6 : Int32) (v8 : Int32) (v9 : Int32) (z0 : Int32) (z1 : Int32) (S : Pool), wX9_widest_100 K40 K55 post v0 v3 v4 v5 v6 v8 v9 z0 z1 S → ∀ (H : Heap) (locs : List Loc) (ls : Array Slot), PB D cy A s S H locs → lv_has ls 10 [(0, va_rf v0), (3, .int v3), (4, .int v4), (5, .int v5), (6, .int v6), (8, .int v8), (9, .int v9)] → W p l e R s m args below meth c H locs 0 0 (MQ below (va_Qi post (PQ D cy A) A) args s 0 0 A) (F0 m 100 ls [.int z0, .int z1]) := by
  intro v0 v3 v4 v5 v6 v8 v9 z0 z1 S h H locs ls B hl
  unfold wX9_widest_100 at h
  refine lv_iadd M.1 M.2.1 dX9_widest_100 ?_
  refine lv_istore (lv' := [(7, .int (z1 + z0)), (0, va_rf v0), (3, .int v3), (4, .int v4), (5, .int v5), (6, .int v6), (8, .int v8), (9, .int v9)]) M.1 M.2.1 dX9_widest_101 hl (by decide) (fl_e (fl_k rfl rfl (fl_k rfl rfl (fl_k rfl rfl (fl_k rfl rfl (fl_i rfl (fl_k rfl rfl (fl_k rfl rfl fl_0)))))))) (fun ls hl => ?_)
  refine lv_iload M.1 M.2.1 dX9_widest_103 (lv_at hl 5 rfl) ?_
  refine lv_iload M.1 M.2.1 dX9_widest_105 (lv_at hl 7 rfl) ?_
  refine lv_ior M.1 M.2.1 dX9_widest_107 ?_
  refine lv_istore (lv' := [(6, .int (v6 ||| v9)), (7, .int (z1 + z0)), (0, va_rf v0), (3, .int v3), (4, .int v4), (5, .int v5), (8, .int v8), (9, .int v9)]) M.1 M.2.1 dX9_widest_108 hl (by decide) (fl_e (fl_k rfl rfl (fl_k rfl rfl (fl_k rfl rfl (fl_k rfl rfl (fl_i rfl (fl_d rfl (fl_k rfl rfl (fl_k rfl rfl fl_0))))))))) (fun ls hl => ?_)
  refine lv_iinc (v := v8 + 1) (lv' := [(8, .int (v8 + 1)), (6, .int (v6 ||| v9)), (7, .int (z1 + z0)), (0, va_rf v0), (3, .int v3), (4, .int v4), (5, .int v5), (9, .int v9)]) M.1 M.2.1 dX9_widest_110 hl (k := 6) rfl (by rfl) (by decide) (fl_e (fl_k rfl rfl (fl_i rfl (fl_k rfl rfl (fl_k rfl rfl (fl_k rfl rfl (fl_k rfl rfl (fl_d rfl (fl_k rfl rfl fl_0))))))))) (fun ls hl => ?_)
  refine lv_goto (tgt := 55) M.1 M.2.1 dX9_widest_113 (by decide) ?_
  exact hK55 _ _ _ _ _ _ _ _ h _ _ _ B (lv_sub hl [3, 4, 5, 6, 1, 2, 0] rfl)
set_option maxRecDepth 100000 in
set_option maxHeartbeats 4000000 in
theorem tX9_widest_55 {K40 : Option Nat → Int32 → Int32 → Int32 → Pool → Prop} {post : Int32 → Pool → Prop} (M : MC p m c cX9_widest 10 s args RX9) (hr : meth.sig.returnType = (some FieldType.int)) (hlk : meth.locks = false) (hRf : 3 ≤ R.frames) (hRl : 77 ≤ R.locals) (hRc : 0 ≤ R.cells) (hRs : 0 ≤ R.slots) (hK40 : ∀ (v0 : Option Nat) (v3 : Int32) (v4 : Int32) (v5 : Int32) (S : Pool), K40 v0 v3 v4 v5 S → ∀ (H : Heap) (locs : List Loc) (ls : Array Slot), PB D cy A s S H locs → lv_has ls 10 [(0, va_rf v0), (3, .int v3), (4, .int v4), (5, .int v5)] → W p l e R s m args below meth c H locs 0 0 (MQ below (va_Qi post (PQ D cy A) A) args s 0 0 A) (F0 m 40 ls [])) : ∀ (n : Nat) (v0 : Option Nat) (v3 : Int32) (v4 : Int32) (v5 : Int32) (v6 : Int32) (v7 : Int32) (v8 : Int32) (S : Pool), wX9_widest_55 K40 post n v0 v3 v4 v5 v6 v7 v8 S → ∀ (H : Heap) (locs : List Loc) (ls : Array Slot), PB D cy A s S H locs → lv_has ls 10 [(0, va_rf v0), (3, .int v3), (4, .int v4), (5, .int v5), (6, .int v6), (7, .int v7), (8, .int v8)] → W p l e R s m args below meth c H locs 0 0 (MQ below (va_Qi post (PQ D cy A) A) args s 0 0 A) (F0 m 55 ls []) := by
  intro n
  induction n with
  | zero => intro v0 v3 v4 v5 v6 v7 v8 S h; exact False.elim h
  | succ n ih =>
    intro v0 v3 v4 v5 v6 v7 v8 S h H locs ls B hl
    unfold wX9_widest_55 at h
    refine lv_iload M.1 M.2.1 dX9_widest_55 (lv_at hl 6 rfl) ?_
    refine g_aload_n M dX9_widest_57 rfl (lv_at hl 0 rfl) ?_
    refine gfX9_212 M B dX9_widest_58 h (fun a1 h => ?_)
    refine lv_icmp_ge (tgt := 116) M.1 M.2.1 dX9_widest_61 (by decide) (fun c2 => ?_) (fun c2 => ?_)
    · have h := h.1 c2
      refine lv_iload M.1 M.2.1 dX9_widest_116 (lv_at hl 5 rfl) ?_
      refine lv_iload M.1 M.2.1 dX9_widest_118 (lv_at hl 2 rfl) ?_
      refine lv_icmp_gt (tgt := 126) M.1 M.2.1 dX9_widest_120 (by decide) (fun c3 => ?_) (fun c3 => ?_)
      · have h := h.1 c3
        refine lv_iload M.1 M.2.1 dX9_widest_126 (lv_at hl 3 rfl) ?_
        refine lv_istore_n (lv' := [(3, .int v5), (0, va_rf v0), (4, .int v4), (5, .int v5), (6, .int v6), (7, .int v7), (8, .int v8)]) M.1 M.2.1 dX9_widest_128 rfl hl (by decide) (fl_e (fl_k rfl rfl (fl_d rfl (fl_k rfl rfl (fl_k rfl rfl (fl_k rfl rfl (fl_k rfl rfl (fl_k rfl rfl fl_0)))))))) (fun ls hl => ?_)
        refine lv_iload M.1 M.2.1 dX9_widest_129 (lv_at hl 5 rfl) ?_
        refine lv_istore (lv' := [(4, .int v7), (3, .int v5), (0, va_rf v0), (5, .int v5), (6, .int v6), (7, .int v7), (8, .int v8)]) M.1 M.2.1 dX9_widest_131 hl (by decide) (fl_e (fl_i rfl (fl_k rfl rfl (fl_d rfl (fl_k rfl rfl (fl_k rfl rfl (fl_k rfl rfl (fl_k rfl rfl fl_0)))))))) (fun ls hl => ?_)
        exact tX9_widest_133 M hr hlk hRf hRl hRc hRs hK40 _ _ _ _ _ h _ _ _ B (lv_sub hl [2, 1, 0, 3] rfl)
      · have h := h.2 c3
        refine lv_goto (tgt := 133) M.1 M.2.1 dX9_widest_123 (by decide) ?_
        exact tX9_widest_133 M hr hlk hRf hRl hRc hRs hK40 _ _ _ _ _ h _ _ _ B (lv_sub hl [0, 1, 2, 3] rfl)
    · have h := h.2 c2
      refine lv_iconst (v := 1) M.1 M.2.1 dX9_widest_64 (by decide) ?_
      refine g_aload_n M dX9_widest_65 rfl (lv_at hl 0 rfl) ?_
      refine gfX9_20 M B dX9_widest_66 h (fun a4 h => ?_)
      refine lv_iconst (v := 3) M.1 M.2.1 dX9_widest_69 (by decide) ?_
      refine g_aload_n M dX9_widest_70 rfl (lv_at hl 0 rfl) ?_
      refine gfX9_87 M B dX9_widest_71 h (fun a5 h => ?_)
      refine lv_iload M.1 M.2.1 dX9_widest_74 (lv_at hl 6 rfl) ?_
      refine g_iald M B dX9_widest_76 h (fun a6 h => ?_)
      refine lv_imul M.1 M.2.1 dX9_widest_77 ?_
      refine lv_iload M.1 M.2.1 dX9_widest_78 (lv_at hl 3 rfl) ?_
      refine lv_iadd M.1 M.2.1 dX9_widest_80 ?_
      refine g_iald M B dX9_widest_81 h (fun a7 h => ?_)
      refine lv_ishl M.1 M.2.1 dX9_widest_82 ?_
      refine lv_istore (lv' := [(9, .int ((1 : Int32) <<< (a7 &&& 31))), (0, va_rf v0), (3, .int v3), (4, .int v4), (5, .int v5), (6, .int v6), (7, .int v7), (8, .int v8)]) M.1 M.2.1 dX9_widest_83 hl (by decide) (fl_e (fl_k rfl rfl (fl_k rfl rfl (fl_k rfl rfl (fl_k rfl rfl (fl_k rfl rfl (fl_k rfl rfl (fl_i rfl fl_0)))))))) (fun ls hl => ?_)
      refine lv_iload M.1 M.2.1 dX9_widest_85 (lv_at hl 6 rfl) ?_
      refine lv_iload M.1 M.2.1 dX9_widest_87 (lv_at hl 5 rfl) ?_
      refine lv_iload M.1 M.2.1 dX9_widest_89 (lv_at hl 0 rfl) ?_
      refine lv_iand M.1 M.2.1 dX9_widest_91 ?_
      refine lv_if_ne (tgt := 99) M.1 M.2.1 dX9_widest_92 (by decide) (fun c8 => ?_) (fun c8 => ?_)
      · have h := h.2 c8
        refine lv_iconst (v := 0) M.1 M.2.1 dX9_widest_99 (by decide) ?_
        exact tX9_widest_100 M hr hlk hRf hRl hRc hRs hK40 ih _ _ _ _ _ _ _ _ _ _ h _ _ _ B (lv_sub hl [1, 2, 3, 4, 5, 7, 0] rfl)
      · have h := h.1 c8
        refine lv_iconst (v := 1) M.1 M.2.1 dX9_widest_95 (by decide) ?_
        refine lv_goto (tgt := 100) M.1 M.2.1 dX9_widest_96 (by decide) ?_
        exact tX9_widest_100 M hr hlk hRf hRl hRc hRs hK40 ih _ _ _ _ _ _ _ _ _ _ h _ _ _ B (lv_sub hl [1, 2, 3, 4, 5, 7, 0] rfl)
set_option maxRecDepth 100000 in
set_option maxHeartbeats 4000000 in
theorem tX9_widest_40 {post : Int32 → Pool → Prop} (M : MC p m c cX9_widest 10 s args RX9) (hr : meth.sig.returnType = (some FieldType.int)) (hlk : meth.locks = false) (hRf : 3 ≤ R.frames) (hRl : 77 ≤ R.locals) (hRc : 0 ≤ R.cells) (hRs : 0 ≤ R.slots) : ∀ (n : Nat) (v0 : Option Nat) (v3 : Int32) (v4 : Int32) (v5 : Int32) (S : Pool), wX9_widest_40 post n v0 v3 v4 v5 S → ∀ (H : Heap) (locs : List Loc) (ls : Array Slot), PB D cy A s S H locs → lv_has ls 10 [(0, va_rf v0), (3, .int v3), (4, .int v4), (5, .int v5)] → W p l e R s m args below meth c H locs 0 0 (MQ below (va_Qi post (PQ D cy A) A) args s 0 0 A) (F0 m 40 ls []) := by
  intro n
  induction n with
  | zero => intro v0 v3 v4 v5 S h; exact False.elim h
  | succ n ih =>
    intro v0 v3 v4 v5 S h H locs ls B hl
    unfold wX9_widest_40 at h
    refine lv_iload M.1 M.2.1 dX9_widest_40 (lv_at hl 3 rfl) ?_
    refine lv_iconst (v := 3) M.1 M.2.1 dX9_widest_42 (by decide) ?_
    refine lv_icmp_ge (tgt := 139) M.1 M.2.1 dX9_widest_43 (by decide) (fun c1 => ?_) (fun c1 => ?_)
    · have h := h.1 c1
      refine lv_iload_n M.1 M.2.1 dX9_widest_139 rfl (lv_at hl 1 rfl) ?_
      exact g_iret M B hr hlk h (by decide) (by decide) dX9_widest_140
    · have h := h.2 c1
      refine lv_iconst (v := 0) M.1 M.2.1 dX9_widest_46 (by decide) ?_
      refine lv_istore (lv' := [(6, .int 0), (0, va_rf v0), (3, .int v3), (4, .int v4), (5, .int v5)]) M.1 M.2.1 dX9_widest_47 hl (by decide) (fl_e (fl_k rfl rfl (fl_k rfl rfl (fl_k rfl rfl (fl_i rfl fl_0))))) (fun ls hl => ?_)
      refine lv_iconst (v := 0) M.1 M.2.1 dX9_widest_49 (by decide) ?_
      refine lv_istore (lv' := [(7, .int 0), (6, .int 0), (0, va_rf v0), (3, .int v3), (4, .int v4), (5, .int v5)]) M.1 M.2.1 dX9_widest_50 hl (by decide) (fl_e (fl_i rfl (fl_k rfl rfl (fl_k rfl rfl (fl_k rfl rfl (fl_k rfl rfl fl_0)))))) (fun ls hl => ?_)
      refine lv_iconst (v := 0) M.1 M.2.1 dX9_widest_52 (by decide) ?_
      refine lv_istore (lv' := [(8, .int 0), (7, .int 0), (6, .int 0), (0, va_rf v0), (3, .int v3), (4, .int v4), (5, .int v5)]) M.1 M.2.1 dX9_widest_53 hl (by decide) (fl_e (fl_i rfl (fl_k rfl rfl (fl_k rfl rfl (fl_k rfl rfl (fl_k rfl rfl (fl_k rfl rfl fl_0))))))) (fun ls hl => ?_)
      obtain ⟨n1, h⟩ := h
      exact tX9_widest_55 M hr hlk hRf hRl hRc hRs ih n1 _ _ _ _ _ _ _ _ h _ _ _ B (lv_sub hl [3, 4, 5, 6, 2, 1, 0] rfl)
set_option maxRecDepth 100000 in
set_option maxHeartbeats 4000000 in
theorem tX9_widest_14 {post : Int32 → Pool → Prop} (M : MC p m c cX9_widest 10 s args RX9) (hr : meth.sig.returnType = (some FieldType.int)) (hlk : meth.locks = false) (hRf : 3 ≤ R.frames) (hRl : 77 ≤ R.locals) (hRc : 0 ≤ R.cells) (hRs : 0 ≤ R.slots) : ∀ (v0 : Option Nat) (v1 : Int32) (v2 : Int32) (z0 : Int32) (z1 : Option Nat) (S : Pool), wX9_widest_14 post v0 v1 v2 z0 z1 S → ∀ (H : Heap) (locs : List Loc) (ls : Array Slot), PB D cy A s S H locs → lv_has ls 10 [(0, va_rf v0), (1, .int v1), (2, .int v2)] → W p l e R s m args below meth c H locs 0 0 (MQ below (va_Qi post (PQ D cy A) A) args s 0 0 A) (F0 m 14 ls [.int z0, va_rf z1]) := by
  intro v0 v1 v2 z0 z1 S h H locs ls B hl
  unfold wX9_widest_14 at h
  refine gpX9_99 M B dX9_widest_14 h (fun S1 H locs h B => ?_)
  refine g_aload_n M dX9_widest_17 rfl (lv_at hl 0 rfl) ?_
  refine gfX9_99 M B dX9_widest_18 h (fun a2 h => ?_)
  refine lv_if_le (tgt := 26) M.1 M.2.1 dX9_widest_21 (by decide) (fun c3 => ?_) (fun c3 => ?_)
  · have h := h.1 c3
    refine g_aload_n M dX9_widest_26 rfl (lv_at hl 0 rfl) ?_
    refine lv_iload_n M.1 M.2.1 dX9_widest_27 rfl (lv_at hl 1 rfl) ?_
    refine lv_iload_n M.1 M.2.1 dX9_widest_28 rfl (lv_at hl 2 rfl) ?_
    obtain ⟨o1, e1, hL1, hK1, h⟩ := h
    refine g_callv (k1 := 0) (k2 := 0) B (g_runV (n := 2) (As := [.int v1, .int v2]) (rm := rmX9_work) M B e1 (kX9_work (v0 := v0) (v1 := v1) (v2 := v2) l D cy h _) wmX9_236 wiX9_work wsX9_work wnX9 wcdX9_work ⟨rfl, by decide, by decide, by decide +kernel⟩ ⟨Nat.le_trans (by decide) hRf, Nat.le_trans (by decide) hRl⟩ ⟨Nat.le_trans (by decide) hRc, Nat.le_trans (by decide) hRs⟩ hL1 hK1 (by decide) rfl rfl rfl hl.1 rfl ct_0 (by decide) dX9_widest_29) (by decide) (by decide) (fun S4 H locs h B => ?_)
    refine lv_iconst (v := (-1)) M.1 M.2.1 dX9_widest_32 (by decide) ?_
    refine lv_istore_n (lv' := [(3, .int ((-1))), (0, va_rf v0), (1, .int v1), (2, .int v2)]) M.1 M.2.1 dX9_widest_33 rfl hl (by decide) (fl_e (fl_k rfl rfl (fl_k rfl rfl (fl_i rfl fl_0)))) (fun ls hl => ?_)
    refine lv_iconst (v := 0) M.1 M.2.1 dX9_widest_34 (by decide) ?_
    refine lv_istore (lv' := [(4, .int 0), (3, .int ((-1))), (0, va_rf v0), (1, .int v1), (2, .int v2)]) M.1 M.2.1 dX9_widest_35 hl (by decide) (fl_e (fl_i rfl (fl_k rfl rfl (fl_k rfl rfl (fl_k rfl rfl fl_0))))) (fun ls hl => ?_)
    refine lv_iconst (v := 0) M.1 M.2.1 dX9_widest_37 (by decide) ?_
    refine lv_istore (lv' := [(5, .int 0), (4, .int 0), (3, .int ((-1))), (0, va_rf v0), (1, .int v1), (2, .int v2)]) M.1 M.2.1 dX9_widest_38 hl (by decide) (fl_e (fl_i rfl (fl_k rfl rfl (fl_k rfl rfl (fl_k rfl rfl (fl_k rfl rfl fl_0)))))) (fun ls hl => ?_)
    obtain ⟨n1, h⟩ := h
    exact tX9_widest_40 M hr hlk hRf hRl hRc hRs n1 _ _ _ _ _ h _ _ _ B (lv_sub hl [3, 2, 1, 0] rfl)
  · have h := h.2 c3
    refine lv_iconst (v := 0) M.1 M.2.1 dX9_widest_24 (by decide) ?_
    exact g_iret M B hr hlk h (by decide) (by decide) dX9_widest_25
set_option maxRecDepth 100000 in
set_option maxHeartbeats 4000000 in
theorem tX9_widest {post : Int32 → Pool → Prop} (M : MC p m c cX9_widest 10 s args RX9) (hr : meth.sig.returnType = (some FieldType.int)) (hlk : meth.locks = false) (hRf : 3 ≤ R.frames) (hRl : 77 ≤ R.locals) (hRc : 0 ≤ R.cells) (hRs : 0 ≤ R.slots) : ∀ (v0 : Option Nat) (v1 : Int32) (v2 : Int32) (S : Pool), wX9_widest post v0 v1 v2 S → ∀ (H : Heap) (locs : List Loc) (ls : Array Slot), PB D cy A s S H locs → lv_has ls 10 [(0, va_rf v0), (1, .int v1), (2, .int v2)] → W p l e R s m args below meth c H locs 0 0 (MQ below (va_Qi post (PQ D cy A) A) args s 0 0 A) (F0 m 0 ls []) := by
  intro v0 v1 v2 S h H locs ls B hl
  unfold wX9_widest at h
  refine g_aload_n M dX9_widest_0 rfl (lv_at hl 0 rfl) ?_
  refine g_aload_n M dX9_widest_1 rfl (lv_at hl 0 rfl) ?_
  refine lv_iload_n M.1 M.2.1 dX9_widest_2 rfl (lv_at hl 1 rfl) ?_
  obtain ⟨o1, e1, hL1, hK1, h⟩ := h
  refine g_calli (k1 := 0) (k2 := 0) B (g_runV (n := 1) (As := [.int v1]) (rm := rmX9_isQuestion) M B e1 (kX9_isQuestion (v0 := v0) (v1 := v1) l D cy h _) wmX9_233 wiX9_isQuestion wsX9_isQuestion wnX9 wcdX9_isQuestion ⟨rfl, by decide, by decide, by decide +kernel⟩ ⟨Nat.le_trans (by decide) hRf, Nat.le_trans (by decide) hRl⟩ ⟨Nat.le_trans (by decide) hRc, Nat.le_trans (by decide) hRs⟩ hL1 hK1 (by decide) rfl rfl rfl hl.1 rfl (ct_r ct_0) (by decide) dX9_widest_3) (by decide) (by decide) (fun a2 S1 H locs h B => ?_)
  refine lv_if_ne (tgt := 13) M.1 M.2.1 dX9_widest_6 (by decide) (fun c3 => ?_) (fun c3 => ?_)
  · have h := h.2 c3
    refine lv_iconst (v := 0) M.1 M.2.1 dX9_widest_13 (by decide) ?_
    exact tX9_widest_14 M hr hlk hRf hRl hRc hRs _ _ _ _ _ _ h _ _ _ B (lv_sub hl [0, 1, 2] rfl)
  · have h := h.1 c3
    refine lv_iconst (v := 1) M.1 M.2.1 dX9_widest_9 (by decide) ?_
    refine lv_goto (tgt := 14) M.1 M.2.1 dX9_widest_10 (by decide) ?_
    exact tX9_widest_14 M hr hlk hRf hRl hRc hRs _ _ _ _ _ _ h _ _ _ B (lv_sub hl [0, 1, 2] rfl)
end
set_option maxRecDepth 100000 in
set_option maxHeartbeats 4000000 in
theorem kX9_widest (l : Launch) (D : va_G) (cy : Nat → ClassId) {post : Int32 → Pool → Prop} {v0 : Option Nat} {v1 : Int32} {v2 : Int32} {S : Pool} (h : wX9_widest post v0 v1 v2 S) : MetI l yX9_widest cX9_widest 10 (some FieldType.int) rmX9_widest [va_rf v0, .int v1, .int v2] D cy S post := by
  intro sz
  refine Met.ofW (cc := cX9_widest) (maxL := 10) (ret := (some FieldType.int)) (by decide) rfl ?_
  intro p e s m args below meth c s₁ B0 hml hv
  obtain ⟨rfl, hpp⟩ := hv
  have hts := atoms_spec (ws := .code yX9_widest cX9_widest 10 (some FieldType.int) :: Gw) B0.pre
  obtain rfl : s.heap.size = sz := hpp.1
  have hl := lv_entry [va_rf v0, .int v1, .int v2] (n := 10) (by rw [sl_r, sl_i, sl_i, sl_0]; decide)
  rw [lg_entry_eq]
  rw [la_r, la_i, la_i, la_0] at hl
  exact tX9_widest (l := l) (R := rmX9_widest) ⟨B0.exec, B0.bytes, hml, findClass_of_methodNamed B0.named, fun w hw => hts w (List.mem_cons_of_mem _ hw)⟩ B0.returns B0.notSynchronized (Nat.le_refl _) (Nat.le_refl _) (Nat.le_refl _) (Nat.le_refl _) _ _ _ _ h _ _ _ hpp.pb (lv_sub hl [0, 1, 2] rfl)
-- X9_count: LogHuntModel.count(I)I
def wX9_count_129 (post : Int32 → Pool → Prop) : Nat → Option Nat → Int32 → Int32 → Pool → Prop
  | 0 => fun _ _ _ _ => False
  | n + 1 => fun v0 v2 v3 S => xI S v0 9 11 fun a1 => br (a1 ≤ v3) (post v2 S) (xI S v0 9 1 fun a3 => xrc S v0 9 (wX9_work (fun S4 => xI S4 v0 9 36 fun a5 => wX9_count_129 post n v0 (v2 + a5) (v3 + 1) S4) v0 v3 a3 S))
def wX9_count_117 (K88 : Option Nat → Int32 → Int32 → Pool → Prop) (post : Int32 → Pool → Prop) (v0 : Option Nat) (v3 : Int32) (z0 : Int32) (z1 : Int32) (S : Pool) : Prop := K88 v0 (z1 + z0) (v3 + 1) S
def wX9_count_88 (post : Int32 → Pool → Prop) : Nat → Option Nat → Int32 → Int32 → Pool → Prop
  | 0 => fun _ _ _ _ => False
  | n + 1 => fun v0 v2 v3 S => xI S v0 9 4 fun a1 => br (a1 ≤ v3) (post v2 S) (xR S v0 9 9 fun a3 => xaI S a3 10 v3 fun a4 => xR S v0 9 8 fun a5 => xaI S a5 10 v3 fun a6 => br (a4 ≤ a6) (wX9_count_117 (wX9_count_88 post n) post v0 v3 0 v2 S) (wX9_count_117 (wX9_count_88 post n) post v0 v3 1 v2 S))
def wX9_count (post : Int32 → Pool → Prop) (v0 : Option Nat) (v1 : Int32) (S : Pool) : Prop := xpI S v0 9 0 0 fun S1 => br (v1.toInt < 0 ∨ 7 < v1.toInt) (post ((-1)) S1) (br (v1.toInt = 0) (xI S1 v0 9 1 fun a3 => post a3 S1) (br (v1.toInt = 1) (xI S1 v0 9 4 fun a5 => post a5 S1) (br (v1.toInt = 2) (xI S1 v0 9 5 fun a7 => post a7 S1) (br (v1.toInt = 3) (xI S1 v0 9 11 fun a9 => post a9 S1) (br (v1.toInt = 4) (xI S1 v0 9 22 fun a11 => post a11 S1) (br (v1.toInt = 5) (xI S1 v0 9 2 fun a13 => post a13 S1) (br (v1.toInt = 6) (∃ n1, wX9_count_88 post n1 v0 0 0 S1) (∃ n1, wX9_count_129 post n1 v0 0 0 S1))))))))
def rmX9_count : Room := { frames := 3, cells := 0, slots := 0, locals := 77 }
section
variable {p : Program} {l : Launch} {e : Env} {R : Room} {s : State} {m : MethodId} {args : Array Value} {below : List Frame} {meth : Method} {c : Code} {D : va_G} {cy : Nat → ClassId} {A : Nat → Prop}
set_option maxRecDepth 100000 in
set_option maxHeartbeats 4000000 in
theorem tX9_count_129 {post : Int32 → Pool → Prop} (M : MC p m c cX9_count 4 s args RX9) (hr : meth.sig.returnType = (some FieldType.int)) (hlk : meth.locks = false) (hRf : 3 ≤ R.frames) (hRl : 77 ≤ R.locals) (hRc : 0 ≤ R.cells) (hRs : 0 ≤ R.slots) : ∀ (n : Nat) (v0 : Option Nat) (v2 : Int32) (v3 : Int32) (S : Pool), wX9_count_129 post n v0 v2 v3 S → ∀ (H : Heap) (locs : List Loc) (ls : Array Slot), PB D cy A s S H locs → lv_has ls 4 [(0, va_rf v0), (2, .int v2), (3, .int v3)] → W p l e R s m args below meth c H locs 0 0 (MQ below (va_Qi post (PQ D cy A) A) args s 0 0 A) (F0 m 129 ls []) := by
  intro n
  induction n with
  | zero => intro v0 v2 v3 S h; exact False.elim h
  | succ n ih =>
    intro v0 v2 v3 S h H locs ls B hl
    unfold wX9_count_129 at h
    refine lv_iload_n M.1 M.2.1 dX9_count_129 rfl (lv_at hl 2 rfl) ?_
    refine g_aload_n M dX9_count_130 rfl (lv_at hl 0 rfl) ?_
    refine gfX9_102 M B dX9_count_131 h (fun a1 h => ?_)
    refine lv_icmp_ge (tgt := 159) M.1 M.2.1 dX9_count_134 (by decide) (fun c2 => ?_) (fun c2 => ?_)
    · have h := h.1 c2
      refine lv_iload_n M.1 M.2.1 dX9_count_159 rfl (lv_at hl 1 rfl) ?_
      exact g_iret M B hr hlk h (by decide) (by decide) dX9_count_160
    · have h := h.2 c2
      refine g_aload_n M dX9_count_137 rfl (lv_at hl 0 rfl) ?_
      refine lv_iload_n M.1 M.2.1 dX9_count_138 rfl (lv_at hl 2 rfl) ?_
      refine g_aload_n M dX9_count_139 rfl (lv_at hl 0 rfl) ?_
      refine gfX9_120 M B dX9_count_140 h (fun a3 h => ?_)
      obtain ⟨o1, e1, hL1, hK1, h⟩ := h
      refine g_callv (k1 := 0) (k2 := 0) B (g_runV (n := 2) (As := [.int v3, .int a3]) (rm := rmX9_work) M B e1 (kX9_work (v0 := v0) (v1 := v3) (v2 := a3) l D cy h _) wmX9_236 wiX9_work wsX9_work wnX9 wcdX9_work ⟨rfl, by decide, by decide, by decide +kernel⟩ ⟨Nat.le_trans (by decide) hRf, Nat.le_trans (by decide) hRl⟩ ⟨Nat.le_trans (by decide) hRc, Nat.le_trans (by decide) hRs⟩ hL1 hK1 (by decide) rfl rfl rfl hl.1 rfl ct_0 (by decide) dX9_count_143) (by decide) (by decide) (fun S4 H locs h B => ?_)
      refine lv_iload_n M.1 M.2.1 dX9_count_146 rfl (lv_at hl 1 rfl) ?_
      refine g_aload_n M dX9_count_147 rfl (lv_at hl 0 rfl) ?_
      refine gfX9_212 M B dX9_count_148 h (fun a5 h => ?_)
      refine lv_iadd M.1 M.2.1 dX9_count_151 ?_
      refine lv_istore_n (lv' := [(2, .int (v2 + a5)), (0, va_rf v0), (3, .int v3)]) M.1 M.2.1 dX9_count_152 rfl hl (by decide) (fl_e (fl_k rfl rfl (fl_d rfl (fl_k rfl rfl fl_0)))) (fun ls hl => ?_)
      refine lv_iinc (v := v3 + 1) (lv' := [(3, .int (v3 + 1)), (2, .int (v2 + a5)), (0, va_rf v0)]) M.1 M.2.1 dX9_count_153 hl (k := 2) rfl (by rfl) (by decide) (fl_e (fl_i rfl (fl_k rfl rfl (fl_d rfl fl_0)))) (fun ls hl => ?_)
      refine lv_goto (tgt := 129) M.1 M.2.1 dX9_count_156 (by decide) ?_
      exact ih _ _ _ _ h _ _ _ B (lv_sub hl [2, 1, 0] rfl)
set_option maxRecDepth 100000 in
set_option maxHeartbeats 4000000 in
theorem tX9_count_117 {K88 : Option Nat → Int32 → Int32 → Pool → Prop} {post : Int32 → Pool → Prop} (M : MC p m c cX9_count 4 s args RX9) (hr : meth.sig.returnType = (some FieldType.int)) (hlk : meth.locks = false) (hRf : 3 ≤ R.frames) (hRl : 77 ≤ R.locals) (hRc : 0 ≤ R.cells) (hRs : 0 ≤ R.slots) (hK88 : ∀ (v0 : Option Nat) (v2 : Int32) (v3 : Int32) (S : Pool), K88 v0 v2 v3 S → ∀ (H : Heap) (locs : List Loc) (ls : Array Slot), PB D cy A s S H locs → lv_has ls 4 [(0, va_rf v0), (2, .int v2), (3, .int v3)] → W p l e R s m args below meth c H locs 0 0 (MQ below (va_Qi post (PQ D cy A) A) args s 0 0 A) (F0 m 88 ls [])) : ∀ (v0 : Option Nat) (v3 : Int32) (z0 : Int32) (z1 : Int32) (S : Pool), wX9_count_117 K88 post v0 v3 z0 z1 S → ∀ (H : Heap) (locs : List Loc) (ls : Array Slot), PB D cy A s S H locs → lv_has ls 4 [(0, va_rf v0), (3, .int v3)] → W p l e R s m args below meth c H locs 0 0 (MQ below (va_Qi post (PQ D cy A) A) args s 0 0 A) (F0 m 117 ls [.int z0, .int z1]) := by
  intro v0 v3 z0 z1 S h H locs ls B hl
  unfold wX9_count_117 at h
  refine lv_iadd M.1 M.2.1 dX9_count_117 ?_
  refine lv_istore_n (lv' := [(2, .int (z1 + z0)), (0, va_rf v0), (3, .int v3)]) M.1 M.2.1 dX9_count_118 rfl hl (by decide) (fl_e (fl_k rfl rfl (fl_k rfl rfl fl_0))) (fun ls hl => ?_)
  refine lv_iinc (v := v3 + 1) (lv' := [(3, .int (v3 + 1)), (2, .int (z1 + z0)), (0, va_rf v0)]) M.1 M.2.1 dX9_count_119 hl (k := 2) rfl (by rfl) (by decide) (fl_e (fl_i rfl (fl_k rfl rfl (fl_d rfl fl_0)))) (fun ls hl => ?_)
  refine lv_goto (tgt := 88) M.1 M.2.1 dX9_count_122 (by decide) ?_
  exact hK88 _ _ _ _ h _ _ _ B (lv_sub hl [2, 1, 0] rfl)
set_option maxRecDepth 100000 in
set_option maxHeartbeats 4000000 in
theorem tX9_count_88 {post : Int32 → Pool → Prop} (M : MC p m c cX9_count 4 s args RX9) (hr : meth.sig.returnType = (some FieldType.int)) (hlk : meth.locks = false) (hRf : 3 ≤ R.frames) (hRl : 77 ≤ R.locals) (hRc : 0 ≤ R.cells) (hRs : 0 ≤ R.slots) : ∀ (n : Nat) (v0 : Option Nat) (v2 : Int32) (v3 : Int32) (S : Pool), wX9_count_88 post n v0 v2 v3 S → ∀ (H : Heap) (locs : List Loc) (ls : Array Slot), PB D cy A s S H locs → lv_has ls 4 [(0, va_rf v0), (2, .int v2), (3, .int v3)] → W p l e R s m args below meth c H locs 0 0 (MQ below (va_Qi post (PQ D cy A) A) args s 0 0 A) (F0 m 88 ls []) := by
  intro n
  induction n with
  | zero => intro v0 v2 v3 S h; exact False.elim h
  | succ n ih =>
    intro v0 v2 v3 S h H locs ls B hl
    unfold wX9_count_88 at h
    refine lv_iload_n M.1 M.2.1 dX9_count_88 rfl (lv_at hl 2 rfl) ?_
    refine g_aload_n M dX9_count_89 rfl (lv_at hl 0 rfl) ?_
    refine gfX9_105 M B dX9_count_90 h (fun a1 h => ?_)
    refine lv_icmp_ge (tgt := 125) M.1 M.2.1 dX9_count_93 (by decide) (fun c2 => ?_) (fun c2 => ?_)
    · have h := h.1 c2
      refine lv_iload_n M.1 M.2.1 dX9_count_125 rfl (lv_at hl 1 rfl) ?_
      exact g_iret M B hr hlk h (by decide) (by decide) dX9_count_126
    · have h := h.2 c2
      refine lv_iload_n M.1 M.2.1 dX9_count_96 rfl (lv_at hl 1 rfl) ?_
      refine g_aload_n M dX9_count_97 rfl (lv_at hl 0 rfl) ?_
      refine gfX9_26 M B dX9_count_98 h (fun a3 h => ?_)
      refine lv_iload_n M.1 M.2.1 dX9_count_101 rfl (lv_at hl 2 rfl) ?_
      refine g_iald M B dX9_count_102 h (fun a4 h => ?_)
      refine g_aload_n M dX9_count_103 rfl (lv_at hl 0 rfl) ?_
      refine gfX9_23 M B dX9_count_104 h (fun a5 h => ?_)
      refine lv_iload_n M.1 M.2.1 dX9_count_107 rfl (lv_at hl 2 rfl) ?_
      refine g_iald M B dX9_count_108 h (fun a6 h => ?_)
      refine lv_icmp_le (tgt := 116) M.1 M.2.1 dX9_count_109 (by decide) (fun c7 => ?_) (fun c7 => ?_)
      · have h := h.1 c7
        refine lv_iconst (v := 0) M.1 M.2.1 dX9_count_116 (by decide) ?_
        exact tX9_count_117 M hr hlk hRf hRl hRc hRs ih _ _ _ _ _ h _ _ _ B (lv_sub hl [0, 2] rfl)
      · have h := h.2 c7
        refine lv_iconst (v := 1) M.1 M.2.1 dX9_count_112 (by decide) ?_
        refine lv_goto (tgt := 117) M.1 M.2.1 dX9_count_113 (by decide) ?_
        exact tX9_count_117 M hr hlk hRf hRl hRc hRs ih _ _ _ _ _ h _ _ _ B (lv_sub hl [0, 2] rfl)
set_option maxRecDepth 100000 in
set_option maxHeartbeats 4000000 in
theorem tX9_count {post : Int32 → Pool → Prop} (M : MC p m c cX9_count 4 s args RX9) (hr : meth.sig.returnType = (some FieldType.int)) (hlk : meth.locks = false) (hRf : 3 ≤ R.frames) (hRl : 77 ≤ R.locals) (hRc : 0 ≤ R.cells) (hRs : 0 ≤ R.slots) : ∀ (v0 : Option Nat) (v1 : Int32) (S : Pool), wX9_count post v0 v1 S → ∀ (H : Heap) (locs : List Loc) (ls : Array Slot), PB D cy A s S H locs → lv_has ls 4 [(0, va_rf v0), (1, .int v1)] → W p l e R s m args below meth c H locs 0 0 (MQ below (va_Qi post (PQ D cy A) A) args s 0 0 A) (F0 m 0 ls []) := by
  intro v0 v1 S h H locs ls B hl
  unfold wX9_count at h
  refine g_aload_n M dX9_count_0 rfl (lv_at hl 0 rfl) ?_
  refine lv_iconst (v := 0) M.1 M.2.1 dX9_count_1 (by decide) ?_
  refine gpX9_99 M B dX9_count_2 h (fun S1 H locs h B => ?_)
  refine lv_iconst (v := 0) M.1 M.2.1 dX9_count_5 (by decide) ?_
  refine lv_istore_n (lv' := [(2, .int 0), (0, va_rf v0), (1, .int v1)]) M.1 M.2.1 dX9_count_6 rfl hl (by decide) (fl_e (fl_k rfl rfl (fl_i rfl fl_0))) (fun ls hl => ?_)
  refine lv_iload_n M.1 M.2.1 dX9_count_7 rfl (lv_at hl 2 rfl) ?_
  by_cases c2 : v1.toInt < 0 ∨ 7 < v1.toInt
  · have h := h.1 c2
    refine lv_tableOut (tgt := 161) M.1 M.2.1 dX9_count_8 c2 (by decide) ?_
    refine lv_iconst (v := (-1)) M.1 M.2.1 dX9_count_161 (by decide) ?_
    exact g_iret M B hr hlk h (by decide) (by decide) dX9_count_162
  · have h := h.2 c2
    by_cases c4 : v1.toInt = 0
    · have h := h.1 c4
      refine lv_tableIn (tgt := 56) (off := 48) M.1 M.2.1 dX9_count_8 (fun q => c2 (Or.inl q)) (fun q => c2 (Or.inr q)) (by rw [c4]; rfl) (by decide) ?_
      refine g_aload_n M dX9_count_56 rfl (lv_at hl 1 rfl) ?_
      refine gfX9_120 M B dX9_count_57 h (fun a3 h => ?_)
      exact g_iret M B hr hlk h (by decide) (by decide) dX9_count_60
    have h := h.2 c4
    by_cases c6 : v1.toInt = 1
    · have h := h.1 c6
      refine lv_tableIn (tgt := 61) (off := 53) M.1 M.2.1 dX9_count_8 (fun q => c2 (Or.inl q)) (fun q => c2 (Or.inr q)) (by rw [c6]; rfl) (by decide) ?_
      refine g_aload_n M dX9_count_61 rfl (lv_at hl 1 rfl) ?_
      refine gfX9_105 M B dX9_count_62 h (fun a5 h => ?_)
      exact g_iret M B hr hlk h (by decide) (by decide) dX9_count_65
    have h := h.2 c6
    by_cases c8 : v1.toInt = 2
    · have h := h.1 c8
      refine lv_tableIn (tgt := 66) (off := 58) M.1 M.2.1 dX9_count_8 (fun q => c2 (Or.inl q)) (fun q => c2 (Or.inr q)) (by rw [c8]; rfl) (by decide) ?_
      refine g_aload_n M dX9_count_66 rfl (lv_at hl 1 rfl) ?_
      refine gfX9_124 M B dX9_count_67 h (fun a7 h => ?_)
      exact g_iret M B hr hlk h (by decide) (by decide) dX9_count_70
    have h := h.2 c8
    by_cases c10 : v1.toInt = 3
    · have h := h.1 c10
      refine lv_tableIn (tgt := 71) (off := 63) M.1 M.2.1 dX9_count_8 (fun q => c2 (Or.inl q)) (fun q => c2 (Or.inr q)) (by rw [c10]; rfl) (by decide) ?_
      refine g_aload_n M dX9_count_71 rfl (lv_at hl 1 rfl) ?_
      refine gfX9_102 M B dX9_count_72 h (fun a9 h => ?_)
      exact g_iret M B hr hlk h (by decide) (by decide) dX9_count_75
    have h := h.2 c10
    by_cases c12 : v1.toInt = 4
    · have h := h.1 c12
      refine lv_tableIn (tgt := 76) (off := 68) M.1 M.2.1 dX9_count_8 (fun q => c2 (Or.inl q)) (fun q => c2 (Or.inr q)) (by rw [c12]; rfl) (by decide) ?_
      refine g_aload_n M dX9_count_76 rfl (lv_at hl 1 rfl) ?_
      refine gfX9_243 M B dX9_count_77 h (fun a11 h => ?_)
      exact g_iret M B hr hlk h (by decide) (by decide) dX9_count_80
    have h := h.2 c12
    by_cases c14 : v1.toInt = 5
    · have h := h.1 c14
      refine lv_tableIn (tgt := 81) (off := 73) M.1 M.2.1 dX9_count_8 (fun q => c2 (Or.inl q)) (fun q => c2 (Or.inr q)) (by rw [c14]; rfl) (by decide) ?_
      refine g_aload_n M dX9_count_81 rfl (lv_at hl 1 rfl) ?_
      refine gfX9_7 M B dX9_count_82 h (fun a13 h => ?_)
      exact g_iret M B hr hlk h (by decide) (by decide) dX9_count_85
    have h := h.2 c14
    by_cases c15 : v1.toInt = 6
    · have h := h.1 c15
      refine lv_tableIn (tgt := 86) (off := 78) M.1 M.2.1 dX9_count_8 (fun q => c2 (Or.inl q)) (fun q => c2 (Or.inr q)) (by rw [c15]; rfl) (by decide) ?_
      refine lv_iconst (v := 0) M.1 M.2.1 dX9_count_86 (by decide) ?_
      refine lv_istore_n (lv' := [(3, .int 0), (2, .int 0), (0, va_rf v0), (1, .int v1)]) M.1 M.2.1 dX9_count_87 rfl hl (by decide) (fl_e (fl_i rfl (fl_k rfl rfl (fl_k rfl rfl fl_0)))) (fun ls hl => ?_)
      obtain ⟨n1, h⟩ := h
      exact tX9_count_88 M hr hlk hRf hRl hRc hRs n1 _ _ _ _ h _ _ _ B (lv_sub hl [2, 1, 0] rfl)
    have h := h.2 c15
    have c16 : v1.toInt = 7 := by omega
    refine lv_tableIn (tgt := 127) (off := 119) M.1 M.2.1 dX9_count_8 (fun q => c2 (Or.inl q)) (fun q => c2 (Or.inr q)) (by rw [c16]; rfl) (by decide) ?_
    refine lv_iconst (v := 0) M.1 M.2.1 dX9_count_127 (by decide) ?_
    refine lv_istore_n (lv' := [(3, .int 0), (2, .int 0), (0, va_rf v0), (1, .int v1)]) M.1 M.2.1 dX9_count_128 rfl hl (by decide) (fl_e (fl_i rfl (fl_k rfl rfl (fl_k rfl rfl fl_0)))) (fun ls hl => ?_)
    obtain ⟨n1, h⟩ := h
    exact tX9_count_129 M hr hlk hRf hRl hRc hRs n1 _ _ _ _ h _ _ _ B (lv_sub hl [2, 1, 0] rfl)
end
set_option maxRecDepth 100000 in
set_option maxHeartbeats 4000000 in
theorem kX9_count (l : Launch) (D : va_G) (cy : Nat → ClassId) {post : Int32 → Pool → Prop} {v0 : Option Nat} {v1 : Int32} {S : Pool} (h : wX9_count post v0 v1 S) : MetI l yX9_count cX9_count 4 (some FieldType.int) rmX9_count [va_rf v0, .int v1] D cy S post := by
  intro sz
  refine Met.ofW (cc := cX9_count) (maxL := 4) (ret := (some FieldType.int)) (by decide) rfl ?_
  intro p e s m args below meth c s₁ B0 hml hv
  obtain ⟨rfl, hpp⟩ := hv
  have hts := atoms_spec (ws := .code yX9_count cX9_count 4 (some FieldType.int) :: Gw) B0.pre
  obtain rfl : s.heap.size = sz := hpp.1
  have hl := lv_entry [va_rf v0, .int v1] (n := 4) (by rw [sl_r, sl_i, sl_0]; decide)
  rw [lg_entry_eq]
  rw [la_r, la_i, la_0] at hl
  exact tX9_count (l := l) (R := rmX9_count) ⟨B0.exec, B0.bytes, hml, findClass_of_methodNamed B0.named, fun w hw => hts w (List.mem_cons_of_mem _ hw)⟩ B0.returns B0.notSynchronized (Nat.le_refl _) (Nat.le_refl _) (Nat.le_refl _) (Nat.le_refl _) _ _ _ h _ _ _ hpp.pb (lv_sub hl [0, 1] rfl)
