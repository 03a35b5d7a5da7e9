-- X7_init: LogHunt$Tape.<init>()V
def wX7_init (post : Pool → Prop) (v0 : Option Nat) (S : Pool) : Prop := xnn v0 (xna S 10 400 400 fun a1 S2 => xpR S2 v0 7 0 a1 fun S3 => post S3)
def rmX7_init : Room := { frames := 1, cells := 1, slots := 400, locals := 12 }
section
variable {p : Program} {l : Launch} {e : Env} {R : Room} {s : State} {m : MethodId} {args : Array Value} {below : List Frame} {meth : Method} {c : Code} {D : va_G} {cy : Nat → ClassId} {A : Nat → Prop}
set_option maxRecDepth 100000 in
set_option maxHeartbeats 4000000 in
theorem tX7_init {post : Pool → Prop} (M : MC p m c cX7_init 1 s args RX7) (hr : meth.sig.returnType = none) (hlk : meth.locks = false) (hRf : 1 ≤ R.frames) (hRl : 12 ≤ R.locals) (hRc : 1 ≤ R.cells) (hRs : 400 ≤ R.slots) (hin : meth.name = "<init>") : ∀ (v0 : Option Nat) (S : Pool), wX7_init post v0 S → ∀ (H : Heap) (locs : List Loc) (ls : Array Slot), PB D cy A s S H locs → lv_has ls 1 [(0, va_rf v0)] → W p l e R s m args below meth c H locs 0 0 (MQ below (va_Qv post (PQ D cy A) A) args s 1 400 A) (F0 m 0 ls []) := by
  intro v0 S h H locs ls B hl
  unfold wX7_init at h
  refine g_aload_n M dX7_init_0 rfl (lv_at hl 0 rfl) ?_
  obtain ⟨⟨o1, e1⟩, h⟩ := h
  refine g_objInit M e1 wmX7_3 hl.1 dX7_init_1 rfl (Nat.le_trans (by decide) hRf) (Nat.le_trans (by decide) hRl) ?_
  refine g_aload_n M dX7_init_4 rfl (lv_at hl 0 rfl) ?_
  refine lv_sipush (v := 400) M.1 M.2.1 dX7_init_5 (by decide) ?_
  refine g_newI (N := 400) M B (by decide) (Nat.le_trans (by decide) hRc) (Nat.le_trans (by decide) hRs) dX7_init_8 h (fun a1 S2 H locs h B => ?_)
  refine W.widen (k := 1) (n := 400) (by decide) (by decide) ?_
  refine gpX7_9 M B hin dX7_init_10 h (fun S3 H locs h B => ?_)
  exact g_vret M B hr hlk h (by decide) (by decide) dX7_init_13
end
set_option maxRecDepth 100000 in
set_option maxHeartbeats 4000000 in
theorem kX7_init (l : Launch) (D : va_G) (cy : Nat → ClassId) {post : Pool → Prop} {v0 : Option Nat} {S : Pool} (h : wX7_init post v0 S) : MetV l yX7_init cX7_init 1 rmX7_init [va_rf v0] D cy S post := by
  intro sz
  refine Met.ofW (cc := cX7_init) (maxL := 1) (ret := none) (by decide) rfl ?_
  intro p e s m args below meth c s₁ B0 hml hv
  obtain ⟨rfl, hpp⟩ := hv
  have hts := atoms_spec (ws := .code yX7_init cX7_init 1 none :: Gw) B0.pre
  obtain rfl : s.heap.size = sz := hpp.1
  have hl := lv_entry [va_rf v0] (n := 1) (by rw [sl_r, sl_0]; decide)
  rw [lg_entry_eq]
  rw [la_r, la_0] at hl
  exact tX7_init (l := l) (R := rmX7_init) ⟨B0.exec, B0.bytes, hml, findClass_of_methodNamed B0.named, fun w hw => hts w (List.mem_cons_of_mem _ hw)⟩ B0.returns B0.notSynchronized (Nat.le_refl _) (Nat.le_refl _) (Nat.le_refl _) (Nat.le_refl _) (name_of_methodNamed B0.named B0.method).1 _ _ h _ _ _ hpp.pb (lv_sub hl [0] rfl)
-- X7_hasRoomFor: LogHunt$Tape.hasRoomFor(I)Z
def wX7_hasRoomFor (post : Int32 → Pool → Prop) (v0 : Option Nat) (v1 : Int32) (S : Pool) : Prop := xI S v0 7 1 fun a1 => br (400 < (a1 + v1)) (((0 : Int32) = 0 ∨ (0 : Int32) = 1) ∧ post (0 : Int32) S) (((1 : Int32) = 0 ∨ (1 : Int32) = 1) ∧ post (1 : Int32) S)
def rmX7_hasRoomFor : Room := { frames := 0, cells := 0, slots := 0, locals := 0 }
section
variable {p : Program} {l : Launch} {e : Env} {R : Room} {s : State} {m : MethodId} {args : Array Value} {below : List Frame} {meth : Method} {c : Code} {D : va_G} {cy : Nat → ClassId} {A : Nat → Prop}
set_option maxRecDepth 100000 in
set_option maxHeartbeats 4000000 in
theorem tX7_hasRoomFor {post : Int32 → Pool → Prop} (M : MC p m c cX7_hasRoomFor 2 s args RX7) (hr : meth.sig.returnType = (some FieldType.boolean)) (hlk : meth.locks = false) (hRf : 0 ≤ R.frames) (hRl : 0 ≤ R.locals) (hRc : 0 ≤ R.cells) (hRs : 0 ≤ R.slots) : ∀ (v0 : Option Nat) (v1 : Int32) (S : Pool), wX7_hasRoomFor post v0 v1 S → ∀ (H : Heap) (locs : List Loc) (ls : Array Slot), PB D cy A s S H locs → lv_has ls 2 [(0, va_rf v0), (1, .int v1)] → W p l e R s m args below meth c H locs 0 0 (MQ below (va_Qi post (PQ D cy A) A) args s 0 0 A) (F0 m 0 ls []) := by
  intro v0 v1 S h H locs ls B hl
  unfold wX7_hasRoomFor at h
  refine g_aload_n M dX7_hasRoomFor_0 rfl (lv_at hl 0 rfl) ?_
  refine gfX7_15 M B dX7_hasRoomFor_1 h (fun a1 h => ?_)
  refine lv_iload_n M.1 M.2.1 dX7_hasRoomFor_4 rfl (lv_at hl 1 rfl) ?_
  refine lv_iadd M.1 M.2.1 dX7_hasRoomFor_5 ?_
  refine lv_sipush (v := 400) M.1 M.2.1 dX7_hasRoomFor_6 (by decide) ?_
  refine lv_icmp_gt (tgt := 16) M.1 M.2.1 dX7_hasRoomFor_9 (by decide) (fun c2 => ?_) (fun c2 => ?_)
  · have h := h.1 c2
    refine lv_iconst (v := 0) M.1 M.2.1 dX7_hasRoomFor_16 (by decide) ?_
    exact g_zret M B hr hlk h (by decide) (by decide) dX7_hasRoomFor_17
  · have h := h.2 c2
    refine lv_iconst (v := 1) M.1 M.2.1 dX7_hasRoomFor_12 (by decide) ?_
    refine lv_goto (tgt := 17) M.1 M.2.1 dX7_hasRoomFor_13 (by decide) ?_
    exact g_zret M B hr hlk h (by decide) (by decide) dX7_hasRoomFor_17
end
set_option maxRecDepth 100000 in
set_option maxHeartbeats 4000000 in
theorem kX7_hasRoomFor (l : Launch) (D : va_G) (cy : Nat → ClassId) {post : Int32 → Pool → Prop} {v0 : Option Nat} {v1 : Int32} {S : Pool} (h : wX7_hasRoomFor post v0 v1 S) : MetI l yX7_hasRoomFor cX7_hasRoomFor 2 (some FieldType.boolean) rmX7_hasRoomFor [va_rf v0, .int v1] D cy S post := by
  intro sz
  refine Met.ofW (cc := cX7_hasRoomFor) (maxL := 2) (ret := (some FieldType.boolean)) (by decide) rfl ?_
  intro p e s m args below meth c s₁ B0 hml hv
  obtain ⟨rfl, hpp⟩ := hv
  have hts := atoms_spec (ws := .code yX7_hasRoomFor cX7_hasRoomFor 2 (some FieldType.boolean) :: Gw) B0.pre
  obtain rfl : s.heap.size = sz := hpp.1
  have hl := lv_entry [va_rf v0, .int v1] (n := 2) (by rw [sl_r, sl_i, sl_0]; decide)
  rw [lg_entry_eq]
  rw [la_r, la_i, la_0] at hl
  exact tX7_hasRoomFor (l := l) (R := rmX7_hasRoomFor) ⟨B0.exec, B0.bytes, hml, findClass_of_methodNamed B0.named, fun w hw => hts w (List.mem_cons_of_mem _ hw)⟩ B0.returns B0.notSynchronized (Nat.le_refl _) (Nat.le_refl _) (Nat.le_refl _) (Nat.le_refl _) _ _ _ h _ _ _ hpp.pb (lv_sub hl [0, 1] rfl)
-- X7_put: LogHunt$Tape.put(I)V
def wX7_put_3 (post : Pool → Prop) : Nat → Option Nat → Int32 → Int32 → Pool → Prop
  | 0 => fun _ _ _ _ => False
  | n + 1 => fun v0 v1 v2 S => br (v2 < 0) (post S) (xI S v0 7 1 fun a2 => br (400 ≤ a2) (post S) (xR S v0 7 0 fun a4 => xI S v0 7 1 fun a5 => xsI S a4 10 a5 (((v1.toUInt32 >>> (v2.toUInt32 &&& Int32.toUInt32 31)).toInt32) &&& 255) fun S6 => xI S6 v0 7 1 fun a7 => xpI S6 v0 7 1 (a7 + 1) fun S8 => wX7_put_3 post n v0 v1 (v2 + (-8)) S8))
def wX7_put (post : Pool → Prop) (v0 : Option Nat) (v1 : Int32) (S : Pool) : Prop := ∃ n1, wX7_put_3 post n1 v0 v1 24 S
def rmX7_put : Room := { frames := 0, cells := 0, slots := 0, locals := 0 }
section
variable {p : Program} {l : Launch} {e : Env} {R : Room} {s : State} {m : MethodId} {args : Array Value} {below : List Frame} {meth : Method} {c : Code} {D : va_G} {cy : Nat → ClassId} {A : Nat → Prop}
set_option maxRecDepth 100000 in
set_option maxHeartbeats 4000000 in
theorem tX7_put_3 {post : Pool → Prop} (M : MC p m c cX7_put 3 s args RX7) (hr : meth.sig.returnType = none) (hlk : meth.locks = false) (hRf : 0 ≤ R.frames) (hRl : 0 ≤ R.locals) (hRc : 0 ≤ R.cells) (hRs : 0 ≤ R.slots) : ∀ (n : Nat) (v0 : Option Nat) (v1 : Int32) (v2 : Int32) (S : Pool), wX7_put_3 post n v0 v1 v2 S → ∀ (H : Heap) (locs : List Loc) (ls : Array Slot), PB D cy A s S H locs → lv_has ls 3 [(0, va_rf v0), (1, .int v1), (2, .int v2)] → W p l e R s m args below meth c H locs 0 0 (MQ below (va_Qv post (PQ D cy A) A) args s 0 0 A) (F0 m 3 ls []) := by
  intro n
  induction n with
  | zero => intro v0 v1 v2 S h; exact False.elim h
  | succ n ih =>
    intro v0 v1 v2 S h H locs ls B hl
    unfold wX7_put_3 at h
    refine lv_iload_n M.1 M.2.1 dX7_put_3 rfl (lv_at hl 2 rfl) ?_
    refine lv_if_lt (tgt := 49) M.1 M.2.1 dX7_put_4 (by decide) (fun c1 => ?_) (fun c1 => ?_)
    · have h := h.1 c1
      exact g_vret M B hr hlk h (by decide) (by decide) dX7_put_49
    · have h := h.2 c1
      refine g_aload_n M dX7_put_7 rfl (lv_at hl 0 rfl) ?_
      refine gfX7_15 M B dX7_put_8 h (fun a2 h => ?_)
      refine lv_sipush (v := 400) M.1 M.2.1 dX7_put_11 (by decide) ?_
      refine lv_icmp_ge (tgt := 49) M.1 M.2.1 dX7_put_14 (by decide) (fun c3 => ?_) (fun c3 => ?_)
      · have h := h.1 c3
        exact g_vret M B hr hlk h (by decide) (by decide) dX7_put_49
      · have h := h.2 c3
        refine g_aload_n M dX7_put_17 rfl (lv_at hl 0 rfl) ?_
        refine gfX7_9 M B dX7_put_18 h (fun a4 h => ?_)
        refine g_aload_n M dX7_put_21 rfl (lv_at hl 0 rfl) ?_
        refine gfX7_15 M B dX7_put_22 h (fun a5 h => ?_)
        refine lv_iload_n M.1 M.2.1 dX7_put_25 rfl (lv_at hl 1 rfl) ?_
        refine lv_iload_n M.1 M.2.1 dX7_put_26 rfl (lv_at hl 2 rfl) ?_
        refine lv_iushr (v := (v1.toUInt32 >>> (v2.toUInt32 &&& Int32.toUInt32 31)).toInt32) M.1 M.2.1 dX7_put_27 rfl ?_
        refine lv_sipush (v := 255) M.1 M.2.1 dX7_put_28 (by decide) ?_
        refine lv_iand M.1 M.2.1 dX7_put_31 ?_
        refine g_iast M B dX7_put_32 h (fun S6 H locs h B => ?_)
        refine g_aload_n M dX7_put_33 rfl (lv_at hl 0 rfl) ?_
        refine lv_dup M.1 M.2.1 dX7_put_34 (rf_cat _) ?_
        refine gfX7_15 M B dX7_put_35 h (fun a7 h => ?_)
        refine lv_iconst (v := 1) M.1 M.2.1 dX7_put_38 (by decide) ?_
        refine lv_iadd M.1 M.2.1 dX7_put_39 ?_
        refine gpX7_15 M B dX7_put_40 h (fun S8 H locs h B => ?_)
        refine lv_iinc (v := v2 + (-8)) (lv' := [(2, .int (v2 + (-8))), (0, va_rf v0), (1, .int v1)]) M.1 M.2.1 dX7_put_43 hl (k := 2) rfl (by rfl) (by decide) (fl_e (fl_k rfl rfl (fl_i rfl (fl_d rfl fl_0)))) (fun ls hl => ?_)
        refine lv_goto (tgt := 3) M.1 M.2.1 dX7_put_46 (by decide) ?_
        exact ih _ _ _ _ h _ _ _ B (lv_sub hl [1, 2, 0] rfl)
set_option maxRecDepth 100000 in
set_option maxHeartbeats 4000000 in
theorem tX7_put {post : Pool → Prop} (M : MC p m c cX7_put 3 s args RX7) (hr : meth.sig.returnType = none) (hlk : meth.locks = false) (hRf : 0 ≤ R.frames) (hRl : 0 ≤ R.locals) (hRc : 0 ≤ R.cells) (hRs : 0 ≤ R.slots) : ∀ (v0 : Option Nat) (v1 : Int32) (S : Pool), wX7_put post v0 v1 S → ∀ (H : Heap) (locs : List Loc) (ls : Array Slot), PB D cy A s S H locs → lv_has ls 3 [(0, va_rf v0), (1, .int v1)] → W p l e R s m args below meth c H locs 0 0 (MQ below (va_Qv post (PQ D cy A) A) args s 0 0 A) (F0 m 0 ls []) := by
  intro v0 v1 S h H locs ls B hl
  unfold wX7_put at h
  refine lv_bipush (v := 24) M.1 M.2.1 dX7_put_0 (by decide) ?_
  refine lv_istore_n (lv' := [(2, .int 24), (0, va_rf v0), (1, .int v1)]) M.1 M.2.1 dX7_put_2 rfl hl (by decide) (fl_e (fl_k rfl rfl (fl_i rfl fl_0))) (fun ls hl => ?_)
  obtain ⟨n1, h⟩ := h
  exact tX7_put_3 M hr hlk hRf hRl hRc hRs n1 _ _ _ _ h _ _ _ B (lv_sub hl [1, 2, 0] rfl)
end
set_option maxRecDepth 100000 in
set_option maxHeartbeats 4000000 in
theorem kX7_put (l : Launch) (D : va_G) (cy : Nat → ClassId) {post : Pool → Prop} {v0 : Option Nat} {v1 : Int32} {S : Pool} (h : wX7_put post v0 v1 S) : MetV l yX7_put cX7_put 3 rmX7_put [va_rf v0, .int v1] D cy S post := by
  intro sz
  refine Met.ofW (cc := cX7_put) (maxL := 3) (ret := none) (by decide) rfl ?_
  intro p e s m args below meth c s₁ B0 hml hv
  obtain ⟨rfl, hpp⟩ := hv
  have hts := atoms_spec (ws := .code yX7_put cX7_put 3 none :: Gw) B0.pre
  obtain rfl : s.heap.size = sz := hpp.1
  have hl := lv_entry [va_rf v0, .int v1] (n := 3) (by rw [sl_r, sl_i, sl_0]; decide)
  rw [lg_entry_eq]
  rw [la_r, la_i, la_0] at hl
  exact tX7_put (l := l) (R := rmX7_put) ⟨B0.exec, B0.bytes, hml, findClass_of_methodNamed B0.named, fun w hw => hts w (List.mem_cons_of_mem _ hw)⟩ B0.returns B0.notSynchronized (Nat.le_refl _) (Nat.le_refl _) (Nat.le_refl _) (Nat.le_refl _) _ _ _ h _ _ _ hpp.pb (lv_sub hl [0, 1] rfl)
-- X0_init: LogHunt$Act.<init>(IIIIIII)V
def wX0_init (post : Pool → Prop) (v0 : Option Nat) (v1 : Int32) (v2 : Int32) (v3 : Int32) (v4 : Int32) (v5 : Int32) (v6 : Int32) (v7 : Int32) (S : Pool) : Prop := xnn v0 (xpI S v0 0 0 v1 fun S1 => xpI S1 v0 0 1 v2 fun S2 => xpI S2 v0 0 2 v3 fun S3 => xpI S3 v0 0 3 v4 fun S4 => xpI S4 v0 0 4 v5 fun S5 => xpI S5 v0 0 5 v6 fun S6 => xpI S6 v0 0 6 v7 fun S7 => xpI S7 v0 0 8 v1 fun S8 => post S8)
def rmX0_init : Room := { frames := 1, cells := 0, slots := 0, locals := 12 }
section
variable {p : Program} {l : Launch} {e : Env} {R : Room} {s : State} {m : MethodId} {args : Array Value} {below : List Frame} {meth : Method} {c : Code} {D : va_G} {cy : Nat → ClassId} {A : Nat → Prop}
set_option maxRecDepth 100000 in
set_option maxHeartbeats 4000000 in
theorem tX0_init {post : Pool → Prop} (M : MC p m c cX0_init 8 s args RX0) (hr : meth.sig.returnType = none) (hlk : meth.locks = false) (hRf : 1 ≤ R.frames) (hRl : 12 ≤ R.locals) (hRc : 0 ≤ R.cells) (hRs : 0 ≤ R.slots) (hin : meth.name = "<init>") : ∀ (v0 : Option Nat) (v1 : Int32) (v2 : Int32) (v3 : Int32) (v4 : Int32) (v5 : Int32) (v6 : Int32) (v7 : Int32) (S : Pool), wX0_init post v0 v1 v2 v3 v4 v5 v6 v7 S → ∀ (H : Heap) (locs : List Loc) (ls : Array Slot), PB D cy A s S H locs → lv_has ls 8 [(0, va_rf v0), (1, .int v1), (2, .int v2), (3, .int v3), (4, .int v4), (5, .int v5), (6, .int v6), (7, .int v7)] → W p l e R s m args below meth c H locs 0 0 (MQ below (va_Qv post (PQ D cy A) A) args s 0 0 A) (F0 m 0 ls []) := by
  intro v0 v1 v2 v3 v4 v5 v6 v7 S h H locs ls B hl
  unfold wX0_init at h
  refine g_aload_n M dX0_init_0 rfl (lv_at hl 0 rfl) ?_
  obtain ⟨⟨o1, e1⟩, h⟩ := h
  refine g_objInit M e1 wmX0_3 hl.1 dX0_init_1 rfl (Nat.le_trans (by decide) hRf) (Nat.le_trans (by decide) hRl) ?_
  refine g_aload_n M dX0_init_4 rfl (lv_at hl 0 rfl) ?_
  refine lv_iload_n M.1 M.2.1 dX0_init_5 rfl (lv_at hl 1 rfl) ?_
  refine gpX0_9 M B hin dX0_init_6 h (fun S1 H locs h B => ?_)
  refine g_aload_n M dX0_init_9 rfl (lv_at hl 0 rfl) ?_
  refine lv_iload_n M.1 M.2.1 dX0_init_10 rfl (lv_at hl 2 rfl) ?_
  refine gpX0_15 M B hin dX0_init_11 h (fun S2 H locs h B => ?_)
  refine g_aload_n M dX0_init_14 rfl (lv_at hl 0 rfl) ?_
  refine lv_iload_n M.1 M.2.1 dX0_init_15 rfl (lv_at hl 3 rfl) ?_
  refine gpX0_18 M B hin dX0_init_16 h (fun S3 H locs h B => ?_)
  refine g_aload_n M dX0_init_19 rfl (lv_at hl 0 rfl) ?_
  refine lv_iload M.1 M.2.1 dX0_init_20 (lv_at hl 4 rfl) ?_
  refine gpX0_21 M B hin dX0_init_22 h (fun S4 H locs h B => ?_)
  refine g_aload_n M dX0_init_25 rfl (lv_at hl 0 rfl) ?_
  refine lv_iload M.1 M.2.1 dX0_init_26 (lv_at hl 5 rfl) ?_
  refine gpX0_24 M B hin dX0_init_28 h (fun S5 H locs h B => ?_)
  refine g_aload_n M dX0_init_31 rfl (lv_at hl 0 rfl) ?_
  refine lv_iload M.1 M.2.1 dX0_init_32 (lv_at hl 6 rfl) ?_
  refine gpX0_27 M B hin dX0_init_34 h (fun S6 H locs h B => ?_)
  refine g_aload_n M dX0_init_37 rfl (lv_at hl 0 rfl) ?_
  refine lv_iload M.1 M.2.1 dX0_init_38 (lv_at hl 7 rfl) ?_
  refine gpX0_30 M B hin dX0_init_40 h (fun S7 H locs h B => ?_)
  refine g_aload_n M dX0_init_43 rfl (lv_at hl 0 rfl) ?_
  refine lv_iload_n M.1 M.2.1 dX0_init_44 rfl (lv_at hl 1 rfl) ?_
  refine gpX0_33 M B dX0_init_45 h (fun S8 H locs h B => ?_)
  exact g_vret M B hr hlk h (by decide) (by decide) dX0_init_48
end
set_option maxRecDepth 100000 in
set_option maxHeartbeats 4000000 in
theorem kX0_init (l : Launch) (D : va_G) (cy : Nat → ClassId) {post : Pool → Prop} {v0 : Option Nat} {v1 : Int32} {v2 : Int32} {v3 : Int32} {v4 : Int32} {v5 : Int32} {v6 : Int32} {v7 : Int32} {S : Pool} (h : wX0_init post v0 v1 v2 v3 v4 v5 v6 v7 S) : MetV l yX0_init cX0_init 8 rmX0_init [va_rf v0, .int v1, .int v2, .int v3, .int v4, .int v5, .int v6, .int v7] D cy S post := by
  intro sz
  refine Met.ofW (cc := cX0_init) (maxL := 8) (ret := none) (by decide) rfl ?_
  intro p e s m args below meth c s₁ B0 hml hv
  obtain ⟨rfl, hpp⟩ := hv
  have hts := atoms_spec (ws := .code yX0_init cX0_init 8 none :: Gw) B0.pre
  obtain rfl : s.heap.size = sz := hpp.1
  have hl := lv_entry [va_rf v0, .int v1, .int v2, .int v3, .int v4, .int v5, .int v6, .int v7] (n := 8) (by rw [sl_r, sl_i, sl_i, sl_i, sl_i, sl_i, sl_i, sl_i, sl_0]; decide)
  rw [lg_entry_eq]
  rw [la_r, la_i, la_i, la_i, la_i, la_i, la_i, la_i, la_0] at hl
  exact tX0_init (l := l) (R := rmX0_init) ⟨B0.exec, B0.bytes, hml, findClass_of_methodNamed B0.named, fun w hw => hts w (List.mem_cons_of_mem _ hw)⟩ B0.returns B0.notSynchronized (Nat.le_refl _) (Nat.le_refl _) (Nat.le_refl _) (Nat.le_refl _) (name_of_methodNamed B0.named B0.method).1 _ _ _ _ _ _ _ _ _ h _ _ _ hpp.pb (lv_sub hl [0, 1, 2, 3, 4, 5, 6, 7] rfl)
-- X0_valueIn: LogHunt$Act.valueIn(I)I
def wX0_valueIn (post : Int32 → Pool → Prop) (v0 : Option Nat) (v1 : Int32) (S : Pool) : Prop := br (v1 = 0) (xI S v0 0 2 fun a5 => post a5 S) (br (v1 = 1) (xI S v0 0 3 fun a4 => post a4 S) (xI S v0 0 4 fun a3 => post a3 S))
def rmX0_valueIn : Room := { frames := 0, cells := 0, slots := 0, locals := 0 }
section
variable {p : Program} {l : Launch} {e : Env} {R : Room} {s : State} {m : MethodId} {args : Array Value} {below : List Frame} {meth : Method} {c : Code} {D : va_G} {cy : Nat → ClassId} {A : Nat → Prop}
set_option maxRecDepth 100000 in
set_option maxHeartbeats 4000000 in
theorem tX0_valueIn {post : Int32 → Pool → Prop} (M : MC p m c cX0_valueIn 2 s args RX0) (hr : meth.sig.returnType = (some FieldType.int)) (hlk : meth.locks = false) (hRf : 0 ≤ R.frames) (hRl : 0 ≤ R.locals) (hRc : 0 ≤ R.cells) (hRs : 0 ≤ R.slots) : ∀ (v0 : Option Nat) (v1 : Int32) (S : Pool), wX0_valueIn post v0 v1 S → ∀ (H : Heap) (locs : List Loc) (ls : Array Slot), PB D cy A s S H locs → lv_has ls 2 [(0, va_rf v0), (1, .int v1)] → W p l e R s m args below meth c H locs 0 0 (MQ below (va_Qi post (PQ D cy A) A) args s 0 0 A) (F0 m 0 ls []) := by
  intro v0 v1 S h H locs ls B hl
  unfold wX0_valueIn at h
  refine lv_iload_n M.1 M.2.1 dX0_valueIn_0 rfl (lv_at hl 1 rfl) ?_
  refine lv_if_ne (tgt := 11) M.1 M.2.1 dX0_valueIn_1 (by decide) (fun c1 => ?_) (fun c1 => ?_)
  · have h := h.2 c1
    refine lv_iload_n M.1 M.2.1 dX0_valueIn_11 rfl (lv_at hl 1 rfl) ?_
    refine lv_iconst (v := 1) M.1 M.2.1 dX0_valueIn_12 (by decide) ?_
    refine lv_icmp_ne (tgt := 23) M.1 M.2.1 dX0_valueIn_13 (by decide) (fun c2 => ?_) (fun c2 => ?_)
    · have h := h.2 c2
      refine g_aload_n M dX0_valueIn_23 rfl (lv_at hl 0 rfl) ?_
      refine gfX0_24 M B dX0_valueIn_24 h (fun a3 h => ?_)
      exact g_iret M B hr hlk h (by decide) (by decide) dX0_valueIn_27
    · have h := h.1 c2
      refine g_aload_n M dX0_valueIn_16 rfl (lv_at hl 0 rfl) ?_
      refine gfX0_21 M B dX0_valueIn_17 h (fun a4 h => ?_)
      refine lv_goto (tgt := 27) M.1 M.2.1 dX0_valueIn_20 (by decide) ?_
      exact g_iret M B hr hlk h (by decide) (by decide) dX0_valueIn_27
  · have h := h.1 c1
    refine g_aload_n M dX0_valueIn_4 rfl (lv_at hl 0 rfl) ?_
    refine gfX0_18 M B dX0_valueIn_5 h (fun a5 h => ?_)
    refine lv_goto (tgt := 27) M.1 M.2.1 dX0_valueIn_8 (by decide) ?_
    exact g_iret M B hr hlk h (by decide) (by decide) dX0_valueIn_27
end
set_option maxRecDepth 100000 in
set_option maxHeartbeats 4000000 in
theorem kX0_valueIn (l : Launch) (D : va_G) (cy : Nat → ClassId) {post : Int32 → Pool → Prop} {v0 : Option Nat} {v1 : Int32} {S : Pool} (h : wX0_valueIn post v0 v1 S) : MetI l yX0_valueIn cX0_valueIn 2 (some FieldType.int) rmX0_valueIn [va_rf v0, .int v1] D cy S post := by
  intro sz
  refine Met.ofW (cc := cX0_valueIn) (maxL := 2) (ret := (some FieldType.int)) (by decide) rfl ?_
  intro p e s m args below meth c s₁ B0 hml hv
  obtain ⟨rfl, hpp⟩ := hv
  have hts := atoms_spec (ws := .code yX0_valueIn cX0_valueIn 2 (some FieldType.int) :: Gw) B0.pre
  obtain rfl : s.heap.size = sz := hpp.1
  have hl := lv_entry [va_rf v0, .int v1] (n := 2) (by rw [sl_r, sl_i, sl_0]; decide)
  rw [lg_entry_eq]
  rw [la_r, la_i, la_0] at hl
  exact tX0_valueIn (l := l) (R := rmX0_valueIn) ⟨B0.exec, B0.bytes, hml, findClass_of_methodNamed B0.named, fun w hw => hts w (List.mem_cons_of_mem _ hw)⟩ B0.returns B0.notSynchronized (Nat.le_refl _) (Nat.le_refl _) (Nat.le_refl _) (Nat.le_refl _) _ _ _ h _ _ _ hpp.pb (lv_sub hl [0, 1] rfl)
-- X0_isAlike: LogHunt$Act.isAlike(LLogHunt$Act;)Z
def wX0_isAlike (post : Int32 → Pool → Prop) (v0 : Option Nat) (v1 : Option Nat) (S : Pool) : Prop := xI S v0 0 1 fun a1 => xI S v1 0 1 fun a2 => br (a1 = a2) (xI S v0 0 2 fun a4 => xI S v1 0 2 fun a5 => br (a4 = a5) (xI S v0 0 3 fun a7 => xI S v1 0 3 fun a8 => br (a7 = a8) (((1 : Int32) = 0 ∨ (1 : Int32) = 1) ∧ post (1 : Int32) S) (((0 : Int32) = 0 ∨ (0 : Int32) = 1) ∧ post (0 : Int32) S)) (((0 : Int32) = 0 ∨ (0 : Int32) = 1) ∧ post (0 : Int32) S)) (((0 : Int32) = 0 ∨ (0 : Int32) = 1) ∧ post (0 : Int32) S)
def rmX0_isAlike : Room := { frames := 0, cells := 0, slots := 0, locals := 0 }
section
variable {p : Program} {l : Launch} {e : Env} {R : Room} {s : State} {m : MethodId} {args : Array Value} {below : List Frame} {meth : Method} {c : Code} {D : va_G} {cy : Nat → ClassId} {A : Nat → Prop}
set_option maxRecDepth 100000 in
set_option maxHeartbeats 4000000 in
theorem tX0_isAlike {post : Int32 → Pool → Prop} (M : MC p m c cX0_isAlike 2 s args RX0) (hr : meth.sig.returnType = (some FieldType.boolean)) (hlk : meth.locks = false) (hRf : 0 ≤ R.frames) (hRl : 0 ≤ R.locals) (hRc : 0 ≤ R.cells) (hRs : 0 ≤ R.slots) : ∀ (v0 : Option Nat) (v1 : Option Nat) (S : Pool), wX0_isAlike post v0 v1 S → ∀ (H : Heap) (locs : List Loc) (ls : Array Slot), PB D cy A s S H locs → lv_has ls 2 [(0, va_rf v0), (1, va_rf v1)] → W p l e R s m args below meth c H locs 0 0 (MQ below (va_Qi post (PQ D cy A) A) args s 0 0 A) (F0 m 0 ls []) := by
  intro v0 v1 S h H locs ls B hl
  unfold wX0_isAlike at h
  refine g_aload_n M dX0_isAlike_0 rfl (lv_at hl 0 rfl) ?_
  refine gfX0_15 M B dX0_isAlike_1 h (fun a1 h => ?_)
  refine g_aload_n M dX0_isAlike_4 rfl (lv_at hl 1 rfl) ?_
  refine gfX0_15 M B dX0_isAlike_5 h (fun a2 h => ?_)
  refine lv_icmp_ne (tgt := 37) M.1 M.2.1 dX0_isAlike_8 (by decide) (fun c3 => ?_) (fun c3 => ?_)
  · have h := h.2 c3
    refine lv_iconst (v := 0) M.1 M.2.1 dX0_isAlike_37 (by decide) ?_
    exact g_zret M B hr hlk h (by decide) (by decide) dX0_isAlike_38
  · have h := h.1 c3
    refine g_aload_n M dX0_isAlike_11 rfl (lv_at hl 0 rfl) ?_
    refine gfX0_18 M B dX0_isAlike_12 h (fun a4 h => ?_)
    refine g_aload_n M dX0_isAlike_15 rfl (lv_at hl 1 rfl) ?_
    refine gfX0_18 M B dX0_isAlike_16 h (fun a5 h => ?_)
    refine lv_icmp_ne (tgt := 37) M.1 M.2.1 dX0_isAlike_19 (by decide) (fun c6 => ?_) (fun c6 => ?_)
    · have h := h.2 c6
      refine lv_iconst (v := 0) M.1 M.2.1 dX0_isAlike_37 (by decide) ?_
      exact g_zret M B hr hlk h (by decide) (by decide) dX0_isAlike_38
    · have h := h.1 c6
      refine g_aload_n M dX0_isAlike_22 rfl (lv_at hl 0 rfl) ?_
      refine gfX0_21 M B dX0_isAlike_23 h (fun a7 h => ?_)
      refine g_aload_n M dX0_isAlike_26 rfl (lv_at hl 1 rfl) ?_
      refine gfX0_21 M B dX0_isAlike_27 h (fun a8 h => ?_)
      refine lv_icmp_ne (tgt := 37) M.1 M.2.1 dX0_isAlike_30 (by decide) (fun c9 => ?_) (fun c9 => ?_)
      · have h := h.2 c9
        refine lv_iconst (v := 0) M.1 M.2.1 dX0_isAlike_37 (by decide) ?_
        exact g_zret M B hr hlk h (by decide) (by decide) dX0_isAlike_38
      · have h := h.1 c9
        refine lv_iconst (v := 1) M.1 M.2.1 dX0_isAlike_33 (by decide) ?_
        refine lv_goto (tgt := 38) M.1 M.2.1 dX0_isAlike_34 (by decide) ?_
        exact g_zret M B hr hlk h (by decide) (by decide) dX0_isAlike_38
end
set_option maxRecDepth 100000 in
set_option maxHeartbeats 4000000 in
theorem kX0_isAlike (l : Launch) (D : va_G) (cy : Nat → ClassId) {post : Int32 → Pool → Prop} {v0 : Option Nat} {v1 : Option Nat} {S : Pool} (h : wX0_isAlike post v0 v1 S) : MetI l yX0_isAlike cX0_isAlike 2 (some FieldType.boolean) rmX0_isAlike [va_rf v0, va_rf v1] D cy S post := by
  intro sz
  refine Met.ofW (cc := cX0_isAlike) (maxL := 2) (ret := (some FieldType.boolean)) (by decide) rfl ?_
  intro p e s m args below meth c s₁ B0 hml hv
  obtain ⟨rfl, hpp⟩ := hv
  have hts := atoms_spec (ws := .code yX0_isAlike cX0_isAlike 2 (some FieldType.boolean) :: Gw) B0.pre
  obtain rfl : s.heap.size = sz := hpp.1
  have hl := lv_entry [va_rf v0, va_rf v1] (n := 2) (by rw [sl_r, sl_r, sl_0]; decide)
  rw [lg_entry_eq]
  rw [la_r, la_r, la_0] at hl
  exact tX0_isAlike (l := l) (R := rmX0_isAlike) ⟨B0.exec, B0.bytes, hml, findClass_of_methodNamed B0.named, fun w hw => hts w (List.mem_cons_of_mem _ hw)⟩ B0.returns B0.notSynchronized (Nat.le_refl _) (Nat.le_refl _) (Nat.le_refl _) (Nat.le_refl _) _ _ _ h _ _ _ hpp.pb (lv_sub hl [0, 1] rfl)
-- X5_init: LogHunt$Step.<init>()V
def wX5_init (post : Pool → Prop) (v0 : Option Nat) (S : Pool) : Prop := xnn v0 (post S)
def rmX5_init : Room := { frames := 1, cells := 0, slots := 0, locals := 12 }
section
variable {p : Program} {l : Launch} {e : Env} {R : Room} {s : State} {m : MethodId} {args : Array Value} {below : List Frame} {meth : Method} {c : Code} {D : va_G} {cy : Nat → ClassId} {A : Nat → Prop}
set_option maxRecDepth 100000 in
set_option maxHeartbeats 4000000 in
theorem tX5_init {post : Pool → Prop} (M : MC p m c cX5_init 1 s args RX5) (hr : meth.sig.returnType = none) (hlk : meth.locks = false) (hRf : 1 ≤ R.frames) (hRl : 12 ≤ R.locals) (hRc : 0 ≤ R.cells) (hRs : 0 ≤ R.slots) (hin : meth.name = "<init>") : ∀ (v0 : Option Nat) (S : Pool), wX5_init post v0 S → ∀ (H : Heap) (locs : List Loc) (ls : Array Slot), PB D cy A s S H locs → lv_has ls 1 [(0, va_rf v0)] → W p l e R s m args below meth c H locs 0 0 (MQ below (va_Qv post (PQ D cy A) A) args s 0 0 A) (F0 m 0 ls []) := by
  intro v0 S h H locs ls B hl
  unfold wX5_init at h
  refine g_aload_n M dX5_init_0 rfl (lv_at hl 0 rfl) ?_
  obtain ⟨⟨o1, e1⟩, h⟩ := h
  refine g_objInit M e1 wmX5_3 hl.1 dX5_init_1 rfl (Nat.le_trans (by decide) hRf) (Nat.le_trans (by decide) hRl) ?_
  exact g_vret M B hr hlk h (by decide) (by decide) dX5_init_4
end
set_option maxRecDepth 100000 in
set_option maxHeartbeats 4000000 in
theorem kX5_init (l : Launch) (D : va_G) (cy : Nat → ClassId) {post : Pool → Prop} {v0 : Option Nat} {S : Pool} (h : wX5_init post v0 S) : MetV l yX5_init cX5_init 1 rmX5_init [va_rf v0] D cy S post := by
  intro sz
  refine Met.ofW (cc := cX5_init) (maxL := 1) (ret := none) (by decide) rfl ?_
  intro p e s m args below meth c s₁ B0 hml hv
  obtain ⟨rfl, hpp⟩ := hv
  have hts := atoms_spec (ws := .code yX5_init cX5_init 1 none :: Gw) B0.pre
  obtain rfl : s.heap.size = sz := hpp.1
  have hl := lv_entry [va_rf v0] (n := 1) (by rw [sl_r, sl_0]; decide)
  rw [lg_entry_eq]
  rw [la_r, la_0] at hl
  exact tX5_init (l := l) (R := rmX5_init) ⟨B0.exec, B0.bytes, hml, findClass_of_methodNamed B0.named, fun w hw => hts w (List.mem_cons_of_mem _ hw)⟩ B0.returns B0.notSynchronized (Nat.le_refl _) (Nat.le_refl _) (Nat.le_refl _) (Nat.le_refl _) (name_of_methodNamed B0.named B0.method).1 _ _ h _ _ _ hpp.pb (lv_sub hl [0] rfl)
-- X5_clear: LogHunt$Step.clear(ZI)V
def wX5_clear (post : Pool → Prop) (v0 : Option Nat) (v1 : Int32) (v2 : Int32) (S : Pool) : Prop := xpI S v0 5 0 0 fun S1 => xpI S1 v0 5 1 ((-1)) fun S2 => xpI S2 v0 5 2 ((-1)) fun S3 => xpI S3 v0 5 3 ((-1)) fun S4 => xpZ S4 v0 5 4 v1 fun S5 => xpZ S5 v0 5 5 0 fun S6 => xpI S6 v0 5 6 ((-1)) fun S7 => xpI S7 v0 5 7 v2 fun S8 => post S8
def rmX5_clear : Room := { frames := 0, cells := 0, slots := 0, locals := 0 }
section
variable {p : Program} {l : Launch} {e : Env} {R : Room} {s : State} {m : MethodId} {args : Array Value} {below : List Frame} {meth : Method} {c : Code} {D : va_G} {cy : Nat → ClassId} {A : Nat → Prop}
set_option maxRecDepth 100000 in
set_option maxHeartbeats 4000000 in
theorem tX5_clear {post : Pool → Prop} (M : MC p m c cX5_clear 3 s args RX5) (hr : meth.sig.returnType = none) (hlk : meth.locks = false) (hRf : 0 ≤ R.frames) (hRl : 0 ≤ R.locals) (hRc : 0 ≤ R.cells) (hRs : 0 ≤ R.slots) : ∀ (v0 : Option Nat) (v1 : Int32) (v2 : Int32) (S : Pool), wX5_clear post v0 v1 v2 S → ∀ (H : Heap) (locs : List Loc) (ls : Array Slot), PB D cy A s S H locs → lv_has ls 3 [(0, va_rf v0), (1, .int v1), (2, .int v2)] → W p l e R s m args below meth c H locs 0 0 (MQ below (va_Qv post (PQ D cy A) A) args s 0 0 A) (F0 m 0 ls []) := by
  intro v0 v1 v2 S h H locs ls B hl
  unfold wX5_clear at h
  refine g_aload_n M dX5_clear_0 rfl (lv_at hl 0 rfl) ?_
  refine lv_iconst (v := 0) M.1 M.2.1 dX5_clear_1 (by decide) ?_
  refine gpX5_9 M B dX5_clear_2 h (fun S1 H locs h B => ?_)
  refine g_aload_n M dX5_clear_5 rfl (lv_at hl 0 rfl) ?_
  refine lv_iconst (v := (-1)) M.1 M.2.1 dX5_clear_6 (by decide) ?_
  refine gpX5_15 M B dX5_clear_7 h (fun S2 H locs h B => ?_)
  refine g_aload_n M dX5_clear_10 rfl (lv_at hl 0 rfl) ?_
  refine lv_iconst (v := (-1)) M.1 M.2.1 dX5_clear_11 (by decide) ?_
  refine gpX5_18 M B dX5_clear_12 h (fun S3 H locs h B => ?_)
  refine g_aload_n M dX5_clear_15 rfl (lv_at hl 0 rfl) ?_
  refine lv_iconst (v := (-1)) M.1 M.2.1 dX5_clear_16 (by decide) ?_
  refine gpX5_21 M B dX5_clear_17 h (fun S4 H locs h B => ?_)
  refine g_aload_n M dX5_clear_20 rfl (lv_at hl 0 rfl) ?_
  refine lv_iload_n M.1 M.2.1 dX5_clear_21 rfl (lv_at hl 1 rfl) ?_
  refine gpX5_24 M B dX5_clear_22 h (fun S5 H locs h B => ?_)
  refine g_aload_n M dX5_clear_25 rfl (lv_at hl 0 rfl) ?_
  refine lv_iconst (v := 0) M.1 M.2.1 dX5_clear_26 (by decide) ?_
  refine gpX5_28 M B dX5_clear_27 h (fun S6 H locs h B => ?_)
  refine g_aload_n M dX5_clear_30 rfl (lv_at hl 0 rfl) ?_
  refine lv_iconst (v := (-1)) M.1 M.2.1 dX5_clear_31 (by decide) ?_
  refine gpX5_31 M B dX5_clear_32 h (fun S7 H locs h B => ?_)
  refine g_aload_n M dX5_clear_35 rfl (lv_at hl 0 rfl) ?_
  refine lv_iload_n M.1 M.2.1 dX5_clear_36 rfl (lv_at hl 2 rfl) ?_
  refine gpX5_34 M B dX5_clear_37 h (fun S8 H locs h B => ?_)
  exact g_vret M B hr hlk h (by decide) (by decide) dX5_clear_40
end
set_option maxRecDepth 100000 in
set_option maxHeartbeats 4000000 in
theorem kX5_clear (l : Launch) (D : va_G) (cy : Nat → ClassId) {post : Pool → Prop} {v0 : Option Nat} {v1 : Int32} {v2 : Int32} {S : Pool} (h : wX5_clear post v0 v1 v2 S) : MetV l yX5_clear cX5_clear 3 rmX5_clear [va_rf v0, .int v1, .int v2] D cy S post := by
  intro sz
  refine Met.ofW (cc := cX5_clear) (maxL := 3) (ret := none) (by decide) rfl ?_
  intro p e s m args below meth c s₁ B0 hml hv
  obtain ⟨rfl, hpp⟩ := hv
  have hts := atoms_spec (ws := .code yX5_clear cX5_clear 3 none :: Gw) B0.pre
  obtain rfl : s.heap.size = sz := hpp.1
  have hl := lv_entry [va_rf v0, .int v1, .int v2] (n := 3) (by rw [sl_r, sl_i, sl_i, sl_0]; decide)
  rw [lg_entry_eq]
  rw [la_r, la_i, la_i, la_0] at hl
  exact tX5_clear (l := l) (R := rmX5_clear) ⟨B0.exec, B0.bytes, hml, findClass_of_methodNamed B0.named, fun w hw => hts w (List.mem_cons_of_mem _ hw)⟩ B0.returns B0.notSynchronized (Nat.le_refl _) (Nat.le_refl _) (Nat.le_refl _) (Nat.le_refl _) _ _ _ _ h _ _ _ hpp.pb (lv_sub hl [0, 1, 2] rfl)
-- X5_tells: LogHunt$Step.tells(I)Z
def wX5_tells_27 (post : Int32 → Pool → Prop) (z0 : Int32) (S : Pool) : Prop := br (z0 = ((-1))) (((0 : Int32) = 0 ∨ (0 : Int32) = 1) ∧ post (0 : Int32) S) (((1 : Int32) = 0 ∨ (1 : Int32) = 1) ∧ post (1 : Int32) S)
def wX5_tells (post : Int32 → Pool → Prop) (v0 : Option Nat) (v1 : Int32) (S : Pool) : Prop := br (v1 = 0) (xI S v0 5 1 fun a5 => wX5_tells_27 post a5 S) (br (v1 = 1) (xI S v0 5 2 fun a4 => wX5_tells_27 post a4 S) (xI S v0 5 3 fun a3 => wX5_tells_27 post a3 S))
def rmX5_tells : Room := { frames := 0, cells := 0, slots := 0, locals := 0 }
section
variable {p : Program} {l : Launch} {e : Env} {R : Room} {s : State} {m : MethodId} {args : Array Value} {below : List Frame} {meth : Method} {c : Code} {D : va_G} {cy : Nat → ClassId} {A : Nat → Prop}
set_option maxRecDepth 100000 in
set_option maxHeartbeats 4000000 in
theorem tX5_tells_27 {post : Int32 → Pool → Prop} (M : MC p m c cX5_tells 2 s args RX5) (hr : meth.sig.returnType = (some FieldType.boolean)) (hlk : meth.locks = false) (hRf : 0 ≤ R.frames) (hRl : 0 ≤ R.locals) (hRc : 0 ≤ R.cells) (hRs : 0 ≤ R.slots) : ∀ (z0 : Int32) (S : Pool), wX5_tells_27 post z0 S → ∀ (H : Heap) (locs : List Loc) (ls : Array Slot), PB D cy A s S H locs → lv_has ls 2 [] → W p l e R s m args below meth c H locs 0 0 (MQ below (va_Qi post (PQ D cy A) A) args s 0 0 A) (F0 m 27 ls [.int z0]) := by
  intro z0 S h H locs ls B hl
  unfold wX5_tells_27 at h
  refine lv_iconst (v := (-1)) M.1 M.2.1 dX5_tells_27 (by decide) ?_
  refine lv_icmp_eq (tgt := 35) M.1 M.2.1 dX5_tells_28 (by decide) (fun c1 => ?_) (fun c1 => ?_)
  · have h := h.1 c1
    refine lv_iconst (v := 0) M.1 M.2.1 dX5_tells_35 (by decide) ?_
    exact g_zret M B hr hlk h (by decide) (by decide) dX5_tells_36
  · have h := h.2 c1
    refine lv_iconst (v := 1) M.1 M.2.1 dX5_tells_31 (by decide) ?_
    refine lv_goto (tgt := 36) M.1 M.2.1 dX5_tells_32 (by decide) ?_
    exact g_zret M B hr hlk h (by decide) (by decide) dX5_tells_36
set_option maxRecDepth 100000 in
set_option maxHeartbeats 4000000 in
theorem tX5_tells {post : Int32 → Pool → Prop} (M : MC p m c cX5_tells 2 s args RX5) (hr : meth.sig.returnType = (some FieldType.boolean)) (hlk : meth.locks = false) (hRf : 0 ≤ R.frames) (hRl : 0 ≤ R.locals) (hRc : 0 ≤ R.cells) (hRs : 0 ≤ R.slots) : ∀ (v0 : Option Nat) (v1 : Int32) (S : Pool), wX5_tells post v0 v1 S → ∀ (H : Heap) (locs : List Loc) (ls : Array Slot), PB D cy A s S H locs → lv_has ls 2 [(0, va_rf v0), (1, .int v1)] → W p l e R s m args below meth c H locs 0 0 (MQ below (va_Qi post (PQ D cy A) A) args s 0 0 A) (F0 m 0 ls []) := by
  intro v0 v1 S h H locs ls B hl
  unfold wX5_tells at h
  refine lv_iload_n M.1 M.2.1 dX5_tells_0 rfl (lv_at hl 1 rfl) ?_
  refine lv_if_ne (tgt := 11) M.1 M.2.1 dX5_tells_1 (by decide) (fun c1 => ?_) (fun c1 => ?_)
  · have h := h.2 c1
    refine lv_iload_n M.1 M.2.1 dX5_tells_11 rfl (lv_at hl 1 rfl) ?_
    refine lv_iconst (v := 1) M.1 M.2.1 dX5_tells_12 (by decide) ?_
    refine lv_icmp_ne (tgt := 23) M.1 M.2.1 dX5_tells_13 (by decide) (fun c2 => ?_) (fun c2 => ?_)
    · have h := h.2 c2
      refine g_aload_n M dX5_tells_23 rfl (lv_at hl 0 rfl) ?_
      refine gfX5_21 M B dX5_tells_24 h (fun a3 h => ?_)
      exact tX5_tells_27 M hr hlk hRf hRl hRc hRs _ _ h _ _ _ B (lv_sub hl [] rfl)
    · have h := h.1 c2
      refine g_aload_n M dX5_tells_16 rfl (lv_at hl 0 rfl) ?_
      refine gfX5_18 M B dX5_tells_17 h (fun a4 h => ?_)
      refine lv_goto (tgt := 27) M.1 M.2.1 dX5_tells_20 (by decide) ?_
      exact tX5_tells_27 M hr hlk hRf hRl hRc hRs _ _ h _ _ _ B (lv_sub hl [] rfl)
  · have h := h.1 c1
    refine g_aload_n M dX5_tells_4 rfl (lv_at hl 0 rfl) ?_
    refine gfX5_15 M B dX5_tells_5 h (fun a5 h => ?_)
    refine lv_goto (tgt := 27) M.1 M.2.1 dX5_tells_8 (by decide) ?_
    exact tX5_tells_27 M hr hlk hRf hRl hRc hRs _ _ h _ _ _ B (lv_sub hl [] rfl)
end
set_option maxRecDepth 100000 in
set_option maxHeartbeats 4000000 in
theorem kX5_tells (l : Launch) (D : va_G) (cy : Nat → ClassId) {post : Int32 → Pool → Prop} {v0 : Option Nat} {v1 : Int32} {S : Pool} (h : wX5_tells post v0 v1 S) : MetI l yX5_tells cX5_tells 2 (some FieldType.boolean) rmX5_tells [va_rf v0, .int v1] D cy S post := by
  intro sz
  refine Met.ofW (cc := cX5_tells) (maxL := 2) (ret := (some FieldType.boolean)) (by decide) rfl ?_
  intro p e s m args below meth c s₁ B0 hml hv
  obtain ⟨rfl, hpp⟩ := hv
  have hts := atoms_spec (ws := .code yX5_tells cX5_tells 2 (some FieldType.boolean) :: Gw) B0.pre
  obtain rfl : s.heap.size = sz := hpp.1
  have hl := lv_entry [va_rf v0, .int v1] (n := 2) (by rw [sl_r, sl_i, sl_0]; decide)
  rw [lg_entry_eq]
  rw [la_r, la_i, la_0] at hl
  exact tX5_tells (l := l) (R := rmX5_tells) ⟨B0.exec, B0.bytes, hml, findClass_of_methodNamed B0.named, fun w hw => hts w (List.mem_cons_of_mem _ hw)⟩ B0.returns B0.notSynchronized (Nat.le_refl _) (Nat.le_refl _) (Nat.le_refl _) (Nat.le_refl _) _ _ _ h _ _ _ hpp.pb (lv_sub hl [0, 1] rfl)
-- X5_tell: LogHunt$Step.tell(II)V
def wX5_tell (post : Pool → Prop) (v0 : Option Nat) (v1 : Int32) (v2 : Int32) (S : Pool) : Prop := br (v1 = 0) (xpI S v0 5 1 v2 fun S5 => post S5) (br (v1 = 1) (xpI S v0 5 2 v2 fun S4 => post S4) (xpI S v0 5 3 v2 fun S3 => post S3))
def rmX5_tell : Room := { frames := 0, cells := 0, slots := 0, locals := 0 }
section
variable {p : Program} {l : Launch} {e : Env} {R : Room} {s : State} {m : MethodId} {args : Array Value} {below : List Frame} {meth : Method} {c : Code} {D : va_G} {cy : Nat → ClassId} {A : Nat → Prop}
set_option maxRecDepth 100000 in
set_option maxHeartbeats 4000000 in
theorem tX5_tell {post : Pool → Prop} (M : MC p m c cX5_tell 3 s args RX5) (hr : meth.sig.returnType = none) (hlk : meth.locks = false) (hRf : 0 ≤ R.frames) (hRl : 0 ≤ R.locals) (hRc : 0 ≤ R.cells) (hRs : 0 ≤ R.slots) : ∀ (v0 : Option Nat) (v1 : Int32) (v2 : Int32) (S : Pool), wX5_tell post v0 v1 v2 S → ∀ (H : Heap) (locs : List Loc) (ls : Array Slot), PB D cy A s S H locs → lv_has ls 3 [(0, va_rf v0), (1, .int v1), (2, .int v2)] → W p l e R s m args below meth c H locs 0 0 (MQ below (va_Qv post (PQ D cy A) A) args s 0 0 A) (F0 m 0 ls []) := by
  intro v0 v1 v2 S h H locs ls B hl
  unfold wX5_tell at h
  refine lv_iload_n M.1 M.2.1 dX5_tell_0 rfl (lv_at hl 1 rfl) ?_
  refine lv_if_ne (tgt := 12) M.1 M.2.1 dX5_tell_1 (by decide) (fun c1 => ?_) (fun c1 => ?_)
  · have h := h.2 c1
    refine lv_iload_n M.1 M.2.1 dX5_tell_12 rfl (lv_at hl 1 rfl) ?_
    refine lv_iconst (v := 1) M.1 M.2.1 dX5_tell_13 (by decide) ?_
    refine lv_icmp_ne (tgt := 25) M.1 M.2.1 dX5_tell_14 (by decide) (fun c2 => ?_) (fun c2 => ?_)
    · have h := h.2 c2
      refine g_aload_n M dX5_tell_25 rfl (lv_at hl 0 rfl) ?_
      refine lv_iload_n M.1 M.2.1 dX5_tell_26 rfl (lv_at hl 2 rfl) ?_
      refine gpX5_21 M B dX5_tell_27 h (fun S3 H locs h B => ?_)
      exact g_vret M B hr hlk h (by decide) (by decide) dX5_tell_30
    · have h := h.1 c2
      refine g_aload_n M dX5_tell_17 rfl (lv_at hl 0 rfl) ?_
      refine lv_iload_n M.1 M.2.1 dX5_tell_18 rfl (lv_at hl 2 rfl) ?_
      refine gpX5_18 M B dX5_tell_19 h (fun S4 H locs h B => ?_)
      refine lv_goto (tgt := 30) M.1 M.2.1 dX5_tell_22 (by decide) ?_
      exact g_vret M B hr hlk h (by decide) (by decide) dX5_tell_30
  · have h := h.1 c1
    refine g_aload_n M dX5_tell_4 rfl (lv_at hl 0 rfl) ?_
    refine lv_iload_n M.1 M.2.1 dX5_tell_5 rfl (lv_at hl 2 rfl) ?_
    refine gpX5_15 M B dX5_tell_6 h (fun S5 H locs h B => ?_)
    refine lv_goto (tgt := 30) M.1 M.2.1 dX5_tell_9 (by decide) ?_
    exact g_vret M B hr hlk h (by decide) (by decide) dX5_tell_30
end
set_option maxRecDepth 100000 in
set_option maxHeartbeats 4000000 in
theorem kX5_tell (l : Launch) (D : va_G) (cy : Nat → ClassId) {post : Pool → Prop} {v0 : Option Nat} {v1 : Int32} {v2 : Int32} {S : Pool} (h : wX5_tell post v0 v1 v2 S) : MetV l yX5_tell cX5_tell 3 rmX5_tell [va_rf v0, .int v1, .int v2] D cy S post := by
  intro sz
  refine Met.ofW (cc := cX5_tell) (maxL := 3) (ret := none) (by decide) rfl ?_
  intro p e s m args below meth c s₁ B0 hml hv
  obtain ⟨rfl, hpp⟩ := hv
  have hts := atoms_spec (ws := .code yX5_tell cX5_tell 3 none :: Gw) B0.pre
  obtain rfl : s.heap.size = sz := hpp.1
  have hl := lv_entry [va_rf v0, .int v1, .int v2] (n := 3) (by rw [sl_r, sl_i, sl_i, sl_0]; decide)
  rw [lg_entry_eq]
  rw [la_r, la_i, la_i, la_0] at hl
  exact tX5_tell (l := l) (R := rmX5_tell) ⟨B0.exec, B0.bytes, hml, findClass_of_methodNamed B0.named, fun w hw => hts w (List.mem_cons_of_mem _ hw)⟩ B0.returns B0.notSynchronized (Nat.le_refl _) (Nat.le_refl _) (Nat.le_refl _) (Nat.le_refl _) _ _ _ _ h _ _ _ hpp.pb (lv_sub hl [0, 1, 2] rfl)
-- X5_admits: LogHunt$Step.admits(LLogHunt$Act;)Z
def wX5_admits_68 (post : Int32 → Pool → Prop) (S : Pool) : Prop := ((1 : Int32) = 0 ∨ (1 : Int32) = 1) ∧ post (1 : Int32) S
def wX5_admits_49 (post : Int32 → Pool → Prop) (v0 : Option Nat) (v1 : Option Nat) (S : Pool) : Prop := xI S v0 5 3 fun a1 => br (a1 = ((-1))) (wX5_admits_68 post S) (xI S v1 0 4 fun a3 => xI S v0 5 3 fun a4 => br (a3 = a4) (wX5_admits_68 post S) (((0 : Int32) = 0 ∨ (0 : Int32) = 1) ∧ post (0 : Int32) S))
def wX5_admits_30 (post : Int32 → Pool → Prop) (v0 : Option Nat) (v1 : Option Nat) (S : Pool) : Prop := xI S v0 5 2 fun a1 => br (a1 = ((-1))) (wX5_admits_49 post v0 v1 S) (xI S v1 0 3 fun a3 => xI S v0 5 2 fun a4 => br (a3 = a4) (wX5_admits_49 post v0 v1 S) (((0 : Int32) = 0 ∨ (0 : Int32) = 1) ∧ post (0 : Int32) S))
def wX5_admits (post : Int32 → Pool → Prop) (v0 : Option Nat) (v1 : Option Nat) (S : Pool) : Prop := xI S v1 0 1 fun a1 => xI S v0 5 0 fun a2 => br (a1 = a2) (xI S v0 5 1 fun a4 => br (a4 = ((-1))) (wX5_admits_30 post v0 v1 S) (xI S v1 0 2 fun a6 => xI S v0 5 1 fun a7 => br (a6 = a7) (wX5_admits_30 post v0 v1 S) (((0 : Int32) = 0 ∨ (0 : Int32) = 1) ∧ post (0 : Int32) S))) (((0 : Int32) = 0 ∨ (0 : Int32) = 1) ∧ post (0 : Int32) S)
def rmX5_admits : Room := { frames := 0, cells := 0, slots := 0, locals := 0 }
section
variable {p : Program} {l : Launch} {e : Env} {R : Room} {s : State} {m : MethodId} {args : Array Value} {below : List Frame} {meth : Method} {c : Code} {D : va_G} {cy : Nat → ClassId} {A : Nat → Prop}
set_option maxRecDepth 100000 in
set_option maxHeartbeats 4000000 in
theorem tX5_admits_68 {post : Int32 → Pool → Prop} (M : MC p m c cX5_admits 2 s args RX5) (hr : meth.sig.returnType = (some FieldType.boolean)) (hlk : meth.locks = false) (hRf : 0 ≤ R.frames) (hRl : 0 ≤ R.locals) (hRc : 0 ≤ R.cells) (hRs : 0 ≤ R.slots) : ∀ (S : Pool), wX5_admits_68 post S → ∀ (H : Heap) (locs : List Loc) (ls : Array Slot), PB D cy A s S H locs → lv_has ls 2 [] → W p l e R s m args below meth c H locs 0 0 (MQ below (va_Qi post (PQ D cy A) A) args s 0 0 A) (F0 m 68 ls []) := by
  intro S h H locs ls B hl
  unfold wX5_admits_68 at h
  refine lv_iconst (v := 1) M.1 M.2.1 dX5_admits_68 (by decide) ?_
  refine lv_goto (tgt := 73) M.1 M.2.1 dX5_admits_69 (by decide) ?_
  exact g_zret M B hr hlk h (by decide) (by decide) dX5_admits_73
set_option maxRecDepth 100000 in
set_option maxHeartbeats 4000000 in
theorem tX5_admits_49 {post : Int32 → Pool → Prop} (M : MC p m c cX5_admits 2 s args RX5) (hr : meth.sig.returnType = (some FieldType.boolean)) (hlk : meth.locks = false) (hRf : 0 ≤ R.frames) (hRl : 0 ≤ R.locals) (hRc : 0 ≤ R.cells) (hRs : 0 ≤ R.slots) : ∀ (v0 : Option Nat) (v1 : Option Nat) (S : Pool), wX5_admits_49 post v0 v1 S → ∀ (H : Heap) (locs : List Loc) (ls : Array Slot), PB D cy A s S H locs → lv_has ls 2 [(0, va_rf v0), (1, va_rf v1)] → W p l e R s m args below meth c H locs 0 0 (MQ below (va_Qi post (PQ D cy A) A) args s 0 0 A) (F0 m 49 ls []) := by
  intro v0 v1 S h H locs ls B hl
  unfold wX5_admits_49 at h
  refine g_aload_n M dX5_admits_49 rfl (lv_at hl 0 rfl) ?_
  refine gfX5_21 M B dX5_admits_50 h (fun a1 h => ?_)
  refine lv_iconst (v := (-1)) M.1 M.2.1 dX5_admits_53 (by decide) ?_
  refine lv_icmp_eq (tgt := 68) M.1 M.2.1 dX5_admits_54 (by decide) (fun c2 => ?_) (fun c2 => ?_)
  · have h := h.1 c2
    exact tX5_admits_68 M hr hlk hRf hRl hRc hRs _ h _ _ _ B (lv_sub hl [] rfl)
  · have h := h.2 c2
    refine g_aload_n M dX5_admits_57 rfl (lv_at hl 1 rfl) ?_
    refine gfX5_42 M B dX5_admits_58 h (fun a3 h => ?_)
    refine g_aload_n M dX5_admits_61 rfl (lv_at hl 0 rfl) ?_
    refine gfX5_21 M B dX5_admits_62 h (fun a4 h => ?_)
    refine lv_icmp_ne (tgt := 72) M.1 M.2.1 dX5_admits_65 (by decide) (fun c5 => ?_) (fun c5 => ?_)
    · have h := h.2 c5
      refine lv_iconst (v := 0) M.1 M.2.1 dX5_admits_72 (by decide) ?_
      exact g_zret M B hr hlk h (by decide) (by decide) dX5_admits_73
    · have h := h.1 c5
      exact tX5_admits_68 M hr hlk hRf hRl hRc hRs _ h _ _ _ B (lv_sub hl [] rfl)
set_option maxRecDepth 100000 in
set_option maxHeartbeats 4000000 in
theorem tX5_admits_30 {post : Int32 → Pool → Prop} (M : MC p m c cX5_admits 2 s args RX5) (hr : meth.sig.returnType = (some FieldType.boolean)) (hlk : meth.locks = false) (hRf : 0 ≤ R.frames) (hRl : 0 ≤ R.locals) (hRc : 0 ≤ R.cells) (hRs : 0 ≤ R.slots) : ∀ (v0 : Option Nat) (v1 : Option Nat) (S : Pool), wX5_admits_30 post v0 v1 S → ∀ (H : Heap) (locs : List Loc) (ls : Array Slot), PB D cy A s S H locs → lv_has ls 2 [(0, va_rf v0), (1, va_rf v1)] → W p l e R s m args below meth c H locs 0 0 (MQ below (va_Qi post (PQ D cy A) A) args s 0 0 A) (F0 m 30 ls []) := by
  intro v0 v1 S h H locs ls B hl
  unfold wX5_admits_30 at h
  refine g_aload_n M dX5_admits_30 rfl (lv_at hl 0 rfl) ?_
  refine gfX5_18 M B dX5_admits_31 h (fun a1 h => ?_)
  refine lv_iconst (v := (-1)) M.1 M.2.1 dX5_admits_34 (by decide) ?_
  refine lv_icmp_eq (tgt := 49) M.1 M.2.1 dX5_admits_35 (by decide) (fun c2 => ?_) (fun c2 => ?_)
  · have h := h.1 c2
    exact tX5_admits_49 M hr hlk hRf hRl hRc hRs _ _ _ h _ _ _ B (lv_sub hl [0, 1] rfl)
  · have h := h.2 c2
    refine g_aload_n M dX5_admits_38 rfl (lv_at hl 1 rfl) ?_
    refine gfX5_41 M B dX5_admits_39 h (fun a3 h => ?_)
    refine g_aload_n M dX5_admits_42 rfl (lv_at hl 0 rfl) ?_
    refine gfX5_18 M B dX5_admits_43 h (fun a4 h => ?_)
    refine lv_icmp_ne (tgt := 72) M.1 M.2.1 dX5_admits_46 (by decide) (fun c5 => ?_) (fun c5 => ?_)
    · have h := h.2 c5
      refine lv_iconst (v := 0) M.1 M.2.1 dX5_admits_72 (by decide) ?_
      exact g_zret M B hr hlk h (by decide) (by decide) dX5_admits_73
    · have h := h.1 c5
      exact tX5_admits_49 M hr hlk hRf hRl hRc hRs _ _ _ h _ _ _ B (lv_sub hl [0, 1] rfl)
set_option maxRecDepth 100000 in
set_option maxHeartbeats 4000000 in
theorem tX5_admits {post : Int32 → Pool → Prop} (M : MC p m c cX5_admits 2 s args RX5) (hr : meth.sig.returnType = (some FieldType.boolean)) (hlk : meth.locks = false) (hRf : 0 ≤ R.frames) (hRl : 0 ≤ R.locals) (hRc : 0 ≤ R.cells) (hRs : 0 ≤ R.slots) : ∀ (v0 : Option Nat) (v1 : Option Nat) (S : Pool), wX5_admits post v0 v1 S → ∀ (H : Heap) (locs : List Loc) (ls : Array Slot), PB D cy A s S H locs → lv_has ls 2 [(0, va_rf v0), (1, va_rf v1)] → W p l e R s m args below meth c H locs 0 0 (MQ below (va_Qi post (PQ D cy A) A) args s 0 0 A) (F0 m 0 ls []) := by
  intro v0 v1 S h H locs ls B hl
  unfold wX5_admits at h
  refine g_aload_n M dX5_admits_0 rfl (lv_at hl 1 rfl) ?_
  refine gfX5_37 M B dX5_admits_1 h (fun a1 h => ?_)
  refine g_aload_n M dX5_admits_4 rfl (lv_at hl 0 rfl) ?_
  refine gfX5_9 M B dX5_admits_5 h (fun a2 h => ?_)
  refine lv_icmp_ne (tgt := 72) M.1 M.2.1 dX5_admits_8 (by decide) (fun c3 => ?_) (fun c3 => ?_)
  · have h := h.2 c3
    refine lv_iconst (v := 0) M.1 M.2.1 dX5_admits_72 (by decide) ?_
    exact g_zret M B hr hlk h (by decide) (by decide) dX5_admits_73
  · have h := h.1 c3
    refine g_aload_n M dX5_admits_11 rfl (lv_at hl 0 rfl) ?_
    refine gfX5_15 M B dX5_admits_12 h (fun a4 h => ?_)
    refine lv_iconst (v := (-1)) M.1 M.2.1 dX5_admits_15 (by decide) ?_
    refine lv_icmp_eq (tgt := 30) M.1 M.2.1 dX5_admits_16 (by decide) (fun c5 => ?_) (fun c5 => ?_)
    · have h := h.1 c5
      exact tX5_admits_30 M hr hlk hRf hRl hRc hRs _ _ _ h _ _ _ B (lv_sub hl [0, 1] rfl)
    · have h := h.2 c5
      refine g_aload_n M dX5_admits_19 rfl (lv_at hl 1 rfl) ?_
      refine gfX5_40 M B dX5_admits_20 h (fun a6 h => ?_)
      refine g_aload_n M dX5_admits_23 rfl (lv_at hl 0 rfl) ?_
      refine gfX5_15 M B dX5_admits_24 h (fun a7 h => ?_)
      refine lv_icmp_ne (tgt := 72) M.1 M.2.1 dX5_admits_27 (by decide) (fun c8 => ?_) (fun c8 => ?_)
      · have h := h.2 c8
        refine lv_iconst (v := 0) M.1 M.2.1 dX5_admits_72 (by decide) ?_
        exact g_zret M B hr hlk h (by decide) (by decide) dX5_admits_73
      · have h := h.1 c8
        exact tX5_admits_30 M hr hlk hRf hRl hRc hRs _ _ _ h _ _ _ B (lv_sub hl [0, 1] rfl)
end
set_option maxRecDepth 100000 in
set_option maxHeartbeats 4000000 in
theorem kX5_admits (l : Launch) (D : va_G) (cy : Nat → ClassId) {post : Int32 → Pool → Prop} {v0 : Option Nat} {v1 : Option Nat} {S : Pool} (h : wX5_admits post v0 v1 S) : MetI l yX5_admits cX5_admits 2 (some FieldType.boolean) rmX5_admits [va_rf v0, va_rf v1] D cy S post := by
  intro sz
  refine Met.ofW (cc := cX5_admits) (maxL := 2) (ret := (some FieldType.boolean)) (by decide) rfl ?_
  intro p e s m args below meth c s₁ B0 hml hv
  obtain ⟨rfl, hpp⟩ := hv
  have hts := atoms_spec (ws := .code yX5_admits cX5_admits 2 (some FieldType.boolean) :: Gw) B0.pre
  obtain rfl : s.heap.size = sz := hpp.1
  have hl := lv_entry [va_rf v0, va_rf v1] (n := 2) (by rw [sl_r, sl_r, sl_0]; decide)
  rw [lg_entry_eq]
  rw [la_r, la_r, la_0] at hl
  exact tX5_admits (l := l) (R := rmX5_admits) ⟨B0.exec, B0.bytes, hml, findClass_of_methodNamed B0.named, fun w hw => hts w (List.mem_cons_of_mem _ hw)⟩ B0.returns B0.notSynchronized (Nat.le_refl _) (Nat.le_refl _) (Nat.le_refl _) (Nat.le_refl _) _ _ _ h _ _ _ hpp.pb (lv_sub hl [0, 1] rfl)
-- J7_fill_53178: java/util/Arrays.fill([II)V
def wJ7_fill_53178_5 (post : Pool → Prop) : Nat → Option Nat → Int32 → Int32 → Int32 → Pool → Prop
  | 0 => fun _ _ _ _ _ => False
  | n + 1 => fun v0 v1 v2 v3 S => br (v3 ≤ v2) (post S) (xsI S v0 10 v2 v1 fun S2 => wJ7_fill_53178_5 post n v0 v1 (v2 + 1) v3 S2)
def wJ7_fill_53178 (post : Pool → Prop) (v0 : Option Nat) (v1 : Int32) (S : Pool) : Prop := xln S v0 10 fun a1 => ∃ n1, wJ7_fill_53178_5 post n1 v0 v1 0 a1 S
def rmJ7_fill_53178 : Room := { frames := 0, cells := 0, slots := 0, locals := 0 }
section
variable {p : Program} {l : Launch} {e : Env} {R : Room} {s : State} {m : MethodId} {args : Array Value} {below : List Frame} {meth : Method} {c : Code} {D : va_G} {cy : Nat → ClassId} {A : Nat → Prop}
set_option maxRecDepth 100000 in
set_option maxHeartbeats 4000000 in
theorem tJ7_fill_53178_5 {post : Pool → Prop} (M : MC p m c cJ7_fill_53178 4 s args RJ7) (hr : meth.sig.returnType = none) (hlk : meth.locks = false) (hRf : 0 ≤ R.frames) (hRl : 0 ≤ R.locals) (hRc : 0 ≤ R.cells) (hRs : 0 ≤ R.slots) : ∀ (n : Nat) (v0 : Option Nat) (v1 : Int32) (v2 : Int32) (v3 : Int32) (S : Pool), wJ7_fill_53178_5 post n v0 v1 v2 v3 S → ∀ (H : Heap) (locs : List Loc) (ls : Array Slot), PB D cy A s S H locs → lv_has ls 4 [(0, va_rf v0), (1, .int v1), (2, .int v2), (3, .int v3)] → W p l e R s m args below meth c H locs 0 0 (MQ below (va_Qv post (PQ D cy A) A) args s 0 0 A) (F0 m 5 ls []) := by
  intro n
  induction n with
  | zero => intro v0 v1 v2 v3 S h; exact False.elim h
  | succ n ih =>
    intro v0 v1 v2 v3 S h H locs ls B hl
    unfold wJ7_fill_53178_5 at h
    refine lv_iload_n M.1 M.2.1 dJ7_fill_53178_5 rfl (lv_at hl 2 rfl) ?_
    refine lv_iload_n M.1 M.2.1 dJ7_fill_53178_6 rfl (lv_at hl 3 rfl) ?_
    refine lv_icmp_ge (tgt := 20) M.1 M.2.1 dJ7_fill_53178_7 (by decide) (fun c1 => ?_) (fun c1 => ?_)
    · have h := h.1 c1
      exact g_vret M B hr hlk h (by decide) (by decide) dJ7_fill_53178_20
    · have h := h.2 c1
      refine g_aload_n M dJ7_fill_53178_10 rfl (lv_at hl 0 rfl) ?_
      refine lv_iload_n M.1 M.2.1 dJ7_fill_53178_11 rfl (lv_at hl 2 rfl) ?_
      refine lv_iload_n M.1 M.2.1 dJ7_fill_53178_12 rfl (lv_at hl 1 rfl) ?_
      refine g_iast M B dJ7_fill_53178_13 h (fun S2 H locs h B => ?_)
      refine lv_iinc (v := v2 + 1) (lv' := [(2, .int (v2 + 1)), (0, va_rf v0), (1, .int v1), (3, .int v3)]) M.1 M.2.1 dJ7_fill_53178_14 hl (k := 2) rfl (by rfl) (by decide) (fl_e (fl_k rfl rfl (fl_i rfl (fl_d rfl (fl_k rfl rfl fl_0))))) (fun ls hl => ?_)
      refine lv_goto (tgt := 5) M.1 M.2.1 dJ7_fill_53178_17 (by decide) ?_
      exact ih _ _ _ _ _ h _ _ _ B (lv_sub hl [1, 2, 0, 3] rfl)
set_option maxRecDepth 100000 in
set_option maxHeartbeats 4000000 in
theorem tJ7_fill_53178 {post : Pool → Prop} (M : MC p m c cJ7_fill_53178 4 s args RJ7) (hr : meth.sig.returnType = none) (hlk : meth.locks = false) (hRf : 0 ≤ R.frames) (hRl : 0 ≤ R.locals) (hRc : 0 ≤ R.cells) (hRs : 0 ≤ R.slots) : ∀ (v0 : Option Nat) (v1 : Int32) (S : Pool), wJ7_fill_53178 post v0 v1 S → ∀ (H : Heap) (locs : List Loc) (ls : Array Slot), PB D cy A s S H locs → lv_has ls 4 [(0, va_rf v0), (1, .int v1)] → W p l e R s m args below meth c H locs 0 0 (MQ below (va_Qv post (PQ D cy A) A) args s 0 0 A) (F0 m 0 ls []) := by
  intro v0 v1 S h H locs ls B hl
  unfold wJ7_fill_53178 at h
  refine lv_iconst (v := 0) M.1 M.2.1 dJ7_fill_53178_0 (by decide) ?_
  refine lv_istore_n (lv' := [(2, .int 0), (0, va_rf v0), (1, .int v1)]) M.1 M.2.1 dJ7_fill_53178_1 rfl hl (by decide) (fl_e (fl_k rfl rfl (fl_i rfl fl_0))) (fun ls hl => ?_)
  refine g_aload_n M dJ7_fill_53178_2 rfl (lv_at hl 1 rfl) ?_
  refine g_len M B dJ7_fill_53178_3 h (fun a1 h => ?_)
  refine lv_istore_n (lv' := [(3, .int a1), (2, .int 0), (0, va_rf v0), (1, .int v1)]) M.1 M.2.1 dJ7_fill_53178_4 rfl hl (by decide) (fl_e (fl_i rfl (fl_k rfl rfl (fl_k rfl rfl fl_0)))) (fun ls hl => ?_)
  obtain ⟨n1, h⟩ := h
  exact tJ7_fill_53178_5 M hr hlk hRf hRl hRc hRs n1 _ _ _ _ _ h _ _ _ B (lv_sub hl [2, 3, 1, 0] rfl)
end
set_option maxRecDepth 100000 in
set_option maxHeartbeats 4000000 in
theorem kJ7_fill_53178 (l : Launch) (D : va_G) (cy : Nat → ClassId) {post : Pool → Prop} {v0 : Option Nat} {v1 : Int32} {S : Pool} (h : wJ7_fill_53178 post v0 v1 S) : MetV l yJ7_fill_53178 cJ7_fill_53178 4 rmJ7_fill_53178 [va_rf v0, .int v1] D cy S post := by
  intro sz
  refine Met.ofW (cc := cJ7_fill_53178) (maxL := 4) (ret := none) (by decide) rfl ?_
  intro p e s m args below meth c s₁ B0 hml hv
  obtain ⟨rfl, hpp⟩ := hv
  have hts := atoms_spec (ws := .code yJ7_fill_53178 cJ7_fill_53178 4 none :: Gw) B0.pre
  obtain rfl : s.heap.size = sz := hpp.1
  have hl := lv_entry [va_rf v0, .int v1] (n := 4) (by rw [sl_r, sl_i, sl_0]; decide)
  rw [lg_entry_eq]
  rw [la_r, la_i, la_0] at hl
  exact tJ7_fill_53178 (l := l) (R := rmJ7_fill_53178) ⟨B0.exec, B0.bytes, hml, findClass_of_methodNamed B0.named, fun w hw => hts w (List.mem_cons_of_mem _ hw)⟩ B0.returns B0.notSynchronized (Nat.le_refl _) (Nat.le_refl _) (Nat.le_refl _) (Nat.le_refl _) _ _ _ h _ _ _ hpp.pb (lv_sub hl [0, 1] rfl)
-- J6_bitCount_0f7a4: java/lang/Integer.bitCount(I)I
def wJ6_bitCount_0f7a4 (post : Int32 → Pool → Prop) (v0 : Int32) (S : Pool) : Prop := post ((((((((v0 - (((v0.toUInt32 >>> ((1 : Int32).toUInt32 &&& Int32.toUInt32 31)).toInt32) &&& 1431655765)) &&& 858993459) + ((((v0 - (((v0.toUInt32 >>> ((1 : Int32).toUInt32 &&& Int32.toUInt32 31)).toInt32) &&& 1431655765)).toUInt32 >>> ((2 : Int32).toUInt32 &&& Int32.toUInt32 31)).toInt32) &&& 858993459)) + (((((v0 - (((v0.toUInt32 >>> ((1 : Int32).toUInt32 &&& Int32.toUInt32 31)).toInt32) &&& 1431655765)) &&& 858993459) + ((((v0 - (((v0.toUInt32 >>> ((1 : Int32).toUInt32 &&& Int32.toUInt32 31)).toInt32) &&& 1431655765)).toUInt32 >>> ((2 : Int32).toUInt32 &&& Int32.toUInt32 31)).toInt32) &&& 858993459)).toUInt32 >>> ((4 : Int32).toUInt32 &&& Int32.toUInt32 31)).toInt32)) &&& 252645135) + (((((((v0 - (((v0.toUInt32 >>> ((1 : Int32).toUInt32 &&& Int32.toUInt32 31)).toInt32) &&& 1431655765)) &&& 858993459) + ((((v0 - (((v0.toUInt32 >>> ((1 : Int32).toUInt32 &&& Int32.toUInt32 31)).toInt32) &&& 1431655765)).toUInt32 >>> ((2 : Int32).toUInt32 &&& Int32.toUInt32 31)).toInt32) &&& 858993459)) + (((((v0 - (((v0.toUInt32 >>> ((1 : Int32).toUInt32 &&& Int32.toUInt32 31)).toInt32) &&& 1431655765)) &&& 858993459) + ((((v0 - (((v0.toUInt32 >>> ((1 : Int32).toUInt32 &&& Int32.toUInt32 31)).toInt32) &&& 1431655765)).toUInt32 >>> ((2 : Int32).toUInt32 &&& Int32.toUInt32 31)).toInt32) &&& 858993459)).toUInt32 >>> ((4 : Int32).toUInt32 &&& Int32.toUInt32 31)).toInt32)) &&& 252645135).toUInt32 >>> ((8 : Int32).toUInt32 &&& Int32.toUInt32 31)).toInt32)) + ((((((((v0 - (((v0.toUInt32 >>> ((1 : Int32).toUInt32 &&& Int32.toUInt32 31)).toInt32) &&& 1431655765)) &&& 858993459) + ((((v0 - (((v0.toUInt32 >>> ((1 : Int32).toUInt32 &&& Int32.toUInt32 31)).toInt32) &&& 1431655765)).toUInt32 >>> ((2 : Int32).toUInt32 &&& Int32.toUInt32 31)).toInt32) &&& 858993459)) + (((((v0 - (((v0.toUInt32 >>> ((1 : Int32).toUInt32 &&& Int32.toUInt32 31)).toInt32) &&& 1431655765)) &&& 858993459) + ((((v0 - (((v0.toUInt32 >>> ((1 : Int32).toUInt32 &&& Int32.toUInt32 31)).toInt32) &&& 1431655765)).toUInt32 >>> ((2 : Int32).toUInt32 &&& Int32.toUInt32 31)).toInt32) &&& 858993459)).toUInt32 >>> ((4 : Int32).toUInt32 &&& Int32.toUInt32 31)).toInt32)) &&& 252645135) + (((((((v0 - (((v0.toUInt32 >>> ((1 : Int32).toUInt32 &&& Int32.toUInt32 31)).toInt32) &&& 1431655765)) &&& 858993459) + ((((v0 - (((v0.toUInt32 >>> ((1 : Int32).toUInt32 &&& Int32.toUInt32 31)).toInt32) &&& 1431655765)).toUInt32 >>> ((2 : Int32).toUInt32 &&& Int32.toUInt32 31)).toInt32) &&& 858993459)) + (((((v0 - (((v0.toUInt32 >>> ((1 : Int32).toUInt32 &&& Int32.toUInt32 31)).toInt32) &&& 1431655765)) &&& 858993459) + ((((v0 - (((v0.toUInt32 >>> ((1 : Int32).toUInt32 &&& Int32.toUInt32 31)).toInt32) &&& 1431655765)).toUInt32 >>> ((2 : Int32).toUInt32 &&& Int32.toUInt32 31)).toInt32) &&& 858993459)).toUInt32 >>> ((4 : Int32).toUInt32 &&& Int32.toUInt32 31)).toInt32)) &&& 252645135).toUInt32 >>> ((8 : Int32).toUInt32 &&& Int32.toUInt32 31)).toInt32)).toUInt32 >>> ((16 : Int32).toUInt32 &&& Int32.toUInt32 31)).toInt32)) &&& 63) S
def rmJ6_bitCount_0f7a4 : Room := { frames := 0, cells := 0, slots := 0, locals := 0 }
section
variable {p : Program} {l : Launch} {e : Env} {R : Room} {s : State} {m : MethodId} {args : Array Value} {below : List Frame} {meth : Method} {c : Code} {D : va_G} {cy : Nat → ClassId} {A : Nat → Prop}
set_option maxRecDepth 100000 in
set_option maxHeartbeats 4000000 in
theorem tJ6_bitCount_0f7a4 {post : Int32 → Pool → Prop} (M : MC p m c cJ6_bitCount_0f7a4 1 s args RJ6) (hr : meth.sig.returnType = (some FieldType.int)) (hlk : meth.locks = false) (hRf : 0 ≤ R.frames) (hRl : 0 ≤ R.locals) (hRc : 0 ≤ R.cells) (hRs : 0 ≤ R.slots) : ∀ (v0 : Int32) (S : Pool), wJ6_bitCount_0f7a4 post v0 S → ∀ (H : Heap) (locs : List Loc) (ls : Array Slot), PB D cy A s S H locs → lv_has ls 1 [(0, .int v0)] → W p l e R s m args below meth c H locs 0 0 (MQ below (va_Qi post (PQ D cy A) A) args s 0 0 A) (F0 m 0 ls []) := by
  intro v0 S h H locs ls B hl
  unfold wJ6_bitCount_0f7a4 at h
  refine lv_iload_n M.1 M.2.1 dJ6_bitCount_0f7a4_0 rfl (lv_at hl 0 rfl) ?_
  refine lv_iload_n M.1 M.2.1 dJ6_bitCount_0f7a4_1 rfl (lv_at hl 0 rfl) ?_
  refine lv_iconst (v := 1) M.1 M.2.1 dJ6_bitCount_0f7a4_2 (by decide) ?_
  refine lv_iushr (v := (v0.toUInt32 >>> ((1 : Int32).toUInt32 &&& Int32.toUInt32 31)).toInt32) M.1 M.2.1 dJ6_bitCount_0f7a4_3 rfl ?_
  refine lv_ldcw (v := 1431655765) M.1 M.2.1 M.2.2.2.1 (M.2.2.2.2 _ wkJ6_265) dJ6_bitCount_0f7a4_4 ?_
  refine lv_iand M.1 M.2.1 dJ6_bitCount_0f7a4_7 ?_
  refine lv_isub M.1 M.2.1 dJ6_bitCount_0f7a4_8 ?_
  refine lv_istore_n (lv' := [(0, .int (v0 - (((v0.toUInt32 >>> ((1 : Int32).toUInt32 &&& Int32.toUInt32 31)).toInt32) &&& 1431655765)))]) M.1 M.2.1 dJ6_bitCount_0f7a4_9 rfl hl (by decide) (fl_e (fl_d rfl fl_0)) (fun ls hl => ?_)
  refine lv_iload_n M.1 M.2.1 dJ6_bitCount_0f7a4_10 rfl (lv_at hl 0 rfl) ?_
  refine lv_ldcw (v := 858993459) M.1 M.2.1 M.2.2.2.1 (M.2.2.2.2 _ wkJ6_266) dJ6_bitCount_0f7a4_11 ?_
  refine lv_iand M.1 M.2.1 dJ6_bitCount_0f7a4_14 ?_
  refine lv_iload_n M.1 M.2.1 dJ6_bitCount_0f7a4_15 rfl (lv_at hl 0 rfl) ?_
  refine lv_iconst (v := 2) M.1 M.2.1 dJ6_bitCount_0f7a4_16 (by decide) ?_
  refine lv_iushr (v := ((v0 - (((v0.toUInt32 >>> ((1 : Int32).toUInt32 &&& Int32.toUInt32 31)).toInt32) &&& 1431655765)).toUInt32 >>> ((2 : Int32).toUInt32 &&& Int32.toUInt32 31)).toInt32) M.1 M.2.1 dJ6_bitCount_0f7a4_17 rfl ?_
  refine lv_ldcw (v := 858993459) M.1 M.2.1 M.2.2.2.1 (M.2.2.2.2 _ wkJ6_266) dJ6_bitCount_0f7a4_18 ?_
  refine lv_iand M.1 M.2.1 dJ6_bitCount_0f7a4_21 ?_
  refine lv_iadd M.1 M.2.1 dJ6_bitCount_0f7a4_22 ?_
  refine lv_istore_n (lv' := [(0, .int (((v0 - (((v0.toUInt32 >>> ((1 : Int32).toUInt32 &&& Int32.toUInt32 31)).toInt32) &&& 1431655765)) &&& 858993459) + ((((v0 - (((v0.toUInt32 >>> ((1 : Int32).toUInt32 &&& Int32.toUInt32 31)).toInt32) &&& 1431655765)).toUInt32 >>> ((2 : Int32).toUInt32 &&& Int32.toUInt32 31)).toInt32) &&& 858993459)))]) M.1 M.2.1 dJ6_bitCount_0f7a4_23 rfl hl (by decide) (fl_e (fl_d rfl fl_0)) (fun ls hl => ?_)
  refine lv_iload_n M.1 M.2.1 dJ6_bitCount_0f7a4_24 rfl (lv_at hl 0 rfl) ?_
  refine lv_iload_n M.1 M.2.1 dJ6_bitCount_0f7a4_25 rfl (lv_at hl 0 rfl) ?_
  refine lv_iconst (v := 4) M.1 M.2.1 dJ6_bitCount_0f7a4_26 (by decide) ?_
  refine lv_iushr (v := ((((v0 - (((v0.toUInt32 >>> ((1 : Int32).toUInt32 &&& Int32.toUInt32 31)).toInt32) &&& 1431655765)) &&& 858993459) + ((((v0 - (((v0.toUInt32 >>> ((1 : Int32).toUInt32 &&& Int32.toUInt32 31)).toInt32) &&& 1431655765)).toUInt32 >>> ((2 : Int32).toUInt32 &&& Int32.toUInt32 31)).toInt32) &&& 858993459)).toUInt32 >>> ((4 : Int32).toUInt32 &&& Int32.toUInt32 31)).toInt32) M.1 M.2.1 dJ6_bitCount_0f7a4_27 rfl ?_
  refine lv_iadd M.1 M.2.1 dJ6_bitCount_0f7a4_28 ?_
  refine lv_ldcw (v := 252645135) M.1 M.2.1 M.2.2.2.1 (M.2.2.2.2 _ wkJ6_267) dJ6_bitCount_0f7a4_29 ?_
  refine lv_iand M.1 M.2.1 dJ6_bitCount_0f7a4_32 ?_
  refine lv_istore_n (lv' := [(0, .int (((((v0 - (((v0.toUInt32 >>> ((1 : Int32).toUInt32 &&& Int32.toUInt32 31)).toInt32) &&& 1431655765)) &&& 858993459) + ((((v0 - (((v0.toUInt32 >>> ((1 : Int32).toUInt32 &&& Int32.toUInt32 31)).toInt32) &&& 1431655765)).toUInt32 >>> ((2 : Int32).toUInt32 &&& Int32.toUInt32 31)).toInt32) &&& 858993459)) + (((((v0 - (((v0.toUInt32 >>> ((1 : Int32).toUInt32 &&& Int32.toUInt32 31)).toInt32) &&& 1431655765)) &&& 858993459) + ((((v0 - (((v0.toUInt32 >>> ((1 : Int32).toUInt32 &&& Int32.toUInt32 31)).toInt32) &&& 1431655765)).toUInt32 >>> ((2 : Int32).toUInt32 &&& Int32.toUInt32 31)).toInt32) &&& 858993459)).toUInt32 >>> ((4 : Int32).toUInt32 &&& Int32.toUInt32 31)).toInt32)) &&& 252645135))]) M.1 M.2.1 dJ6_bitCount_0f7a4_33 rfl hl (by decide) (fl_e (fl_d rfl fl_0)) (fun ls hl => ?_)
  refine lv_iload_n M.1 M.2.1 dJ6_bitCount_0f7a4_34 rfl (lv_at hl 0 rfl) ?_
  refine lv_iload_n M.1 M.2.1 dJ6_bitCount_0f7a4_35 rfl (lv_at hl 0 rfl) ?_
  refine lv_bipush (v := 8) M.1 M.2.1 dJ6_bitCount_0f7a4_36 (by decide) ?_
  refine lv_iushr (v := ((((((v0 - (((v0.toUInt32 >>> ((1 : Int32).toUInt32 &&& Int32.toUInt32 31)).toInt32) &&& 1431655765)) &&& 858993459) + ((((v0 - (((v0.toUInt32 >>> ((1 : Int32).toUInt32 &&& Int32.toUInt32 31)).toInt32) &&& 1431655765)).toUInt32 >>> ((2 : Int32).toUInt32 &&& Int32.toUInt32 31)).toInt32) &&& 858993459)) + (((((v0 - (((v0.toUInt32 >>> ((1 : Int32).toUInt32 &&& Int32.toUInt32 31)).toInt32) &&& 1431655765)) &&& 858993459) + ((((v0 - (((v0.toUInt32 >>> ((1 : Int32).toUInt32 &&& Int32.toUInt32 31)).toInt32) &&& 1431655765)).toUInt32 >>> ((2 : Int32).toUInt32 &&& Int32.toUInt32 31)).toInt32) &&& 858993459)).toUInt32 >>> ((4 : Int32).toUInt32 &&& Int32.toUInt32 31)).toInt32)) &&& 252645135).toUInt32 >>> ((8 : Int32).toUInt32 &&& Int32.toUInt32 31)).toInt32) M.1 M.2.1 dJ6_bitCount_0f7a4_38 rfl ?_
  refine lv_iadd M.1 M.2.1 dJ6_bitCount_0f7a4_39 ?_
  refine lv_istore_n (lv' := [(0, .int ((((((v0 - (((v0.toUInt32 >>> ((1 : Int32).toUInt32 &&& Int32.toUInt32 31)).toInt32) &&& 1431655765)) &&& 858993459) + ((((v0 - (((v0.toUInt32 >>> ((1 : Int32).toUInt32 &&& Int32.toUInt32 31)).toInt32) &&& 1431655765)).toUInt32 >>> ((2 : Int32).toUInt32 &&& Int32.toUInt32 31)).toInt32) &&& 858993459)) + (((((v0 - (((v0.toUInt32 >>> ((1 : Int32).toUInt32 &&& Int32.toUInt32 31)).toInt32) &&& 1431655765)) &&& 858993459) + ((((v0 - (((v0.toUInt32 >>> ((1 : Int32).toUInt32 &&& Int32.toUInt32 31)).toInt32) &&& 1431655765)).toUInt32 >>> ((2 : Int32).toUInt32 &&& Int32.toUInt32 31)).toInt32) &&& 858993459)).toUInt32 >>> ((4 : Int32).toUInt32 &&& Int32.toUInt32 31)).toInt32)) &&& 252645135) + (((((((v0 - (((v0.toUInt32 >>> ((1 : Int32).toUInt32 &&& Int32.toUInt32 31)).toInt32) &&& 1431655765)) &&& 858993459) + ((((v0 - (((v0.toUInt32 >>> ((1 : Int32).toUInt32 &&& Int32.toUInt32 31)).toInt32) &&& 1431655765)).toUInt32 >>> ((2 : Int32).toUInt32 &&& Int32.toUInt32 31)).toInt32) &&& 858993459)) + (((((v0 - (((v0.toUInt32 >>> ((1 : Int32).toUInt32 &&& Int32.toUInt32 31)).toInt32) &&& 1431655765)) &&& 858993459) + ((((v0 - (((v0.toUInt32 >>> ((1 : Int32).toUInt32 &&& Int32.toUInt32 31)).toInt32) &&& 1431655765)).toUInt32 >>> ((2 : Int32).toUInt32 &&& Int32.toUInt32 31)).toInt32) &&& 858993459)).toUInt32 >>> ((4 : Int32).toUInt32 &&& Int32.toUInt32 31)).toInt32)) &&& 252645135).toUInt32 >>> ((8 : Int32).toUInt32 &&& Int32.toUInt32 31)).toInt32)))]) M.1 M.2.1 dJ6_bitCount_0f7a4_40 rfl hl (by decide) (fl_e (fl_d rfl fl_0)) (fun ls hl => ?_)
  refine lv_iload_n M.1 M.2.1 dJ6_bitCount_0f7a4_41 rfl (lv_at hl 0 rfl) ?_
  refine lv_iload_n M.1 M.2.1 dJ6_bitCount_0f7a4_42 rfl (lv_at hl 0 rfl) ?_
  refine lv_bipush (v := 16) M.1 M.2.1 dJ6_bitCount_0f7a4_43 (by decide) ?_
  refine lv_iushr (v := (((((((v0 - (((v0.toUInt32 >>> ((1 : Int32).toUInt32 &&& Int32.toUInt32 31)).toInt32) &&& 1431655765)) &&& 858993459) + ((((v0 - (((v0.toUInt32 >>> ((1 : Int32).toUInt32 &&& Int32.toUInt32 31)).toInt32) &&& 1431655765)).toUInt32 >>> ((2 : Int32).toUInt32 &&& Int32.toUInt32 31)).toInt32) &&& 858993459)) + (((((v0 - (((v0.toUInt32 >>> ((1 : Int32).toUInt32 &&& Int32.toUInt32 31)).toInt32) &&& 1431655765)) &&& 858993459) + ((((v0 - (((v0.toUInt32 >>> ((1 : Int32).toUInt32 &&& Int32.toUInt32 31)).toInt32) &&& 1431655765)).toUInt32 >>> ((2 : Int32).toUInt32 &&& Int32.toUInt32 31)).toInt32) &&& 858993459)).toUInt32 >>> ((4 : Int32).toUInt32 &&& Int32.toUInt32 31)).toInt32)) &&& 252645135) + (((((((v0 - (((v0.toUInt32 >>> ((1 : Int32).toUInt32 &&& Int32.toUInt32 31)).toInt32) &&& 1431655765)) &&& 858993459) + ((((v0 - (((v0.toUInt32 >>> ((1 : Int32).toUInt32 &&& Int32.toUInt32 31)).toInt32) &&& 1431655765)).toUInt32 >>> ((2 : Int32).toUInt32 &&& Int32.toUInt32 31)).toInt32) &&& 858993459)) + (((((v0 - (((v0.toUInt32 >>> ((1 : Int32).toUInt32 &&& Int32.toUInt32 31)).toInt32) &&& 1431655765)) &&& 858993459) + ((((v0 - (((v0.toUInt32 >>> ((1 : Int32).toUInt32 &&& Int32.toUInt32 31)).toInt32) &&& 1431655765)).toUInt32 >>> ((2 : Int32).toUInt32 &&& Int32.toUInt32 31)).toInt32) &&& 858993459)).toUInt32 >>> ((4 : Int32).toUInt32 &&& Int32.toUInt32 31)).toInt32)) &&& 252645135).toUInt32 >>> ((8 : Int32).toUInt32 &&& Int32.toUInt32 31)).toInt32)).toUInt32 >>> ((16 : Int32).toUInt32 &&& Int32.toUInt32 31)).toInt32) M.1 M.2.1 dJ6_bitCount_0f7a4_45 rfl ?_
  refine lv_iadd M.1 M.2.1 dJ6_bitCount_0f7a4_46 ?_
  refine lv_istore_n (lv' := [(0, .int (((((((v0 - (((v0.toUInt32 >>> ((1 : Int32).toUInt32 &&& Int32.toUInt32 31)).toInt32) &&& 1431655765)) &&& 858993459) + ((((v0 - (((v0.toUInt32 >>> ((1 : Int32).toUInt32 &&& Int32.toUInt32 31)).toInt32) &&& 1431655765)).toUInt32 >>> ((2 : Int32).toUInt32 &&& Int32.toUInt32 31)).toInt32) &&& 858993459)) + (((((v0 - (((v0.toUInt32 >>> ((1 : Int32).toUInt32 &&& Int32.toUInt32 31)).toInt32) &&& 1431655765)) &&& 858993459) + ((((v0 - (((v0.toUInt32 >>> ((1 : Int32).toUInt32 &&& Int32.toUInt32 31)).toInt32) &&& 1431655765)).toUInt32 >>> ((2 : Int32).toUInt32 &&& Int32.toUInt32 31)).toInt32) &&& 858993459)).toUInt32 >>> ((4 : Int32).toUInt32 &&& Int32.toUInt32 31)).toInt32)) &&& 252645135) + (((((((v0 - (((v0.toUInt32 >>> ((1 : Int32).toUInt32 &&& Int32.toUInt32 31)).toInt32) &&& 1431655765)) &&& 858993459) + ((((v0 - (((v0.toUInt32 >>> ((1 : Int32).toUInt32 &&& Int32.toUInt32 31)).toInt32) &&& 1431655765)).toUInt32 >>> ((2 : Int32).toUInt32 &&& Int32.toUInt32 31)).toInt32) &&& 858993459)) + (((((v0 - (((v0.toUInt32 >>> ((1 : Int32).toUInt32 &&& Int32.toUInt32 31)).toInt32) &&& 1431655765)) &&& 858993459) + ((((v0 - (((v0.toUInt32 >>> ((1 : Int32).toUInt32 &&& Int32.toUInt32 31)).toInt32) &&& 1431655765)).toUInt32 >>> ((2 : Int32).toUInt32 &&& Int32.toUInt32 31)).toInt32) &&& 858993459)).toUInt32 >>> ((4 : Int32).toUInt32 &&& Int32.toUInt32 31)).toInt32)) &&& 252645135).toUInt32 >>> ((8 : Int32).toUInt32 &&& Int32.toUInt32 31)).toInt32)) + ((((((((v0 - (((v0.toUInt32 >>> ((1 : Int32).toUInt32 &&& Int32.toUInt32 31)).toInt32) &&& 1431655765)) &&& 858993459) + ((((v0 - (((v0.toUInt32 >>> ((1 : Int32).toUInt32 &&& Int32.toUInt32 31)).toInt32) &&& 1431655765)).toUInt32 >>> ((2 : Int32).toUInt32 &&& Int32.toUInt32 31)).toInt32) &&& 858993459)) + (((((v0 - (((v0.toUInt32 >>> ((1 : Int32).toUInt32 &&& Int32.toUInt32 31)).toInt32) &&& 1431655765)) &&& 858993459) + ((((v0 - (((v0.toUInt32 >>> ((1 : Int32).toUInt32 &&& Int32.toUInt32 31)).toInt32) &&& 1431655765)).toUInt32 >>> ((2 : Int32).toUInt32 &&& Int32.toUInt32 31)).toInt32) &&& 858993459)).toUInt32 >>> ((4 : Int32).toUInt32 &&& Int32.toUInt32 31)).toInt32)) &&& 252645135) + (((((((v0 - (((v0.toUInt32 >>> ((1 : Int32).toUInt32 &&& Int32.toUInt32 31)).toInt32) &&& 1431655765)) &&& 858993459) + ((((v0 - (((v0.toUInt32 >>> ((1 : Int32).toUInt32 &&& Int32.toUInt32 31)).toInt32) &&& 1431655765)).toUInt32 >>> ((2 : Int32).toUInt32 &&& Int32.toUInt32 31)).toInt32) &&& 858993459)) + (((((v0 - (((v0.toUInt32 >>> ((1 : Int32).toUInt32 &&& Int32.toUInt32 31)).toInt32) &&& 1431655765)) &&& 858993459) + ((((v0 - (((v0.toUInt32 >>> ((1 : Int32).toUInt32 &&& Int32.toUInt32 31)).toInt32) &&& 1431655765)).toUInt32 >>> ((2 : Int32).toUInt32 &&& Int32.toUInt32 31)).toInt32) &&& 858993459)).toUInt32 >>> ((4 : Int32).toUInt32 &&& Int32.toUInt32 31)).toInt32)) &&& 252645135).toUInt32 >>> ((8 : Int32).toUInt32 &&& Int32.toUInt32 31)).toInt32)).toUInt32 >>> ((16 : Int32).toUInt32 &&& Int32.toUInt32 31)).toInt32)))]) M.1 M.2.1 dJ6_bitCount_0f7a4_47 rfl hl (by decide) (fl_e (fl_d rfl fl_0)) (fun ls hl => ?_)
  refine lv_iload_n M.1 M.2.1 dJ6_bitCount_0f7a4_48 rfl (lv_at hl 0 rfl) ?_
  refine lv_bipush (v := 63) M.1 M.2.1 dJ6_bitCount_0f7a4_49 (by decide) ?_
  refine lv_iand M.1 M.2.1 dJ6_bitCount_0f7a4_51 ?_
  exact g_iret M B hr hlk h (by decide) (by decide) dJ6_bitCount_0f7a4_52
end
set_option maxRecDepth 100000 in
set_option maxHeartbeats 4000000 in
theorem kJ6_bitCount_0f7a4 (l : Launch) (D : va_G) (cy : Nat → ClassId) {post : Int32 → Pool → Prop} {v0 : Int32} {S : Pool} (h : wJ6_bitCount_0f7a4 post v0 S) : MetI l yJ6_bitCount_0f7a4 cJ6_bitCount_0f7a4 1 (some FieldType.int) rmJ6_bitCount_0f7a4 [.int v0] D cy S post := by
  intro sz
  refine Met.ofW (cc := cJ6_bitCount_0f7a4) (maxL := 1) (ret := (some FieldType.int)) (by decide) rfl ?_
  intro p e s m args below meth c s₁ B0 hml hv
  obtain ⟨rfl, hpp⟩ := hv
  have hts := atoms_spec (ws := .code yJ6_bitCount_0f7a4 cJ6_bitCount_0f7a4 1 (some FieldType.int) :: Gw) B0.pre
  obtain rfl : s.heap.size = sz := hpp.1
  have hl := lv_entry [.int v0] (n := 1) (by rw [sl_i, sl_0]; decide)
  rw [lg_entry_eq]
  rw [la_i, la_0] at hl
  exact tJ6_bitCount_0f7a4 (l := l) (R := rmJ6_bitCount_0f7a4) ⟨B0.exec, B0.bytes, hml, findClass_of_methodNamed B0.named, fun w hw => hts w (List.mem_cons_of_mem _ hw)⟩ B0.returns B0.notSynchronized (Nat.le_refl _) (Nat.le_refl _) (Nat.le_refl _) (Nat.le_refl _) _ _ h _ _ _ hpp.pb (lv_sub hl [0] rfl)
-- X3_init: LogHunt$Question.<init>()V
def wX3_init (post : Pool → Prop) (v0 : Option Nat) (S : Pool) : Prop := xnn v0 (xna S 14 6 6 fun a1 S2 => xpR S2 v0 3 0 a1 fun S3 => xR S3 v0 3 0 fun a5 => xnw S3 5 fun a6 S7 => xnn a6 (wX5_init (fun S8 => xsR S8 a5 14 5 0 a6 fun S9 => xR S9 v0 3 0 fun a11 => xnw S9 5 fun a12 S13 => xnn a12 (wX5_init (fun S14 => xsR S14 a11 14 5 1 a12 fun S15 => xR S15 v0 3 0 fun a17 => xnw S15 5 fun a18 S19 => xnn a18 (wX5_init (fun S20 => xsR S20 a17 14 5 2 a18 fun S21 => xR S21 v0 3 0 fun a23 => xnw S21 5 fun a24 S25 => xnn a24 (wX5_init (fun S26 => xsR S26 a23 14 5 3 a24 fun S27 => xR S27 v0 3 0 fun a29 => xnw S27 5 fun a30 S31 => xnn a30 (wX5_init (fun S32 => xsR S32 a29 14 5 4 a30 fun S33 => xR S33 v0 3 0 fun a35 => xnw S33 5 fun a36 S37 => xnn a36 (wX5_init (fun S38 => xsR S38 a35 14 5 5 a36 fun S39 => post S39) a36 S37)) a30 S31)) a24 S25)) a18 S19)) a12 S13)) a6 S7))
def rmX3_init : Room := { frames := 2, cells := 7, slots := 54, locals := 32 }
section
variable {p : Program} {l : Launch} {e : Env} {R : Room} {s : State} {m : MethodId} {args : Array Value} {below : List Frame} {meth : Method} {c : Code} {D : va_G} {cy : Nat → ClassId} {A : Nat → Prop}
set_option maxRecDepth 100000 in
set_option maxHeartbeats 4000000 in
theorem tX3_init {post : Pool → Prop} (M : MC p m c cX3_init 2 s args RX3) (hr : meth.sig.returnType = none) (hlk : meth.locks = false) (hRf : 2 ≤ R.frames) (hRl : 32 ≤ R.locals) (hRc : 7 ≤ R.cells) (hRs : 54 ≤ R.slots) (hin : meth.name = "<init>") : ∀ (v0 : Option Nat) (S : Pool), wX3_init post v0 S → ∀ (H : Heap) (locs : List Loc) (ls : Array Slot), PB D cy A s S H locs → lv_has ls 2 [(0, va_rf v0)] → W p l e R s m args below meth c H locs 0 0 (MQ below (va_Qv post (PQ D cy A) A) args s 7 54 A) (F0 m 0 ls []) := by
  intro v0 S h H locs ls B hl
  unfold wX3_init at h
  refine g_aload_n M dX3_init_0 rfl (lv_at hl 0 rfl) ?_
  obtain ⟨⟨o1, e1⟩, h⟩ := h
  refine g_objInit M e1 wmX3_3 hl.1 dX3_init_1 rfl (Nat.le_trans (by decide) hRf) (Nat.le_trans (by decide) hRl) ?_
  refine g_aload_n M dX3_init_4 rfl (lv_at hl 0 rfl) ?_
  refine lv_bipush (v := 6) M.1 M.2.1 dX3_init_5 (by decide) ?_
  refine g_newA (kd := 14) (j := 4) (N := 6) M B ⟨by decide, by decide⟩ rfl wcX3_9 B.2.2.2.2.2.2.2.2.2.2.2.2.2.2.1 (by decide) (Nat.le_trans (by decide) hRc) (Nat.le_trans (by decide) hRs) dX3_init_7 h (fun a1 S2 H locs h B => ?_)
  refine W.widen (k := 1) (n := 6) (by decide) (by decide) ?_
  refine gpX3_11 M B hin dX3_init_10 h (fun S3 H locs h B => ?_)
  refine lv_iconst (v := 0) M.1 M.2.1 dX3_init_13 (by decide) ?_
  refine lv_istore_n (lv' := [(1, .int 0), (0, va_rf v0)]) M.1 M.2.1 dX3_init_14 rfl hl (by decide) (fl_e (fl_r rfl fl_0)) (fun ls hl => ?_)
  refine lv_iload_n M.1 M.2.1 dX3_init_15 rfl (lv_at hl 0 rfl) ?_
  refine lv_bipush (v := 6) M.1 M.2.1 dX3_init_16 (by decide) ?_
  refine lv_icmp_ge (tgt := 40) M.1 M.2.1 dX3_init_18 (by decide) (fun c => absurd c (by decide)) (fun _ => ?_)
  refine g_aload_n M dX3_init_21 rfl (lv_at hl 1 rfl) ?_
  refine gfX3_11 M B dX3_init_22 h (fun a5 h => ?_)
  refine lv_iload_n M.1 M.2.1 dX3_init_25 rfl (lv_at hl 0 rfl) ?_
  refine gnX3_9 M B (Nat.le_trans (by decide) hRc) (Nat.le_trans (by decide) hRs) dX3_init_26 h (fun a6 S7 H locs h B => ?_)
  refine W.widen (k := 2) (n := 14) (by decide) (by decide) ?_
  refine lv_dup M.1 M.2.1 dX3_init_29 (rf_cat _) ?_
  obtain ⟨⟨o1, e1⟩, h⟩ := h
  refine g_callv (k1 := 2) (k2 := 14) B (g_runIN (n := 0) (As := []) (rm := rmX5_init) M B e1 (kX5_init (v0 := a6) l D cy h _) B.2.2.2.2.2.2.2.2.2.2.2.1 wiX5_init wnX5 wcdX5_init rfl ⟨by decide, by decide, by decide +kernel⟩ ⟨Nat.le_trans (by decide) hRf, Nat.le_trans (by decide) hRl⟩ ⟨Nat.le_trans (by decide) hRc, Nat.le_trans (by decide) hRs⟩ rfl hl.1 rfl (ct_r (ct_i (ct_r ct_0))) (by decide) dX3_init_30) (by decide) (by decide) (fun S8 H locs h B => ?_)
  refine g_aast (kd := 14) (kv := 5) (t0 := 4) M B ⟨by decide, by decide⟩ (by decide) rfl rfl dX3_init_33 h (fun S9 H locs h B => ?_)
  refine lv_iinc (v := 1) (lv' := [(1, .int 1), (0, va_rf v0)]) M.1 M.2.1 dX3_init_34 hl (k := 0) rfl (by decide) (by decide) (fl_e (fl_d rfl (fl_r rfl fl_0))) (fun ls hl => ?_)
  refine lv_goto (tgt := 15) M.1 M.2.1 dX3_init_37 (by decide) ?_
  refine lv_iload_n M.1 M.2.1 dX3_init_15 rfl (lv_at hl 0 rfl) ?_
  refine lv_bipush (v := 6) M.1 M.2.1 dX3_init_16 (by decide) ?_
  refine lv_icmp_ge (tgt := 40) M.1 M.2.1 dX3_init_18 (by decide) (fun c => absurd c (by decide)) (fun _ => ?_)
  refine g_aload_n M dX3_init_21 rfl (lv_at hl 1 rfl) ?_
  refine gfX3_11 M B dX3_init_22 h (fun a11 h => ?_)
  refine lv_iload_n M.1 M.2.1 dX3_init_25 rfl (lv_at hl 0 rfl) ?_
  refine gnX3_9 M B (Nat.le_trans (by decide) hRc) (Nat.le_trans (by decide) hRs) dX3_init_26 h (fun a12 S13 H locs h B => ?_)
  refine W.widen (k := 3) (n := 22) (by decide) (by decide) ?_
  refine lv_dup M.1 M.2.1 dX3_init_29 (rf_cat _) ?_
  obtain ⟨⟨o1, e1⟩, h⟩ := h
  refine g_callv (k1 := 3) (k2 := 22) B (g_runIN (n := 0) (As := []) (rm := rmX5_init) M B e1 (kX5_init (v0 := a12) l D cy h _) B.2.2.2.2.2.2.2.2.2.2.2.1 wiX5_init wnX5 wcdX5_init rfl ⟨by decide, by decide, by decide +kernel⟩ ⟨Nat.le_trans (by decide) hRf, Nat.le_trans (by decide) hRl⟩ ⟨Nat.le_trans (by decide) hRc, Nat.le_trans (by decide) hRs⟩ rfl hl.1 rfl (ct_r (ct_i (ct_r ct_0))) (by decide) dX3_init_30) (by decide) (by decide) (fun S14 H locs h B => ?_)
  refine g_aast (kd := 14) (kv := 5) (t0 := 4) M B ⟨by decide, by decide⟩ (by decide) rfl rfl dX3_init_33 h (fun S15 H locs h B => ?_)
  refine lv_iinc (v := 2) (lv' := [(1, .int 2), (0, va_rf v0)]) M.1 M.2.1 dX3_init_34 hl (k := 0) rfl (by decide) (by decide) (fl_e (fl_d rfl (fl_r rfl fl_0))) (fun ls hl => ?_)
  refine lv_goto (tgt := 15) M.1 M.2.1 dX3_init_37 (by decide) ?_
  refine lv_iload_n M.1 M.2.1 dX3_init_15 rfl (lv_at hl 0 rfl) ?_
  refine lv_bipush (v := 6) M.1 M.2.1 dX3_init_16 (by decide) ?_
  refine lv_icmp_ge (tgt := 40) M.1 M.2.1 dX3_init_18 (by decide) (fun c => absurd c (by decide)) (fun _ => ?_)
  refine g_aload_n M dX3_init_21 rfl (lv_at hl 1 rfl) ?_
  refine gfX3_11 M B dX3_init_22 h (fun a17 h => ?_)
  refine lv_iload_n M.1 M.2.1 dX3_init_25 rfl (lv_at hl 0 rfl) ?_
  refine gnX3_9 M B (Nat.le_trans (by decide) hRc) (Nat.le_trans (by decide) hRs) dX3_init_26 h (fun a18 S19 H locs h B => ?_)
  refine W.widen (k := 4) (n := 30) (by decide) (by decide) ?_
  refine lv_dup M.1 M.2.1 dX3_init_29 (rf_cat _) ?_
  obtain ⟨⟨o1, e1⟩, h⟩ := h
  refine g_callv (k1 := 4) (k2 := 30) B (g_runIN (n := 0) (As := []) (rm := rmX5_init) M B e1 (kX5_init (v0 := a18) l D cy h _) B.2.2.2.2.2.2.2.2.2.2.2.1 wiX5_init wnX5 wcdX5_init rfl ⟨by decide, by decide, by decide +kernel⟩ ⟨Nat.le_trans (by decide) hRf, Nat.le_trans (by decide) hRl⟩ ⟨Nat.le_trans (by decide) hRc, Nat.le_trans (by decide) hRs⟩ rfl hl.1 rfl (ct_r (ct_i (ct_r ct_0))) (by decide) dX3_init_30) (by decide) (by decide) (fun S20 H locs h B => ?_)
  refine g_aast (kd := 14) (kv := 5) (t0 := 4) M B ⟨by decide, by decide⟩ (by decide) rfl rfl dX3_init_33 h (fun S21 H locs h B => ?_)
  refine lv_iinc (v := 3) (lv' := [(1, .int 3), (0, va_rf v0)]) M.1 M.2.1 dX3_init_34 hl (k := 0) rfl (by decide) (by decide) (fl_e (fl_d rfl (fl_r rfl fl_0))) (fun ls hl => ?_)
  refine lv_goto (tgt := 15) M.1 M.2.1 dX3_init_37 (by decide) ?_
  refine lv_iload_n M.1 M.2.1 dX3_init_15 rfl (lv_at hl 0 rfl) ?_
  refine lv_bipush (v := 6) M.1 M.2.1 dX3_init_16 (by decide) ?_
  refine lv_icmp_ge (tgt := 40) M.1 M.2.1 dX3_init_18 (by decide) (fun c => absurd c (by decide)) (fun _ => ?_)
  refine g_aload_n M dX3_init_21 rfl (lv_at hl 1 rfl) ?_
  refine gfX3_11 M B dX3_init_22 h (fun a23 h => ?_)
  refine lv_iload_n M.1 M.2.1 dX3_init_25 rfl (lv_at hl 0 rfl) ?_
  refine gnX3_9 M B (Nat.le_trans (by decide) hRc) (Nat.le_trans (by decide) hRs) dX3_init_26 h (fun a24 S25 H locs h B => ?_)
  refine W.widen (k := 5) (n := 38) (by decide) (by decide) ?_
  refine lv_dup M.1 M.2.1 dX3_init_29 (rf_cat _) ?_
  obtain ⟨⟨o1, e1⟩, h⟩ := h
  refine g_callv (k1 := 5) (k2 := 38) B (g_runIN (n := 0) (As := []) (rm := rmX5_init) M B e1 (kX5_init (v0 := a24) l D cy h _) B.2.2.2.2.2.2.2.2.2.2.2.1 wiX5_init wnX5 wcdX5_init rfl ⟨by decide, by decide, by decide +kernel⟩ ⟨Nat.le_trans (by decide) hRf, Nat.le_trans (by decide) hRl⟩ ⟨Nat.le_trans (by decide) hRc, Nat.le_trans (by decide) hRs⟩ rfl hl.1 rfl (ct_r (ct_i (ct_r ct_0))) (by decide) dX3_init_30) (by decide) (by decide) (fun S26 H locs h B => ?_)
  refine g_aast (kd := 14) (kv := 5) (t0 := 4) M B ⟨by decide, by decide⟩ (by decide) rfl rfl dX3_init_33 h (fun S27 H locs h B => ?_)
  refine lv_iinc (v := 4) (lv' := [(1, .int 4), (0, va_rf v0)]) M.1 M.2.1 dX3_init_34 hl (k := 0) rfl (by decide) (by decide) (fl_e (fl_d rfl (fl_r rfl fl_0))) (fun ls hl => ?_)
  refine lv_goto (tgt := 15) M.1 M.2.1 dX3_init_37 (by decide) ?_
  refine lv_iload_n M.1 M.2.1 dX3_init_15 rfl (lv_at hl 0 rfl) ?_
  refine lv_bipush (v := 6) M.1 M.2.1 dX3_init_16 (by decide) ?_
  refine lv_icmp_ge (tgt := 40) M.1 M.2.1 dX3_init_18 (by decide) (fun c => absurd c (by decide)) (fun _ => ?_)
  refine g_aload_n M dX3_init_21 rfl (lv_at hl 1 rfl) ?_
  refine gfX3_11 M B dX3_init_22 h (fun a29 h => ?_)
  refine lv_iload_n M.1 M.2.1 dX3_init_25 rfl (lv_at hl 0 rfl) ?_
  refine gnX3_9 M B (Nat.le_trans (by decide) hRc) (Nat.le_trans (by decide) hRs) dX3_init_26 h (fun a30 S31 H locs h B => ?_)
  refine W.widen (k := 6) (n := 46) (by decide) (by decide) ?_
  refine lv_dup M.1 M.2.1 dX3_init_29 (rf_cat _) ?_
  obtain ⟨⟨o1, e1⟩, h⟩ := h
  refine g_callv (k1 := 6) (k2 := 46) B (g_runIN (n := 0) (As := []) (rm := rmX5_init) M B e1 (kX5_init (v0 := a30) l D cy h _) B.2.2.2.2.2.2.2.2.2.2.2.1 wiX5_init wnX5 wcdX5_init rfl ⟨by decide, by decide, by decide +kernel⟩ ⟨Nat.le_trans (by decide) hRf, Nat.le_trans (by decide) hRl⟩ ⟨Nat.le_trans (by decide) hRc, Nat.le_trans (by decide) hRs⟩ rfl hl.1 rfl (ct_r (ct_i (ct_r ct_0))) (by decide) dX3_init_30) (by decide) (by decide) (fun S32 H locs h B => ?_)
  refine g_aast (kd := 14) (kv := 5) (t0 := 4) M B ⟨by decide, by decide⟩ (by decide) rfl rfl dX3_init_33 h (fun S33 H locs h B => ?_)
  refine lv_iinc (v := 5) (lv' := [(1, .int 5), (0, va_rf v0)]) M.1 M.2.1 dX3_init_34 hl (k := 0) rfl (by decide) (by decide) (fl_e (fl_d rfl (fl_r rfl fl_0))) (fun ls hl => ?_)
  refine lv_goto (tgt := 15) M.1 M.2.1 dX3_init_37 (by decide) ?_
  refine lv_iload_n M.1 M.2.1 dX3_init_15 rfl (lv_at hl 0 rfl) ?_
  refine lv_bipush (v := 6) M.1 M.2.1 dX3_init_16 (by decide) ?_
  refine lv_icmp_ge (tgt := 40) M.1 M.2.1 dX3_init_18 (by decide) (fun c => absurd c (by decide)) (fun _ => ?_)
  refine g_aload_n M dX3_init_21 rfl (lv_at hl 1 rfl) ?_
  refine gfX3_11 M B dX3_init_22 h (fun a35 h => ?_)
  refine lv_iload_n M.1 M.2.1 dX3_init_25 rfl (lv_at hl 0 rfl) ?_
  refine gnX3_9 M B (Nat.le_trans (by decide) hRc) (Nat.le_trans (by decide) hRs) dX3_init_26 h (fun a36 S37 H locs h B => ?_)
  refine W.widen (k := 7) (n := 54) (by decide) (by decide) ?_
  refine lv_dup M.1 M.2.1 dX3_init_29 (rf_cat _) ?_
  obtain ⟨⟨o1, e1⟩, h⟩ := h
  refine g_callv (k1 := 7) (k2 := 54) B (g_runIN (n := 0) (As := []) (rm := rmX5_init) M B e1 (kX5_init (v0 := a36) l D cy h _) B.2.2.2.2.2.2.2.2.2.2.2.1 wiX5_init wnX5 wcdX5_init rfl ⟨by decide, by decide, by decide +kernel⟩ ⟨Nat.le_trans (by decide) hRf, Nat.le_trans (by decide) hRl⟩ ⟨Nat.le_trans (by decide) hRc, Nat.le_trans (by decide) hRs⟩ rfl hl.1 rfl (ct_r (ct_i (ct_r ct_0))) (by decide) dX3_init_30) (by decide) (by decide) (fun S38 H locs h B => ?_)
  refine g_aast (kd := 14) (kv := 5) (t0 := 4) M B ⟨by decide, by decide⟩ (by decide) rfl rfl dX3_init_33 h (fun S39 H locs h B => ?_)
  refine lv_iinc (v := 6) (lv' := [(1, .int 6), (0, va_rf v0)]) M.1 M.2.1 dX3_init_34 hl (k := 0) rfl (by decide) (by decide) (fl_e (fl_d rfl (fl_r rfl fl_0))) (fun ls hl => ?_)
  refine lv_goto (tgt := 15) M.1 M.2.1 dX3_init_37 (by decide) ?_
  refine lv_iload_n M.1 M.2.1 dX3_init_15 rfl (lv_at hl 0 rfl) ?_
  refine lv_bipush (v := 6) M.1 M.2.1 dX3_init_16 (by decide) ?_
  refine lv_icmp_ge (tgt := 40) M.1 M.2.1 dX3_init_18 (by decide) (fun _ => ?_) (fun c => absurd (by decide) c)
  exact g_vret M B hr hlk h (by decide) (by decide) dX3_init_40
end
set_option maxRecDepth 100000 in
set_option maxHeartbeats 4000000 in
theorem kX3_init (l : Launch) (D : va_G) (cy : Nat → ClassId) {post : Pool → Prop} {v0 : Option Nat} {S : Pool} (h : wX3_init post v0 S) : MetV l yX3_init cX3_init 2 rmX3_init [va_rf v0] D cy S post := by
  intro sz
  refine Met.ofW (cc := cX3_init) (maxL := 2) (ret := none) (by decide) rfl ?_
  intro p e s m args below meth c s₁ B0 hml hv
  obtain ⟨rfl, hpp⟩ := hv
  have hts := atoms_spec (ws := .code yX3_init cX3_init 2 none :: Gw) B0.pre
  obtain rfl : s.heap.size = sz := hpp.1
  have hl := lv_entry [va_rf v0] (n := 2) (by rw [sl_r, sl_0]; decide)
  rw [lg_entry_eq]
  rw [la_r, la_0] at hl
  exact tX3_init (l := l) (R := rmX3_init) ⟨B0.exec, B0.bytes, hml, findClass_of_methodNamed B0.named, fun w hw => hts w (List.mem_cons_of_mem _ hw)⟩ B0.returns B0.notSynchronized (Nat.le_refl _) (Nat.le_refl _) (Nat.le_refl _) (Nat.le_refl _) (name_of_methodNamed B0.named B0.method).1 _ _ h _ _ _ hpp.pb (lv_sub hl [0] rfl)
-- X3_clear: LogHunt$Question.clear()V
def wX3_clear (post : Pool → Prop) (v0 : Option Nat) (S : Pool) : Prop := xpI S v0 3 1 0 fun S1 => xpI S1 v0 3 2 0 fun S2 => xpI S2 v0 3 3 0 fun S3 => xpI S3 v0 3 4 ((-1)) fun S4 => xpI S4 v0 3 5 0 fun S5 => xpI S5 v0 3 6 0 fun S6 => xpI S6 v0 3 7 0 fun S7 => post S7
def rmX3_clear : Room := { frames := 0, cells := 0, slots := 0, locals := 0 }
section
variable {p : Program} {l : Launch} {e : Env} {R : Room} {s : State} {m : MethodId} {args : Array Value} {below : List Frame} {meth : Method} {c : Code} {D : va_G} {cy : Nat → ClassId} {A : Nat → Prop}
set_option maxRecDepth 100000 in
set_option maxHeartbeats 4000000 in
theorem tX3_clear {post : Pool → Prop} (M : MC p m c cX3_clear 1 s args RX3) (hr : meth.sig.returnType = none) (hlk : meth.locks = false) (hRf : 0 ≤ R.frames) (hRl : 0 ≤ R.locals) (hRc : 0 ≤ R.cells) (hRs : 0 ≤ R.slots) : ∀ (v0 : Option Nat) (S : Pool), wX3_clear post v0 S → ∀ (H : Heap) (locs : List Loc) (ls : Array Slot), PB D cy A s S H locs → lv_has ls 1 [(0, va_rf v0)] → W p l e R s m args below meth c H locs 0 0 (MQ below (va_Qv post (PQ D cy A) A) args s 0 0 A) (F0 m 0 ls []) := by
  intro v0 S h H locs ls B hl
  unfold wX3_clear at h
  refine g_aload_n M dX3_clear_0 rfl (lv_at hl 0 rfl) ?_
  refine lv_iconst (v := 0) M.1 M.2.1 dX3_clear_1 (by decide) ?_
  refine gpX3_18 M B dX3_clear_2 h (fun S1 H locs h B => ?_)
  refine g_aload_n M dX3_clear_5 rfl (lv_at hl 0 rfl) ?_
  refine lv_iconst (v := 0) M.1 M.2.1 dX3_clear_6 (by decide) ?_
  refine gpX3_22 M B dX3_clear_7 h (fun S2 H locs h B => ?_)
  refine g_aload_n M dX3_clear_10 rfl (lv_at hl 0 rfl) ?_
  refine lv_iconst (v := 0) M.1 M.2.1 dX3_clear_11 (by decide) ?_
  refine gpX3_25 M B dX3_clear_12 h (fun S3 H locs h B => ?_)
  refine g_aload_n M dX3_clear_15 rfl (lv_at hl 0 rfl) ?_
  refine lv_iconst (v := (-1)) M.1 M.2.1 dX3_clear_16 (by decide) ?_
  refine gpX3_28 M B dX3_clear_17 h (fun S4 H locs h B => ?_)
  refine g_aload_n M dX3_clear_20 rfl (lv_at hl 0 rfl) ?_
  refine lv_iconst (v := 0) M.1 M.2.1 dX3_clear_21 (by decide) ?_
  refine gpX3_31 M B dX3_clear_22 h (fun S5 H locs h B => ?_)
  refine g_aload_n M dX3_clear_25 rfl (lv_at hl 0 rfl) ?_
  refine lv_iconst (v := 0) M.1 M.2.1 dX3_clear_26 (by decide) ?_
  refine gpX3_34 M B dX3_clear_27 h (fun S6 H locs h B => ?_)
  refine g_aload_n M dX3_clear_30 rfl (lv_at hl 0 rfl) ?_
  refine lv_iconst (v := 0) M.1 M.2.1 dX3_clear_31 (by decide) ?_
  refine gpX3_37 M B dX3_clear_32 h (fun S7 H locs h B => ?_)
  exact g_vret M B hr hlk h (by decide) (by decide) dX3_clear_35
end
set_option maxRecDepth 100000 in
set_option maxHeartbeats 4000000 in
theorem kX3_clear (l : Launch) (D : va_G) (cy : Nat → ClassId) {post : Pool → Prop} {v0 : Option Nat} {S : Pool} (h : wX3_clear post v0 S) : MetV l yX3_clear cX3_clear 1 rmX3_clear [va_rf v0] D cy S post := by
  intro sz
  refine Met.ofW (cc := cX3_clear) (maxL := 1) (ret := none) (by decide) rfl ?_
  intro p e s m args below meth c s₁ B0 hml hv
  obtain ⟨rfl, hpp⟩ := hv
  have hts := atoms_spec (ws := .code yX3_clear cX3_clear 1 none :: Gw) B0.pre
  obtain rfl : s.heap.size = sz := hpp.1
  have hl := lv_entry [va_rf v0] (n := 1) (by rw [sl_r, sl_0]; decide)
  rw [lg_entry_eq]
  rw [la_r, la_0] at hl
  exact tX3_clear (l := l) (R := rmX3_clear) ⟨B0.exec, B0.bytes, hml, findClass_of_methodNamed B0.named, fun w hw => hts w (List.mem_cons_of_mem _ hw)⟩ B0.returns B0.notSynchronized (Nat.le_refl _) (Nat.le_refl _) (Nat.le_refl _) (Nat.le_refl _) _ _ h _ _ _ hpp.pb (lv_sub hl [0] rfl)
-- X3_note: LogHunt$Question.note(I)V
def wX3_note (post : Pool → Prop) (v0 : Option Nat) (v1 : Int32) (S : Pool) : Prop := xI S v0 3 7 fun a1 => xpI S v0 3 7 (a1 ||| ((1 : Int32) <<< (v1 &&& 31))) fun S2 => post S2
def rmX3_note : Room := { frames := 0, cells := 0, slots := 0, locals := 0 }
section
variable {p : Program} {l : Launch} {e : Env} {R : Room} {s : State} {m : MethodId} {args : Array Value} {below : List Frame} {meth : Method} {c : Code} {D : va_G} {cy : Nat → ClassId} {A : Nat → Prop}
set_option maxRecDepth 100000 in
set_option maxHeartbeats 4000000 in
theorem tX3_note {post : Pool → Prop} (M : MC p m c cX3_note 2 s args RX3) (hr : meth.sig.returnType = none) (hlk : meth.locks = false) (hRf : 0 ≤ R.frames) (hRl : 0 ≤ R.locals) (hRc : 0 ≤ R.cells) (hRs : 0 ≤ R.slots) : ∀ (v0 : Option Nat) (v1 : Int32) (S : Pool), wX3_note post v0 v1 S → ∀ (H : Heap) (locs : List Loc) (ls : Array Slot), PB D cy A s S H locs → lv_has ls 2 [(0, va_rf v0), (1, .int v1)] → W p l e R s m args below meth c H locs 0 0 (MQ below (va_Qv post (PQ D cy A) A) args s 0 0 A) (F0 m 0 ls []) := by
  intro v0 v1 S h H locs ls B hl
  unfold wX3_note at h
  refine g_aload_n M dX3_note_0 rfl (lv_at hl 0 rfl) ?_
  refine lv_dup M.1 M.2.1 dX3_note_1 (rf_cat _) ?_
  refine gfX3_37 M B dX3_note_2 h (fun a1 h => ?_)
  refine lv_iconst (v := 1) M.1 M.2.1 dX3_note_5 (by decide) ?_
  refine lv_iload_n M.1 M.2.1 dX3_note_6 rfl (lv_at hl 1 rfl) ?_
  refine lv_ishl M.1 M.2.1 dX3_note_7 ?_
  refine lv_ior M.1 M.2.1 dX3_note_8 ?_
  refine gpX3_37 M B dX3_note_9 h (fun S2 H locs h B => ?_)
  exact g_vret M B hr hlk h (by decide) (by decide) dX3_note_12
end
set_option maxRecDepth 100000 in
set_option maxHeartbeats 4000000 in
theorem kX3_note (l : Launch) (D : va_G) (cy : Nat → ClassId) {post : Pool → Prop} {v0 : Option Nat} {v1 : Int32} {S : Pool} (h : wX3_note post v0 v1 S) : MetV l yX3_note cX3_note 2 rmX3_note [va_rf v0, .int v1] D cy S post := by
  intro sz
  refine Met.ofW (cc := cX3_note) (maxL := 2) (ret := none) (by decide) rfl ?_
  intro p e s m args below meth c s₁ B0 hml hv
  obtain ⟨rfl, hpp⟩ := hv
  have hts := atoms_spec (ws := .code yX3_note cX3_note 2 none :: Gw) B0.pre
  obtain rfl : s.heap.size = sz := hpp.1
  have hl := lv_entry [va_rf v0, .int v1] (n := 2) (by rw [sl_r, sl_i, sl_0]; decide)
  rw [lg_entry_eq]
  rw [la_r, la_i, la_0] at hl
  exact tX3_note (l := l) (R := rmX3_note) ⟨B0.exec, B0.bytes, hml, findClass_of_methodNamed B0.named, fun w hw => hts w (List.mem_cons_of_mem _ hw)⟩ B0.returns B0.notSynchronized (Nat.le_refl _) (Nat.le_refl _) (Nat.le_refl _) (Nat.le_refl _) _ _ _ h _ _ _ hpp.pb (lv_sub hl [0, 1] rfl)
-- X3_addStep: LogHunt$Question.addStep(Z)LLogHunt$Step;
def wX3_addStep (post : Option Nat → Pool → Prop) (v0 : Option Nat) (v1 : Int32) (S : Pool) : Prop := xI S v0 3 1 fun a1 => br (a1 < 6) (xR S v0 3 0 fun a3 => xI S v0 3 1 fun a4 => xaR S a3 14 a4 fun a5 => xI S v0 3 2 fun a6 => xrc S a5 5 (wX5_clear (fun S7 => xI S7 v0 3 1 fun a8 => xpI S7 v0 3 1 (a8 + 1) fun S9 => br (v1 = 0) (xI S9 v0 3 2 fun a11 => xpI S9 v0 3 2 (a11 + 1) fun S12 => post a5 S12) (post a5 S9)) a5 v1 a6 S)) (post none S)
def rmX3_addStep : Room := { frames := 1, cells := 0, slots := 0, locals := 22 }
section
variable {p : Program} {l : Launch} {e : Env} {R : Room} {s : State} {m : MethodId} {args : Array Value} {below : List Frame} {meth : Method} {c : Code} {D : va_G} {cy : Nat → ClassId} {A : Nat → Prop}
set_option maxRecDepth 100000 in
set_option maxHeartbeats 4000000 in
theorem tX3_addStep {post : Option Nat → Pool → Prop} (M : MC p m c cX3_addStep 3 s args RX3) (hr : meth.sig.returnType = (some (FieldType.object "LogHunt$Step"))) (hlk : meth.locks = false) (hRf : 1 ≤ R.frames) (hRl : 22 ≤ R.locals) (hRc : 0 ≤ R.cells) (hRs : 0 ≤ R.slots) : ∀ (v0 : Option Nat) (v1 : Int32) (S : Pool), wX3_addStep post v0 v1 S → ∀ (H : Heap) (locs : List Loc) (ls : Array Slot), PB D cy A s S H locs → lv_has ls 3 [(0, va_rf v0), (1, .int v1)] → W p l e R s m args below meth c H locs 0 0 (MQ below (va_Qq post (PQ D cy A) A) args s 0 0 A) (F0 m 0 ls []) := by
  intro v0 v1 S h H locs ls B hl
  unfold wX3_addStep at h
  refine g_aload_n M dX3_addStep_0 rfl (lv_at hl 0 rfl) ?_
  refine gfX3_18 M B dX3_addStep_1 h (fun a1 h => ?_)
  refine lv_bipush (v := 6) M.1 M.2.1 dX3_addStep_4 (by decide) ?_
  refine lv_icmp_lt (tgt := 11) M.1 M.2.1 dX3_addStep_6 (by decide) (fun c2 => ?_) (fun c2 => ?_)
  · have h := h.1 c2
    refine g_aload_n M dX3_addStep_11 rfl (lv_at hl 0 rfl) ?_
    refine gfX3_11 M B dX3_addStep_12 h (fun a3 h => ?_)
    refine g_aload_n M dX3_addStep_15 rfl (lv_at hl 0 rfl) ?_
    refine gfX3_18 M B dX3_addStep_16 h (fun a4 h => ?_)
    refine g_aald (kd := 14) (t0 := 4) M B ⟨by decide, by decide⟩ rfl dX3_addStep_19 h (fun a5 h => ?_)
    refine g_astore_n (lv' := [(2, va_rf a5), (0, va_rf v0), (1, .int v1)]) M dX3_addStep_20 rfl hl (by decide) (fl_e (fl_k rfl rfl (fl_i rfl fl_0))) (fun ls hl => ?_)
    refine g_aload_n M dX3_addStep_21 rfl (lv_at hl 0 rfl) ?_
    refine lv_iload_n M.1 M.2.1 dX3_addStep_22 rfl (lv_at hl 2 rfl) ?_
    refine g_aload_n M dX3_addStep_23 rfl (lv_at hl 1 rfl) ?_
    refine gfX3_22 M B dX3_addStep_24 h (fun a6 h => ?_)
    obtain ⟨o1, e1, hL1, hK1, h⟩ := h
    refine g_callv (k1 := 0) (k2 := 0) B (g_runV (n := 2) (As := [.int v1, .int a6]) (rm := rmX5_clear) M B e1 (kX5_clear (v0 := a5) (v1 := v1) (v2 := a6) l D cy h _) wmX3_40 wiX5_clear wsX5_clear wnX5 wcdX5_clear ⟨rfl, by decide, by decide, by decide +kernel⟩ ⟨Nat.le_trans (by decide) hRf, Nat.le_trans (by decide) hRl⟩ ⟨Nat.le_trans (by decide) hRc, Nat.le_trans (by decide) hRs⟩ hL1 hK1 (by decide) rfl rfl rfl hl.1 rfl ct_0 (by decide) dX3_addStep_27) (by decide) (by decide) (fun S7 H locs h B => ?_)
    refine g_aload_n M dX3_addStep_30 rfl (lv_at hl 1 rfl) ?_
    refine lv_dup M.1 M.2.1 dX3_addStep_31 (rf_cat _) ?_
    refine gfX3_18 M B dX3_addStep_32 h (fun a8 h => ?_)
    refine lv_iconst (v := 1) M.1 M.2.1 dX3_addStep_35 (by decide) ?_
    refine lv_iadd M.1 M.2.1 dX3_addStep_36 ?_
    refine gpX3_18 M B dX3_addStep_37 h (fun S9 H locs h B => ?_)
    refine lv_iload_n M.1 M.2.1 dX3_addStep_40 rfl (lv_at hl 2 rfl) ?_
    refine lv_if_ne (tgt := 54) M.1 M.2.1 dX3_addStep_41 (by decide) (fun c10 => ?_) (fun c10 => ?_)
    · have h := h.2 c10
      refine g_aload_n M dX3_addStep_54 rfl (lv_at hl 0 rfl) ?_
      exact g_aret M B hr hlk h (by decide) (by decide) dX3_addStep_55
    · have h := h.1 c10
      refine g_aload_n M dX3_addStep_44 rfl (lv_at hl 1 rfl) ?_
      refine lv_dup M.1 M.2.1 dX3_addStep_45 (rf_cat _) ?_
      refine gfX3_22 M B dX3_addStep_46 h (fun a11 h => ?_)
      refine lv_iconst (v := 1) M.1 M.2.1 dX3_addStep_49 (by decide) ?_
      refine lv_iadd M.1 M.2.1 dX3_addStep_50 ?_
      refine gpX3_22 M B dX3_addStep_51 h (fun S12 H locs h B => ?_)
      refine g_aload_n M dX3_addStep_54 rfl (lv_at hl 0 rfl) ?_
      exact g_aret M B hr hlk h (by decide) (by decide) dX3_addStep_55
  · have h := h.2 c2
    refine g_null M dX3_addStep_9 ?_
    exact g_aret M B hr hlk h (by decide) (by decide) dX3_addStep_10
end
set_option maxRecDepth 100000 in
set_option maxHeartbeats 4000000 in
theorem kX3_addStep (l : Launch) (D : va_G) (cy : Nat → ClassId) {post : Option Nat → Pool → Prop} {v0 : Option Nat} {v1 : Int32} {S : Pool} (h : wX3_addStep post v0 v1 S) : MetR l yX3_addStep cX3_addStep 3 (some (FieldType.object "LogHunt$Step")) rmX3_addStep [va_rf v0, .int v1] D cy S post := by
  intro sz
  refine Met.ofW (cc := cX3_addStep) (maxL := 3) (ret := (some (FieldType.object "LogHunt$Step"))) (by decide) rfl ?_
  intro p e s m args below meth c s₁ B0 hml hv
  obtain ⟨rfl, hpp⟩ := hv
  have hts := atoms_spec (ws := .code yX3_addStep cX3_addStep 3 (some (FieldType.object "LogHunt$Step")) :: Gw) B0.pre
  obtain rfl : s.heap.size = sz := hpp.1
  have hl := lv_entry [va_rf v0, .int v1] (n := 3) (by rw [sl_r, sl_i, sl_0]; decide)
  rw [lg_entry_eq]
  rw [la_r, la_i, la_0] at hl
  exact tX3_addStep (l := l) (R := rmX3_addStep) ⟨B0.exec, B0.bytes, hml, findClass_of_methodNamed B0.named, fun w hw => hts w (List.mem_cons_of_mem _ hw)⟩ B0.returns B0.notSynchronized (Nat.le_refl _) (Nat.le_refl _) (Nat.le_refl _) (Nat.le_refl _) _ _ _ h _ _ _ hpp.pb (lv_sub hl [0, 1] rfl)
