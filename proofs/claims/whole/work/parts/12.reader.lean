-- X4_init: LogHunt$Reader.<init>(LLogHunt$Tape;)V
def wX4_init (post : Pool → Prop) (v0 : Option Nat) (v1 : Option Nat) (S : Pool) : Prop := xnn v0 (xpR S v0 4 0 v1 fun S1 => post S1)
def rmX4_init : Room := { frames := 1, cells := 0, slots := 0, locals := 12 }
section
variable {p : Program} {l : Launch} {e : Env} {R : Room} {s : State} {m : MethodId} {args : Array Value} {below : List Frame} {meth : Method} {c : Code} {D : va_G} {cy : Nat → ClassId} {A : Nat → Prop}
set_option maxRecDepth 100000 in
set_option maxHeartbeats 4000000 in
theorem tX4_init {post : Pool → Prop} (M : MC p m c cX4_init 2 s args RX4) (hr : meth.sig.returnType = none) (hlk : meth.locks = false) (hRf : 1 ≤ R.frames) (hRl : 12 ≤ R.locals) (hRc : 0 ≤ R.cells) (hRs : 0 ≤ R.slots) (hin : meth.name = "<init>") : ∀ (v0 : Option Nat) (v1 : Option Nat) (S : Pool), wX4_init post v0 v1 S → ∀ (H : Heap) (locs : List Loc) (ls : Array Slot), PB D cy A s S H locs → lv_has ls 2 [(0, va_rf v0), (1, va_rf v1)] → W p l e R s m args below meth c H locs 0 0 (MQ below (va_Qv post (PQ D cy A) A) args s 0 0 A) (F0 m 0 ls []) := by
  intro v0 v1 S h H locs ls B hl
  unfold wX4_init at h
  refine g_aload_n M dX4_init_0 rfl (lv_at hl 0 rfl) ?_
  obtain ⟨⟨o1, e1⟩, h⟩ := h
  refine g_objInit M e1 wmX4_3 hl.1 dX4_init_1 rfl (Nat.le_trans (by decide) hRf) (Nat.le_trans (by decide) hRl) ?_
  refine g_aload_n M dX4_init_4 rfl (lv_at hl 0 rfl) ?_
  refine g_aload_n M dX4_init_5 rfl (lv_at hl 1 rfl) ?_
  refine gpX4_9 M B hin dX4_init_6 h (fun S1 H locs h B => ?_)
  exact g_vret M B hr hlk h (by decide) (by decide) dX4_init_9
end
set_option maxRecDepth 100000 in
set_option maxHeartbeats 4000000 in
theorem kX4_init (l : Launch) (D : va_G) (cy : Nat → ClassId) {post : Pool → Prop} {v0 : Option Nat} {v1 : Option Nat} {S : Pool} (h : wX4_init post v0 v1 S) : MetV l yX4_init cX4_init 2 rmX4_init [va_rf v0, va_rf v1] D cy S post := by
  intro sz
  refine Met.ofW (cc := cX4_init) (maxL := 2) (ret := none) (by decide) rfl ?_
  intro p e s m args below meth c s₁ B0 hml hv
  obtain ⟨rfl, hpp⟩ := hv
  have hts := atoms_spec (ws := .code yX4_init cX4_init 2 none :: Gw) B0.pre
  obtain rfl : s.heap.size = sz := hpp.1
  have hl := lv_entry [va_rf v0, va_rf v1] (n := 2) (by rw [sl_r, sl_r, sl_0]; decide)
  rw [lg_entry_eq]
  rw [la_r, la_r, la_0] at hl
  exact tX4_init (l := l) (R := rmX4_init) ⟨B0.exec, B0.bytes, hml, findClass_of_methodNamed B0.named, fun w hw => hts w (List.mem_cons_of_mem _ hw)⟩ B0.returns B0.notSynchronized (Nat.le_refl _) (Nat.le_refl _) (Nat.le_refl _) (Nat.le_refl _) (name_of_methodNamed B0.named B0.method).1 _ _ _ h _ _ _ hpp.pb (lv_sub hl [0, 1] rfl)
-- X4_sortAt: LogHunt$Reader.sortAt(I)I
def wX4_sortAt_55 (post : Int32 → Pool → Prop) (v2 : Int32) (S : Pool) : Prop := br (v2 = 59) (post 3 S) (post 4 S)
def wX4_sortAt_41 (post : Int32 → Pool → Prop) (v2 : Int32) (S : Pool) : Prop := br (v2 < 48) (wX4_sortAt_55 post v2 S) (br (57 < v2) (wX4_sortAt_55 post v2 S) (post 2 S))
def wX4_sortAt (post : Int32 → Pool → Prop) (v0 : Option Nat) (v1 : Int32) (S : Pool) : Prop := br (v1 < 0) (post 0 S) (xR S v0 4 0 fun a2 => xI S a2 7 1 fun a3 => br (v1 < a3) (xR S v0 4 0 fun a5 => xR S a5 7 0 fun a6 => xaI S a6 10 v1 fun a7 => br (a7 < 97) (wX4_sortAt_41 post a7 S) (br (122 < a7) (wX4_sortAt_41 post a7 S) (post 1 S))) (post 0 S))
def rmX4_sortAt : Room := { frames := 0, cells := 0, slots := 0, locals := 0 }
section
variable {p : Program} {l : Launch} {e : Env} {R : Room} {s : State} {m : MethodId} {args : Array Value} {below : List Frame} {meth : Method} {c : Code} {D : va_G} {cy : Nat → ClassId} {A : Nat → Prop}
set_option maxRecDepth 100000 in
set_option maxHeartbeats 4000000 in
theorem tX4_sortAt_55 {post : Int32 → Pool → Prop} (M : MC p m c cX4_sortAt 3 s args RX4) (hr : meth.sig.returnType = (some FieldType.int)) (hlk : meth.locks = false) (hRf : 0 ≤ R.frames) (hRl : 0 ≤ R.locals) (hRc : 0 ≤ R.cells) (hRs : 0 ≤ R.slots) : ∀ (v2 : Int32) (S : Pool), wX4_sortAt_55 post v2 S → ∀ (H : Heap) (locs : List Loc) (ls : Array Slot), PB D cy A s S H locs → lv_has ls 3 [(2, .int v2)] → W p l e R s m args below meth c H locs 0 0 (MQ below (va_Qi post (PQ D cy A) A) args s 0 0 A) (F0 m 55 ls []) := by
  intro v2 S h H locs ls B hl
  unfold wX4_sortAt_55 at h
  refine lv_iload_n M.1 M.2.1 dX4_sortAt_55 rfl (lv_at hl 0 rfl) ?_
  refine lv_bipush (v := 59) M.1 M.2.1 dX4_sortAt_56 (by decide) ?_
  refine lv_icmp_ne (tgt := 65) M.1 M.2.1 dX4_sortAt_58 (by decide) (fun c1 => ?_) (fun c1 => ?_)
  · have h := h.2 c1
    refine lv_iconst (v := 4) M.1 M.2.1 dX4_sortAt_65 (by decide) ?_
    exact g_iret M B hr hlk h (by decide) (by decide) dX4_sortAt_66
  · have h := h.1 c1
    refine lv_iconst (v := 3) M.1 M.2.1 dX4_sortAt_61 (by decide) ?_
    refine lv_goto (tgt := 66) M.1 M.2.1 dX4_sortAt_62 (by decide) ?_
    exact g_iret M B hr hlk h (by decide) (by decide) dX4_sortAt_66
set_option maxRecDepth 100000 in
set_option maxHeartbeats 4000000 in
theorem tX4_sortAt_41 {post : Int32 → Pool → Prop} (M : MC p m c cX4_sortAt 3 s args RX4) (hr : meth.sig.returnType = (some FieldType.int)) (hlk : meth.locks = false) (hRf : 0 ≤ R.frames) (hRl : 0 ≤ R.locals) (hRc : 0 ≤ R.cells) (hRs : 0 ≤ R.slots) : ∀ (v2 : Int32) (S : Pool), wX4_sortAt_41 post v2 S → ∀ (H : Heap) (locs : List Loc) (ls : Array Slot), PB D cy A s S H locs → lv_has ls 3 [(2, .int v2)] → W p l e R s m args below meth c H locs 0 0 (MQ below (va_Qi post (PQ D cy A) A) args s 0 0 A) (F0 m 41 ls []) := by
  intro v2 S h H locs ls B hl
  unfold wX4_sortAt_41 at h
  refine lv_iload_n M.1 M.2.1 dX4_sortAt_41 rfl (lv_at hl 0 rfl) ?_
  refine lv_bipush (v := 48) M.1 M.2.1 dX4_sortAt_42 (by decide) ?_
  refine lv_icmp_lt (tgt := 55) M.1 M.2.1 dX4_sortAt_44 (by decide) (fun c1 => ?_) (fun c1 => ?_)
  · have h := h.1 c1
    exact tX4_sortAt_55 M hr hlk hRf hRl hRc hRs _ _ h _ _ _ B (lv_sub hl [0] rfl)
  · have h := h.2 c1
    refine lv_iload_n M.1 M.2.1 dX4_sortAt_47 rfl (lv_at hl 0 rfl) ?_
    refine lv_bipush (v := 57) M.1 M.2.1 dX4_sortAt_48 (by decide) ?_
    refine lv_icmp_gt (tgt := 55) M.1 M.2.1 dX4_sortAt_50 (by decide) (fun c2 => ?_) (fun c2 => ?_)
    · have h := h.1 c2
      exact tX4_sortAt_55 M hr hlk hRf hRl hRc hRs _ _ h _ _ _ B (lv_sub hl [0] rfl)
    · have h := h.2 c2
      refine lv_iconst (v := 2) M.1 M.2.1 dX4_sortAt_53 (by decide) ?_
      exact g_iret M B hr hlk h (by decide) (by decide) dX4_sortAt_54
set_option maxRecDepth 100000 in
set_option maxHeartbeats 4000000 in
theorem tX4_sortAt {post : Int32 → Pool → Prop} (M : MC p m c cX4_sortAt 3 s args RX4) (hr : meth.sig.returnType = (some FieldType.int)) (hlk : meth.locks = false) (hRf : 0 ≤ R.frames) (hRl : 0 ≤ R.locals) (hRc : 0 ≤ R.cells) (hRs : 0 ≤ R.slots) : ∀ (v0 : Option Nat) (v1 : Int32) (S : Pool), wX4_sortAt post v0 v1 S → ∀ (H : Heap) (locs : List Loc) (ls : Array Slot), PB D cy A s S H locs → lv_has ls 3 [(0, va_rf v0), (1, .int v1)] → W p l e R s m args below meth c H locs 0 0 (MQ below (va_Qi post (PQ D cy A) A) args s 0 0 A) (F0 m 0 ls []) := by
  intro v0 v1 S h H locs ls B hl
  unfold wX4_sortAt at h
  refine lv_iload_n M.1 M.2.1 dX4_sortAt_0 rfl (lv_at hl 1 rfl) ?_
  refine lv_if_lt (tgt := 15) M.1 M.2.1 dX4_sortAt_1 (by decide) (fun c1 => ?_) (fun c1 => ?_)
  · have h := h.1 c1
    refine lv_iconst (v := 0) M.1 M.2.1 dX4_sortAt_15 (by decide) ?_
    exact g_iret M B hr hlk h (by decide) (by decide) dX4_sortAt_16
  · have h := h.2 c1
    refine lv_iload_n M.1 M.2.1 dX4_sortAt_4 rfl (lv_at hl 1 rfl) ?_
    refine g_aload_n M dX4_sortAt_5 rfl (lv_at hl 0 rfl) ?_
    refine gfX4_9 M B dX4_sortAt_6 h (fun a2 h => ?_)
    refine gfX4_127 M B dX4_sortAt_9 h (fun a3 h => ?_)
    refine lv_icmp_lt (tgt := 17) M.1 M.2.1 dX4_sortAt_12 (by decide) (fun c4 => ?_) (fun c4 => ?_)
    · have h := h.1 c4
      refine g_aload_n M dX4_sortAt_17 rfl (lv_at hl 0 rfl) ?_
      refine gfX4_9 M B dX4_sortAt_18 h (fun a5 h => ?_)
      refine gfX4_132 M B dX4_sortAt_21 h (fun a6 h => ?_)
      refine lv_iload_n M.1 M.2.1 dX4_sortAt_24 rfl (lv_at hl 1 rfl) ?_
      refine g_iald M B dX4_sortAt_25 h (fun a7 h => ?_)
      refine lv_istore_n (lv' := [(2, .int a7), (0, va_rf v0), (1, .int v1)]) M.1 M.2.1 dX4_sortAt_26 rfl hl (by decide) (fl_e (fl_k rfl rfl (fl_i rfl fl_0))) (fun ls hl => ?_)
      refine lv_iload_n M.1 M.2.1 dX4_sortAt_27 rfl (lv_at hl 0 rfl) ?_
      refine lv_bipush (v := 97) M.1 M.2.1 dX4_sortAt_28 (by decide) ?_
      refine lv_icmp_lt (tgt := 41) M.1 M.2.1 dX4_sortAt_30 (by decide) (fun c8 => ?_) (fun c8 => ?_)
      · have h := h.1 c8
        exact tX4_sortAt_41 M hr hlk hRf hRl hRc hRs _ _ h _ _ _ B (lv_sub hl [0] rfl)
      · have h := h.2 c8
        refine lv_iload_n M.1 M.2.1 dX4_sortAt_33 rfl (lv_at hl 0 rfl) ?_
        refine lv_bipush (v := 122) M.1 M.2.1 dX4_sortAt_34 (by decide) ?_
        refine lv_icmp_gt (tgt := 41) M.1 M.2.1 dX4_sortAt_36 (by decide) (fun c9 => ?_) (fun c9 => ?_)
        · have h := h.1 c9
          exact tX4_sortAt_41 M hr hlk hRf hRl hRc hRs _ _ h _ _ _ B (lv_sub hl [0] rfl)
        · have h := h.2 c9
          refine lv_iconst (v := 1) M.1 M.2.1 dX4_sortAt_39 (by decide) ?_
          exact g_iret M B hr hlk h (by decide) (by decide) dX4_sortAt_40
    · have h := h.2 c4
      refine lv_iconst (v := 0) M.1 M.2.1 dX4_sortAt_15 (by decide) ?_
      exact g_iret M B hr hlk h (by decide) (by decide) dX4_sortAt_16
end
set_option maxRecDepth 100000 in
set_option maxHeartbeats 4000000 in
theorem kX4_sortAt (l : Launch) (D : va_G) (cy : Nat → ClassId) {post : Int32 → Pool → Prop} {v0 : Option Nat} {v1 : Int32} {S : Pool} (h : wX4_sortAt post v0 v1 S) : MetI l yX4_sortAt cX4_sortAt 3 (some FieldType.int) rmX4_sortAt [va_rf v0, .int v1] D cy S post := by
  intro sz
  refine Met.ofW (cc := cX4_sortAt) (maxL := 3) (ret := (some FieldType.int)) (by decide) rfl ?_
  intro p e s m args below meth c s₁ B0 hml hv
  obtain ⟨rfl, hpp⟩ := hv
  have hts := atoms_spec (ws := .code yX4_sortAt cX4_sortAt 3 (some FieldType.int) :: Gw) B0.pre
  obtain rfl : s.heap.size = sz := hpp.1
  have hl := lv_entry [va_rf v0, .int v1] (n := 3) (by rw [sl_r, sl_i, sl_0]; decide)
  rw [lg_entry_eq]
  rw [la_r, la_i, la_0] at hl
  exact tX4_sortAt (l := l) (R := rmX4_sortAt) ⟨B0.exec, B0.bytes, hml, findClass_of_methodNamed B0.named, fun w hw => hts w (List.mem_cons_of_mem _ hw)⟩ B0.returns B0.notSynchronized (Nat.le_refl _) (Nat.le_refl _) (Nat.le_refl _) (Nat.le_refl _) _ _ _ h _ _ _ hpp.pb (lv_sub hl [0, 1] rfl)
-- X4_advance: LogHunt$Reader.advance()V
def wX4_advance_108 (post : Pool → Prop) (v0 : Option Nat) (v1 : Int32) (S : Pool) : Prop := xR S v0 4 0 fun a1 => xI S a1 7 1 fun a2 => xpI S v0 4 3 (if a2 < v1 then a2 else v1) fun S3 => post S3
def wX4_advance_75 (post : Pool → Prop) : Nat → Option Nat → Int32 → Int32 → Pool → Prop
  | 0 => fun _ _ _ _ => False
  | n + 1 => fun v0 v1 v2 S => br (v2 = 0) (wX4_advance_108 post v0 v1 S) (xR S v0 4 0 fun a2 => xI S a2 7 1 fun a3 => br (a3 ≤ v1) (wX4_advance_108 post v0 v1 S) (xrc S v0 4 (wX4_sortAt (fun a6 S5 => xI S5 v0 4 1 fun a7 => br (a6 = a7) (wX4_advance_75 post n v0 (v1 + 1) v2 S5) (wX4_advance_108 post v0 v1 S5)) v0 v1 S)))
def wX4_advance_71 (post : Pool → Prop) (v0 : Option Nat) (v1 : Int32) (z0 : Int32) (S : Pool) : Prop := ∃ n1, wX4_advance_75 post n1 v0 (v1 + 1) z0 S
def wX4_advance_66 (post : Pool → Prop) (v0 : Option Nat) (v1 : Int32) (S : Pool) : Prop := wX4_advance_71 post v0 v1 1 S
def wX4_advance_36 (post : Pool → Prop) (v0 : Option Nat) (v1 : Int32) (S : Pool) : Prop := xpI S v0 4 2 v1 fun S1 => xrc S1 v0 4 (wX4_sortAt (fun a3 S2 => xpI S2 v0 4 1 a3 fun S4 => xI S4 v0 4 1 fun a5 => br (a5 = 1) (wX4_advance_66 post v0 v1 S4) (xI S4 v0 4 1 fun a7 => br (a7 = 2) (wX4_advance_66 post v0 v1 S4) (wX4_advance_71 post v0 v1 0 S4))) v0 v1 S1)
def wX4_advance_5 (post : Pool → Prop) : Nat → Option Nat → Int32 → Pool → Prop
  | 0 => fun _ _ _ => False
  | n + 1 => fun v0 v1 S => xR S v0 4 0 fun a1 => xI S a1 7 1 fun a2 => br (a2 ≤ v1) (wX4_advance_36 post v0 v1 S) (xR S v0 4 0 fun a4 => xR S a4 7 0 fun a5 => xaI S a5 10 v1 fun a6 => br (a6 = 32) (wX4_advance_5 post n v0 (v1 + 1) S) (wX4_advance_36 post v0 v1 S))
def wX4_advance (post : Pool → Prop) (v0 : Option Nat) (S : Pool) : Prop := xI S v0 4 3 fun a1 => ∃ n1, wX4_advance_5 post n1 v0 a1 S
def rmX4_advance : Room := { frames := 1, cells := 0, slots := 0, locals := 22 }
section
variable {p : Program} {l : Launch} {e : Env} {R : Room} {s : State} {m : MethodId} {args : Array Value} {below : List Frame} {meth : Method} {c : Code} {D : va_G} {cy : Nat → ClassId} {A : Nat → Prop}
set_option maxRecDepth 100000 in
set_option maxHeartbeats 4000000 in
theorem tX4_advance_108 {post : Pool → Prop} (M : MC p m c cX4_advance 3 s args RX4) (hr : meth.sig.returnType = none) (hlk : meth.locks = false) (hRf : 1 ≤ R.frames) (hRl : 22 ≤ R.locals) (hRc : 0 ≤ R.cells) (hRs : 0 ≤ R.slots) : ∀ (v0 : Option Nat) (v1 : Int32) (S : Pool), wX4_advance_108 post v0 v1 S → ∀ (H : Heap) (locs : List Loc) (ls : Array Slot), PB D cy A s S H locs → lv_has ls 3 [(0, va_rf v0), (1, .int v1)] → W p l e R s m args below meth c H locs 0 0 (MQ below (va_Qv post (PQ D cy A) A) args s 0 0 A) (F0 m 108 ls []) := by
  intro v0 v1 S h H locs ls B hl
  unfold wX4_advance_108 at h
  refine g_aload_n M dX4_advance_108 rfl (lv_at hl 0 rfl) ?_
  refine lv_iload_n M.1 M.2.1 dX4_advance_109 rfl (lv_at hl 1 rfl) ?_
  refine g_aload_n M dX4_advance_110 rfl (lv_at hl 0 rfl) ?_
  refine gfX4_9 M B dX4_advance_111 h (fun a1 h => ?_)
  refine gfX4_127 M B dX4_advance_114 h (fun a2 h => ?_)
  refine g_min M wmX4_148 hl.1 (Nat.le_trans (by decide) hRf) (Nat.le_trans (by decide) hRl) (Nat.le_trans (by decide) hRc) (Nat.le_trans (by decide) hRs) (ct_r ct_0) (by decide) dX4_advance_117 ?_
  refine gpX4_58 M B dX4_advance_120 h (fun S3 H locs h B => ?_)
  exact g_vret M B hr hlk h (by decide) (by decide) dX4_advance_123
set_option maxRecDepth 100000 in
set_option maxHeartbeats 4000000 in
theorem tX4_advance_75 {post : Pool → Prop} (M : MC p m c cX4_advance 3 s args RX4) (hr : meth.sig.returnType = none) (hlk : meth.locks = false) (hRf : 1 ≤ R.frames) (hRl : 22 ≤ R.locals) (hRc : 0 ≤ R.cells) (hRs : 0 ≤ R.slots) : ∀ (n : Nat) (v0 : Option Nat) (v1 : Int32) (v2 : Int32) (S : Pool), wX4_advance_75 post n v0 v1 v2 S → ∀ (H : Heap) (locs : List Loc) (ls : Array Slot), PB D cy A s S H locs → lv_has ls 3 [(0, va_rf v0), (1, .int v1), (2, .int v2)] → W p l e R s m args below meth c H locs 0 0 (MQ below (va_Qv post (PQ D cy A) A) args s 0 0 A) (F0 m 75 ls []) := by
  intro n
  induction n with
  | zero => intro v0 v1 v2 S h; exact False.elim h
  | succ n ih =>
    intro v0 v1 v2 S h H locs ls B hl
    unfold wX4_advance_75 at h
    refine lv_iload_n M.1 M.2.1 dX4_advance_75 rfl (lv_at hl 2 rfl) ?_
    refine lv_if_eq (tgt := 108) M.1 M.2.1 dX4_advance_76 (by decide) (fun c1 => ?_) (fun c1 => ?_)
    · have h := h.1 c1
      exact tX4_advance_108 M hr hlk hRf hRl hRc hRs _ _ _ h _ _ _ B (lv_sub hl [0, 1] rfl)
    · have h := h.2 c1
      refine lv_iload_n M.1 M.2.1 dX4_advance_79 rfl (lv_at hl 1 rfl) ?_
      refine g_aload_n M dX4_advance_80 rfl (lv_at hl 0 rfl) ?_
      refine gfX4_9 M B dX4_advance_81 h (fun a2 h => ?_)
      refine gfX4_127 M B dX4_advance_84 h (fun a3 h => ?_)
      refine lv_icmp_ge (tgt := 108) M.1 M.2.1 dX4_advance_87 (by decide) (fun c4 => ?_) (fun c4 => ?_)
      · have h := h.1 c4
        exact tX4_advance_108 M hr hlk hRf hRl hRc hRs _ _ _ h _ _ _ B (lv_sub hl [0, 1] rfl)
      · have h := h.2 c4
        refine g_aload_n M dX4_advance_90 rfl (lv_at hl 0 rfl) ?_
        refine lv_iload_n M.1 M.2.1 dX4_advance_91 rfl (lv_at hl 1 rfl) ?_
        obtain ⟨o1, e1, hL1, hK1, h⟩ := h
        refine g_calli (k1 := 0) (k2 := 0) B (g_runV (n := 1) (As := [.int v1]) (rm := rmX4_sortAt) M B e1 (kX4_sortAt (v0 := v0) (v1 := v1) l D cy h _) wmX4_144 wiX4_sortAt wsX4_sortAt wnX4 wcdX4_sortAt ⟨rfl, by decide, by decide, by decide +kernel⟩ ⟨Nat.le_trans (by decide) hRf, Nat.le_trans (by decide) hRl⟩ ⟨Nat.le_trans (by decide) hRc, Nat.le_trans (by decide) hRs⟩ hL1 hK1 (by decide) rfl rfl rfl hl.1 rfl ct_0 (by decide) dX4_advance_92) (by decide) (by decide) (fun a6 S5 H locs h B => ?_)
        refine g_aload_n M dX4_advance_95 rfl (lv_at hl 0 rfl) ?_
        refine gfX4_19 M B dX4_advance_96 h (fun a7 h => ?_)
        refine lv_icmp_ne (tgt := 108) M.1 M.2.1 dX4_advance_99 (by decide) (fun c8 => ?_) (fun c8 => ?_)
        · have h := h.2 c8
          exact tX4_advance_108 M hr hlk hRf hRl hRc hRs _ _ _ h _ _ _ B (lv_sub hl [0, 1] rfl)
        · have h := h.1 c8
          refine lv_iinc (v := v1 + 1) (lv' := [(1, .int (v1 + 1)), (0, va_rf v0), (2, .int v2)]) M.1 M.2.1 dX4_advance_102 hl (k := 1) rfl (by rfl) (by decide) (fl_e (fl_r rfl (fl_d rfl (fl_k rfl rfl fl_0)))) (fun ls hl => ?_)
          refine lv_goto (tgt := 75) M.1 M.2.1 dX4_advance_105 (by decide) ?_
          exact ih _ _ _ _ h _ _ _ B (lv_sub hl [1, 0, 2] rfl)
set_option maxRecDepth 100000 in
set_option maxHeartbeats 4000000 in
theorem tX4_advance_71 {post : Pool → Prop} (M : MC p m c cX4_advance 3 s args RX4) (hr : meth.sig.returnType = none) (hlk : meth.locks = false) (hRf : 1 ≤ R.frames) (hRl : 22 ≤ R.locals) (hRc : 0 ≤ R.cells) (hRs : 0 ≤ R.slots) : ∀ (v0 : Option Nat) (v1 : Int32) (z0 : Int32) (S : Pool), wX4_advance_71 post v0 v1 z0 S → ∀ (H : Heap) (locs : List Loc) (ls : Array Slot), PB D cy A s S H locs → lv_has ls 3 [(0, va_rf v0), (1, .int v1)] → W p l e R s m args below meth c H locs 0 0 (MQ below (va_Qv post (PQ D cy A) A) args s 0 0 A) (F0 m 71 ls [.int z0]) := by
  intro v0 v1 z0 S h H locs ls B hl
  unfold wX4_advance_71 at h
  refine lv_istore_n (lv' := [(2, .int z0), (0, va_rf v0), (1, .int v1)]) M.1 M.2.1 dX4_advance_71 rfl hl (by decide) (fl_e (fl_k rfl rfl (fl_i rfl fl_0))) (fun ls hl => ?_)
  refine lv_iinc (v := v1 + 1) (lv' := [(1, .int (v1 + 1)), (2, .int z0), (0, va_rf v0)]) M.1 M.2.1 dX4_advance_72 hl (k := 2) rfl (by rfl) (by decide) (fl_e (fl_k rfl rfl (fl_r rfl (fl_d rfl fl_0)))) (fun ls hl => ?_)
  obtain ⟨n1, h⟩ := h
  exact tX4_advance_75 M hr hlk hRf hRl hRc hRs n1 _ _ _ _ h _ _ _ B (lv_sub hl [2, 0, 1] rfl)
set_option maxRecDepth 100000 in
set_option maxHeartbeats 4000000 in
theorem tX4_advance_66 {post : Pool → Prop} (M : MC p m c cX4_advance 3 s args RX4) (hr : meth.sig.returnType = none) (hlk : meth.locks = false) (hRf : 1 ≤ R.frames) (hRl : 22 ≤ R.locals) (hRc : 0 ≤ R.cells) (hRs : 0 ≤ R.slots) : ∀ (v0 : Option Nat) (v1 : Int32) (S : Pool), wX4_advance_66 post v0 v1 S → ∀ (H : Heap) (locs : List Loc) (ls : Array Slot), PB D cy A s S H locs → lv_has ls 3 [(0, va_rf v0), (1, .int v1)] → W p l e R s m args below meth c H locs 0 0 (MQ below (va_Qv post (PQ D cy A) A) args s 0 0 A) (F0 m 66 ls []) := by
  intro v0 v1 S h H locs ls B hl
  unfold wX4_advance_66 at h
  refine lv_iconst (v := 1) M.1 M.2.1 dX4_advance_66 (by decide) ?_
  refine lv_goto (tgt := 71) M.1 M.2.1 dX4_advance_67 (by decide) ?_
  exact tX4_advance_71 M hr hlk hRf hRl hRc hRs _ _ _ _ h _ _ _ B (lv_sub hl [0, 1] rfl)
set_option maxRecDepth 100000 in
set_option maxHeartbeats 4000000 in
theorem tX4_advance_36 {post : Pool → Prop} (M : MC p m c cX4_advance 3 s args RX4) (hr : meth.sig.returnType = none) (hlk : meth.locks = false) (hRf : 1 ≤ R.frames) (hRl : 22 ≤ R.locals) (hRc : 0 ≤ R.cells) (hRs : 0 ≤ R.slots) : ∀ (v0 : Option Nat) (v1 : Int32) (S : Pool), wX4_advance_36 post v0 v1 S → ∀ (H : Heap) (locs : List Loc) (ls : Array Slot), PB D cy A s S H locs → lv_has ls 3 [(0, va_rf v0), (1, .int v1)] → W p l e R s m args below meth c H locs 0 0 (MQ below (va_Qv post (PQ D cy A) A) args s 0 0 A) (F0 m 36 ls []) := by
  intro v0 v1 S h H locs ls B hl
  unfold wX4_advance_36 at h
  refine g_aload_n M dX4_advance_36 rfl (lv_at hl 0 rfl) ?_
  refine lv_iload_n M.1 M.2.1 dX4_advance_37 rfl (lv_at hl 1 rfl) ?_
  refine gpX4_27 M B dX4_advance_38 h (fun S1 H locs h B => ?_)
  refine g_aload_n M dX4_advance_41 rfl (lv_at hl 0 rfl) ?_
  refine g_aload_n M dX4_advance_42 rfl (lv_at hl 0 rfl) ?_
  refine lv_iload_n M.1 M.2.1 dX4_advance_43 rfl (lv_at hl 1 rfl) ?_
  obtain ⟨o1, e1, hL1, hK1, h⟩ := h
  refine g_calli (k1 := 0) (k2 := 0) B (g_runV (n := 1) (As := [.int v1]) (rm := rmX4_sortAt) M B e1 (kX4_sortAt (v0 := v0) (v1 := v1) l D cy h _) wmX4_144 wiX4_sortAt wsX4_sortAt wnX4 wcdX4_sortAt ⟨rfl, by decide, by decide, by decide +kernel⟩ ⟨Nat.le_trans (by decide) hRf, Nat.le_trans (by decide) hRl⟩ ⟨Nat.le_trans (by decide) hRc, Nat.le_trans (by decide) hRs⟩ hL1 hK1 (by decide) rfl rfl rfl hl.1 rfl (ct_r ct_0) (by decide) dX4_advance_44) (by decide) (by decide) (fun a3 S2 H locs h B => ?_)
  refine gpX4_19 M B dX4_advance_47 h (fun S4 H locs h B => ?_)
  refine g_aload_n M dX4_advance_50 rfl (lv_at hl 0 rfl) ?_
  refine gfX4_19 M B dX4_advance_51 h (fun a5 h => ?_)
  refine lv_iconst (v := 1) M.1 M.2.1 dX4_advance_54 (by decide) ?_
  refine lv_icmp_eq (tgt := 66) M.1 M.2.1 dX4_advance_55 (by decide) (fun c6 => ?_) (fun c6 => ?_)
  · have h := h.1 c6
    exact tX4_advance_66 M hr hlk hRf hRl hRc hRs _ _ _ h _ _ _ B (lv_sub hl [0, 1] rfl)
  · have h := h.2 c6
    refine g_aload_n M dX4_advance_58 rfl (lv_at hl 0 rfl) ?_
    refine gfX4_19 M B dX4_advance_59 h (fun a7 h => ?_)
    refine lv_iconst (v := 2) M.1 M.2.1 dX4_advance_62 (by decide) ?_
    refine lv_icmp_ne (tgt := 70) M.1 M.2.1 dX4_advance_63 (by decide) (fun c8 => ?_) (fun c8 => ?_)
    · have h := h.2 c8
      refine lv_iconst (v := 0) M.1 M.2.1 dX4_advance_70 (by decide) ?_
      exact tX4_advance_71 M hr hlk hRf hRl hRc hRs _ _ _ _ h _ _ _ B (lv_sub hl [0, 1] rfl)
    · have h := h.1 c8
      exact tX4_advance_66 M hr hlk hRf hRl hRc hRs _ _ _ h _ _ _ B (lv_sub hl [0, 1] rfl)
set_option maxRecDepth 100000 in
set_option maxHeartbeats 4000000 in
theorem tX4_advance_5 {post : Pool → Prop} (M : MC p m c cX4_advance 3 s args RX4) (hr : meth.sig.returnType = none) (hlk : meth.locks = false) (hRf : 1 ≤ R.frames) (hRl : 22 ≤ R.locals) (hRc : 0 ≤ R.cells) (hRs : 0 ≤ R.slots) : ∀ (n : Nat) (v0 : Option Nat) (v1 : Int32) (S : Pool), wX4_advance_5 post n v0 v1 S → ∀ (H : Heap) (locs : List Loc) (ls : Array Slot), PB D cy A s S H locs → lv_has ls 3 [(0, va_rf v0), (1, .int v1)] → W p l e R s m args below meth c H locs 0 0 (MQ below (va_Qv post (PQ D cy A) A) args s 0 0 A) (F0 m 5 ls []) := by
  intro n
  induction n with
  | zero => intro v0 v1 S h; exact False.elim h
  | succ n ih =>
    intro v0 v1 S h H locs ls B hl
    unfold wX4_advance_5 at h
    refine lv_iload_n M.1 M.2.1 dX4_advance_5 rfl (lv_at hl 1 rfl) ?_
    refine g_aload_n M dX4_advance_6 rfl (lv_at hl 0 rfl) ?_
    refine gfX4_9 M B dX4_advance_7 h (fun a1 h => ?_)
    refine gfX4_127 M B dX4_advance_10 h (fun a2 h => ?_)
    refine lv_icmp_ge (tgt := 36) M.1 M.2.1 dX4_advance_13 (by decide) (fun c3 => ?_) (fun c3 => ?_)
    · have h := h.1 c3
      exact tX4_advance_36 M hr hlk hRf hRl hRc hRs _ _ _ h _ _ _ B (lv_sub hl [0, 1] rfl)
    · have h := h.2 c3
      refine g_aload_n M dX4_advance_16 rfl (lv_at hl 0 rfl) ?_
      refine gfX4_9 M B dX4_advance_17 h (fun a4 h => ?_)
      refine gfX4_132 M B dX4_advance_20 h (fun a5 h => ?_)
      refine lv_iload_n M.1 M.2.1 dX4_advance_23 rfl (lv_at hl 1 rfl) ?_
      refine g_iald M B dX4_advance_24 h (fun a6 h => ?_)
      refine lv_bipush (v := 32) M.1 M.2.1 dX4_advance_25 (by decide) ?_
      refine lv_icmp_ne (tgt := 36) M.1 M.2.1 dX4_advance_27 (by decide) (fun c7 => ?_) (fun c7 => ?_)
      · have h := h.2 c7
        exact tX4_advance_36 M hr hlk hRf hRl hRc hRs _ _ _ h _ _ _ B (lv_sub hl [0, 1] rfl)
      · have h := h.1 c7
        refine lv_iinc (v := v1 + 1) (lv' := [(1, .int (v1 + 1)), (0, va_rf v0)]) M.1 M.2.1 dX4_advance_30 hl (k := 1) rfl (by rfl) (by decide) (fl_e (fl_r rfl (fl_d rfl fl_0))) (fun ls hl => ?_)
        refine lv_goto (tgt := 5) M.1 M.2.1 dX4_advance_33 (by decide) ?_
        exact ih _ _ _ h _ _ _ B (lv_sub hl [1, 0] rfl)
set_option maxRecDepth 100000 in
set_option maxHeartbeats 4000000 in
theorem tX4_advance {post : Pool → Prop} (M : MC p m c cX4_advance 3 s args RX4) (hr : meth.sig.returnType = none) (hlk : meth.locks = false) (hRf : 1 ≤ R.frames) (hRl : 22 ≤ R.locals) (hRc : 0 ≤ R.cells) (hRs : 0 ≤ R.slots) : ∀ (v0 : Option Nat) (S : Pool), wX4_advance post v0 S → ∀ (H : Heap) (locs : List Loc) (ls : Array Slot), PB D cy A s S H locs → lv_has ls 3 [(0, va_rf v0)] → W p l e R s m args below meth c H locs 0 0 (MQ below (va_Qv post (PQ D cy A) A) args s 0 0 A) (F0 m 0 ls []) := by
  intro v0 S h H locs ls B hl
  unfold wX4_advance at h
  refine g_aload_n M dX4_advance_0 rfl (lv_at hl 0 rfl) ?_
  refine gfX4_58 M B dX4_advance_1 h (fun a1 h => ?_)
  refine lv_istore_n (lv' := [(1, .int a1), (0, va_rf v0)]) M.1 M.2.1 dX4_advance_4 rfl hl (by decide) (fl_e (fl_r rfl fl_0)) (fun ls hl => ?_)
  obtain ⟨n1, h⟩ := h
  exact tX4_advance_5 M hr hlk hRf hRl hRc hRs n1 _ _ _ h _ _ _ B (lv_sub hl [1, 0] rfl)
end
set_option maxRecDepth 100000 in
set_option maxHeartbeats 4000000 in
theorem kX4_advance (l : Launch) (D : va_G) (cy : Nat → ClassId) {post : Pool → Prop} {v0 : Option Nat} {S : Pool} (h : wX4_advance post v0 S) : MetV l yX4_advance cX4_advance 3 rmX4_advance [va_rf v0] D cy S post := by
  intro sz
  refine Met.ofW (cc := cX4_advance) (maxL := 3) (ret := none) (by decide) rfl ?_
  intro p e s m args below meth c s₁ B0 hml hv
  obtain ⟨rfl, hpp⟩ := hv
  have hts := atoms_spec (ws := .code yX4_advance cX4_advance 3 none :: Gw) B0.pre
  obtain rfl : s.heap.size = sz := hpp.1
  have hl := lv_entry [va_rf v0] (n := 3) (by rw [sl_r, sl_0]; decide)
  rw [lg_entry_eq]
  rw [la_r, la_0] at hl
  exact tX4_advance (l := l) (R := rmX4_advance) ⟨B0.exec, B0.bytes, hml, findClass_of_methodNamed B0.named, fun w hw => hts w (List.mem_cons_of_mem _ hw)⟩ B0.returns B0.notSynchronized (Nat.le_refl _) (Nat.le_refl _) (Nat.le_refl _) (Nat.le_refl _) _ _ h _ _ _ hpp.pb (lv_sub hl [0] rfl)
-- X4_isAt: LogHunt$Reader.isAt(Ljava/lang/String;)Z
def wX4_isAt_30 (post : Int32 → Pool → Prop) : Nat → Option Nat → Nat → Int32 → Int32 → Pool → Prop
  | 0 => fun _ _ _ _ _ => False
  | n + 1 => fun v0 v1 v2 v3 S => br (v2 ≤ v3) (((1 : Int32) = 0 ∨ (1 : Int32) = 1) ∧ post (1 : Int32) S) (xI S v0 4 2 fun a2 => xR S v0 4 0 fun a3 => xI S a3 7 1 fun a4 => br (a4 ≤ (a2 + v3)) (((1 : Int32) = 0 ∨ (1 : Int32) = 1) ∧ post (1 : Int32) S) (xR S v0 4 0 fun a6 => xR S a6 7 0 fun a7 => xI S v0 4 2 fun a8 => xaI S a7 10 (a8 + v3) fun a9 => xsc v1 v3 fun a10 => br (a9 = a10) (wX4_isAt_30 post n v0 v1 v2 (v3 + 1) S) (((0 : Int32) = 0 ∨ (0 : Int32) = 1) ∧ post (0 : Int32) S)))
def wX4_isAt (post : Int32 → Pool → Prop) (v0 : Option Nat) (v1 : Nat) (S : Pool) : Prop := xsl v1 fun a1 => xI S v0 4 1 fun a2 => br (a2 = 1) (xI S v0 4 3 fun a4 => xI S v0 4 2 fun a5 => br ((a4 - a5) = a1) (∃ n1, wX4_isAt_30 post n1 v0 v1 a1 0 S) (((0 : Int32) = 0 ∨ (0 : Int32) = 1) ∧ post (0 : Int32) S)) (((0 : Int32) = 0 ∨ (0 : Int32) = 1) ∧ post (0 : Int32) S)
def rmX4_isAt : Room := { frames := 4, cells := 0, slots := 0, locals := 85 }
section
variable {p : Program} {l : Launch} {e : Env} {R : Room} {s : State} {m : MethodId} {args : Array Value} {below : List Frame} {meth : Method} {c : Code} {D : va_G} {cy : Nat → ClassId} {A : Nat → Prop} {adK adV : Nat → Nat}
set_option maxRecDepth 100000 in
set_option maxHeartbeats 4000000 in
theorem tX4_isAt_30 {post : Int32 → Pool → Prop} (M : MC p m c cX4_isAt 4 s args RX4) (hr : meth.sig.returnType = (some FieldType.boolean)) (hlk : meth.locks = false) (hRf : 4 ≤ R.frames) (hRl : 85 ≤ R.locals) (hRc : 0 ≤ R.cells) (hRs : 0 ≤ R.slots) (X : EX adK adV A s) : ∀ (n : Nat) (v0 : Option Nat) (v1 : Nat) (v2 : Int32) (v3 : Int32) (S : Pool), wX4_isAt_30 post n v0 v1 v2 v3 S → ∀ (H : Heap) (locs : List Loc) (ls : Array Slot), PB D cy A s S H locs → lv_has ls 4 [(0, va_rf v0), (1, va_rf (some (adK v1))), (2, .int v2), (3, .int v3)] → W p l e R s m args below meth c H locs 0 0 (MQ below (va_Qi post (PQ D cy A) A) args s 0 0 A) (F0 m 30 ls []) := by
  intro n
  induction n with
  | zero => intro v0 v1 v2 v3 S h; exact False.elim h
  | succ n ih =>
    intro v0 v1 v2 v3 S h H locs ls B hl
    unfold wX4_isAt_30 at h
    refine lv_iload_n M.1 M.2.1 dX4_isAt_30 rfl (lv_at hl 3 rfl) ?_
    refine lv_iload_n M.1 M.2.1 dX4_isAt_31 rfl (lv_at hl 2 rfl) ?_
    refine lv_icmp_ge (tgt := 81) M.1 M.2.1 dX4_isAt_32 (by decide) (fun c1 => ?_) (fun c1 => ?_)
    · have h := h.1 c1
      refine lv_iconst (v := 1) M.1 M.2.1 dX4_isAt_81 (by decide) ?_
      exact g_zret M B hr hlk h (by decide) (by decide) dX4_isAt_82
    · have h := h.2 c1
      refine g_aload_n M dX4_isAt_35 rfl (lv_at hl 0 rfl) ?_
      refine gfX4_27 M B dX4_isAt_36 h (fun a2 h => ?_)
      refine lv_iload_n M.1 M.2.1 dX4_isAt_39 rfl (lv_at hl 3 rfl) ?_
      refine lv_iadd M.1 M.2.1 dX4_isAt_40 ?_
      refine g_aload_n M dX4_isAt_41 rfl (lv_at hl 0 rfl) ?_
      refine gfX4_9 M B dX4_isAt_42 h (fun a3 h => ?_)
      refine gfX4_127 M B dX4_isAt_45 h (fun a4 h => ?_)
      refine lv_icmp_ge (tgt := 81) M.1 M.2.1 dX4_isAt_48 (by decide) (fun c5 => ?_) (fun c5 => ?_)
      · have h := h.1 c5
        refine lv_iconst (v := 1) M.1 M.2.1 dX4_isAt_81 (by decide) ?_
        exact g_zret M B hr hlk h (by decide) (by decide) dX4_isAt_82
      · have h := h.2 c5
        refine g_aload_n M dX4_isAt_51 rfl (lv_at hl 0 rfl) ?_
        refine gfX4_9 M B dX4_isAt_52 h (fun a6 h => ?_)
        refine gfX4_132 M B dX4_isAt_55 h (fun a7 h => ?_)
        refine g_aload_n M dX4_isAt_58 rfl (lv_at hl 0 rfl) ?_
        refine gfX4_27 M B dX4_isAt_59 h (fun a8 h => ?_)
        refine lv_iload_n M.1 M.2.1 dX4_isAt_62 rfl (lv_at hl 3 rfl) ?_
        refine lv_iadd M.1 M.2.1 dX4_isAt_63 ?_
        refine g_iald M B dX4_isAt_64 h (fun a9 h => ?_)
        refine g_aload_n M dX4_isAt_65 rfl (lv_at hl 1 rfl) ?_
        refine lv_iload_n M.1 M.2.1 dX4_isAt_66 rfl (lv_at hl 3 rfl) ?_
        refine g_schar M B X hl.1 (Nat.le_trans (by decide) hRf) (Nat.le_trans (by decide) hRl) (Nat.le_trans (by decide) hRc) (Nat.le_trans (by decide) hRs) (ct_i ct_0) (by decide) dX4_isAt_67 h (fun a10 H locs h B => ?_)
        refine lv_icmp_eq (tgt := 75) M.1 M.2.1 dX4_isAt_70 (by decide) (fun c11 => ?_) (fun c11 => ?_)
        · have h := h.1 c11
          refine lv_iinc (v := v3 + 1) (lv' := [(3, .int (v3 + 1)), (0, va_rf v0), (1, va_rf (some (adK v1))), (2, .int v2)]) M.1 M.2.1 dX4_isAt_75 hl (k := 3) rfl (by rfl) (by decide) (fl_e (fl_k rfl rfl (fl_k rfl rfl (fl_i rfl (fl_d rfl fl_0))))) (fun ls hl => ?_)
          refine lv_goto (tgt := 30) M.1 M.2.1 dX4_isAt_78 (by decide) ?_
          exact ih _ _ _ _ _ h _ _ _ B (lv_sub hl [1, 2, 3, 0] rfl)
        · have h := h.2 c11
          refine lv_iconst (v := 0) M.1 M.2.1 dX4_isAt_73 (by decide) ?_
          exact g_zret M B hr hlk h (by decide) (by decide) dX4_isAt_74
set_option maxRecDepth 100000 in
set_option maxHeartbeats 4000000 in
theorem tX4_isAt {post : Int32 → Pool → Prop} (M : MC p m c cX4_isAt 4 s args RX4) (hr : meth.sig.returnType = (some FieldType.boolean)) (hlk : meth.locks = false) (hRf : 4 ≤ R.frames) (hRl : 85 ≤ R.locals) (hRc : 0 ≤ R.cells) (hRs : 0 ≤ R.slots) (X : EX adK adV A s) : ∀ (v0 : Option Nat) (v1 : Nat) (S : Pool), wX4_isAt post v0 v1 S → ∀ (H : Heap) (locs : List Loc) (ls : Array Slot), PB D cy A s S H locs → lv_has ls 4 [(0, va_rf v0), (1, va_rf (some (adK v1)))] → W p l e R s m args below meth c H locs 0 0 (MQ below (va_Qi post (PQ D cy A) A) args s 0 0 A) (F0 m 0 ls []) := by
  intro v0 v1 S h H locs ls B hl
  unfold wX4_isAt at h
  refine g_aload_n M dX4_isAt_0 rfl (lv_at hl 1 rfl) ?_
  refine g_slen M B X hl.1 (Nat.le_trans (by decide) hRf) (Nat.le_trans (by decide) hRl) (Nat.le_trans (by decide) hRc) (Nat.le_trans (by decide) hRs) ct_0 (by decide) dX4_isAt_1 h (fun a1 H locs h B => ?_)
  refine lv_istore_n (lv' := [(2, .int a1), (0, va_rf v0), (1, va_rf (some (adK v1)))]) M.1 M.2.1 dX4_isAt_4 rfl hl (by decide) (fl_e (fl_k rfl rfl (fl_r rfl fl_0))) (fun ls hl => ?_)
  refine g_aload_n M dX4_isAt_5 rfl (lv_at hl 1 rfl) ?_
  refine gfX4_19 M B dX4_isAt_6 h (fun a2 h => ?_)
  refine lv_iconst (v := 1) M.1 M.2.1 dX4_isAt_9 (by decide) ?_
  refine lv_icmp_ne (tgt := 26) M.1 M.2.1 dX4_isAt_10 (by decide) (fun c3 => ?_) (fun c3 => ?_)
  · have h := h.2 c3
    refine lv_iconst (v := 0) M.1 M.2.1 dX4_isAt_26 (by decide) ?_
    exact g_zret M B hr hlk h (by decide) (by decide) dX4_isAt_27
  · have h := h.1 c3
    refine g_aload_n M dX4_isAt_13 rfl (lv_at hl 1 rfl) ?_
    refine gfX4_58 M B dX4_isAt_14 h (fun a4 h => ?_)
    refine g_aload_n M dX4_isAt_17 rfl (lv_at hl 1 rfl) ?_
    refine gfX4_27 M B dX4_isAt_18 h (fun a5 h => ?_)
    refine lv_isub M.1 M.2.1 dX4_isAt_21 ?_
    refine lv_iload_n M.1 M.2.1 dX4_isAt_22 rfl (lv_at hl 0 rfl) ?_
    refine lv_icmp_eq (tgt := 28) M.1 M.2.1 dX4_isAt_23 (by decide) (fun c6 => ?_) (fun c6 => ?_)
    · have h := h.1 c6
      refine lv_iconst (v := 0) M.1 M.2.1 dX4_isAt_28 (by decide) ?_
      refine lv_istore_n (lv' := [(3, .int 0), (2, .int a1), (0, va_rf v0), (1, va_rf (some (adK v1)))]) M.1 M.2.1 dX4_isAt_29 rfl hl (by decide) (fl_e (fl_i rfl (fl_k rfl rfl (fl_k rfl rfl fl_0)))) (fun ls hl => ?_)
      obtain ⟨n1, h⟩ := h
      exact tX4_isAt_30 M hr hlk hRf hRl hRc hRs X n1 _ _ _ _ _ h _ _ _ B (lv_sub hl [2, 3, 1, 0] rfl)
    · have h := h.2 c6
      refine lv_iconst (v := 0) M.1 M.2.1 dX4_isAt_26 (by decide) ?_
      exact g_zret M B hr hlk h (by decide) (by decide) dX4_isAt_27
end
set_option maxRecDepth 100000 in
set_option maxHeartbeats 4000000 in
theorem kX4_isAt (l : Launch) (D : va_G) (cy : Nat → ClassId) (adK adV : Nat → Nat) {post : Int32 → Pool → Prop} {v0 : Option Nat} {v1 : Nat} {S : Pool} (h : wX4_isAt post v0 v1 S) : MetIX l adK adV yX4_isAt cX4_isAt 4 (some FieldType.boolean) rmX4_isAt [va_rf v0, va_rf (some (adK v1))] D cy S post := by
  intro sz
  refine Met.ofW (cc := cX4_isAt) (maxL := 4) (ret := (some FieldType.boolean)) (by decide) rfl ?_
  intro p e s m args below meth c s₁ B0 hml hv
  obtain ⟨rfl, hpp⟩ := hv
  have hts := atoms_spec (ws := .code yX4_isAt cX4_isAt 4 (some FieldType.boolean) :: Gw) B0.pre
  obtain rfl : s.heap.size = sz := hpp.1.1
  have hl := lv_entry [va_rf v0, va_rf (some (adK v1))] (n := 4) (by rw [sl_r, sl_r, sl_0]; decide)
  rw [lg_entry_eq]
  rw [la_r, la_r, la_0] at hl
  exact tX4_isAt (l := l) (R := rmX4_isAt) ⟨B0.exec, B0.bytes, hml, findClass_of_methodNamed B0.named, fun w hw => hts w (List.mem_cons_of_mem _ hw)⟩ B0.returns B0.notSynchronized (Nat.le_refl _) (Nat.le_refl _) (Nat.le_refl _) (Nat.le_refl _) hpp.ex _ _ _ h _ _ _ hpp.1.pb (lv_sub hl [0, 1] rfl)
-- X4_fieldHere: LogHunt$Reader.fieldHere()I
def wX4_fieldHere (post : Int32 → Pool → Prop) (v0 : Option Nat) (S : Pool) : Prop := xrc S v0 4 (wX4_isAt (fun a2 S1 => br (a2 = 0) (xrc S1 v0 4 (wX4_isAt (fun a5 S4 => br (a5 = 0) (xrc S4 v0 4 (wX4_isAt (fun a8 S7 => br (a8 = 0) (post ((-1)) S7) (post 2 S7)) v0 3 S4)) (post 1 S4)) v0 2 S1)) (post 0 S1)) v0 1 S)
def rmX4_fieldHere : Room := { frames := 5, cells := 0, slots := 0, locals := 108 }
section
variable {p : Program} {l : Launch} {e : Env} {R : Room} {s : State} {m : MethodId} {args : Array Value} {below : List Frame} {meth : Method} {c : Code} {D : va_G} {cy : Nat → ClassId} {A : Nat → Prop} {adK adV : Nat → Nat}
set_option maxRecDepth 100000 in
set_option maxHeartbeats 4000000 in
theorem tX4_fieldHere {post : Int32 → Pool → Prop} (M : MC p m c cX4_fieldHere 1 s args RX4) (hr : meth.sig.returnType = (some FieldType.int)) (hlk : meth.locks = false) (hRf : 5 ≤ R.frames) (hRl : 108 ≤ R.locals) (hRc : 0 ≤ R.cells) (hRs : 0 ≤ R.slots) (X : EX adK adV A s) : ∀ (v0 : Option Nat) (S : Pool), wX4_fieldHere post v0 S → ∀ (H : Heap) (locs : List Loc) (ls : Array Slot), PB D cy A s S H locs → lv_has ls 1 [(0, va_rf v0)] → W p l e R s m args below meth c H locs 0 0 (MQ below (va_Qi post (PQ D cy A) A) args s 0 0 A) (F0 m 0 ls []) := by
  intro v0 S h H locs ls B hl
  unfold wX4_fieldHere at h
  refine g_aload_n M dX4_fieldHere_0 rfl (lv_at hl 0 rfl) ?_
  refine g_ldcS (w := 1) M X (by decide) rfl dX4_fieldHere_1 ?_
  obtain ⟨o1, e1, hL1, hK1, h⟩ := h
  refine g_calli (k1 := 0) (k2 := 0) B (g_runVX (n := 1) (As := [va_rf (some (adK 1))]) (rm := rmX4_isAt) M B X e1 (kX4_isAt (v0 := v0) (v1 := 1) l D cy adK adV h _) wmX4_35 wiX4_isAt wsX4_isAt wnX4 wcdX4_isAt ⟨rfl, by decide, by decide, by decide +kernel⟩ ⟨Nat.le_trans (by decide) hRf, Nat.le_trans (by decide) hRl⟩ ⟨Nat.le_trans (by decide) hRc, Nat.le_trans (by decide) hRs⟩ hL1 hK1 (by decide) rfl rfl rfl hl.1 rfl ct_0 (by decide) dX4_fieldHere_3) (by decide) (by decide) (fun a2 S1 H locs h B => ?_)
  refine lv_if_eq (tgt := 13) M.1 M.2.1 dX4_fieldHere_6 (by decide) (fun c3 => ?_) (fun c3 => ?_)
  · have h := h.1 c3
    refine g_aload_n M dX4_fieldHere_13 rfl (lv_at hl 0 rfl) ?_
    refine g_ldcS (w := 2) M X (by decide) rfl dX4_fieldHere_14 ?_
    obtain ⟨o1, e1, hL1, hK1, h⟩ := h
    refine g_calli (k1 := 0) (k2 := 0) B (g_runVX (n := 1) (As := [va_rf (some (adK 2))]) (rm := rmX4_isAt) M B X e1 (kX4_isAt (v0 := v0) (v1 := 2) l D cy adK adV h _) wmX4_35 wiX4_isAt wsX4_isAt wnX4 wcdX4_isAt ⟨rfl, by decide, by decide, by decide +kernel⟩ ⟨Nat.le_trans (by decide) hRf, Nat.le_trans (by decide) hRl⟩ ⟨Nat.le_trans (by decide) hRc, Nat.le_trans (by decide) hRs⟩ hL1 hK1 (by decide) rfl rfl rfl hl.1 rfl ct_0 (by decide) dX4_fieldHere_16) (by decide) (by decide) (fun a5 S4 H locs h B => ?_)
    refine lv_if_eq (tgt := 26) M.1 M.2.1 dX4_fieldHere_19 (by decide) (fun c6 => ?_) (fun c6 => ?_)
    · have h := h.1 c6
      refine g_aload_n M dX4_fieldHere_26 rfl (lv_at hl 0 rfl) ?_
      refine g_ldcS (w := 3) M X (by decide) rfl dX4_fieldHere_27 ?_
      obtain ⟨o1, e1, hL1, hK1, h⟩ := h
      refine g_calli (k1 := 0) (k2 := 0) B (g_runVX (n := 1) (As := [va_rf (some (adK 3))]) (rm := rmX4_isAt) M B X e1 (kX4_isAt (v0 := v0) (v1 := 3) l D cy adK adV h _) wmX4_35 wiX4_isAt wsX4_isAt wnX4 wcdX4_isAt ⟨rfl, by decide, by decide, by decide +kernel⟩ ⟨Nat.le_trans (by decide) hRf, Nat.le_trans (by decide) hRl⟩ ⟨Nat.le_trans (by decide) hRc, Nat.le_trans (by decide) hRs⟩ hL1 hK1 (by decide) rfl rfl rfl hl.1 rfl ct_0 (by decide) dX4_fieldHere_29) (by decide) (by decide) (fun a8 S7 H locs h B => ?_)
      refine lv_if_eq (tgt := 39) M.1 M.2.1 dX4_fieldHere_32 (by decide) (fun c9 => ?_) (fun c9 => ?_)
      · have h := h.1 c9
        refine lv_iconst (v := (-1)) M.1 M.2.1 dX4_fieldHere_39 (by decide) ?_
        exact g_iret M B hr hlk h (by decide) (by decide) dX4_fieldHere_40
      · have h := h.2 c9
        refine lv_iconst (v := 2) M.1 M.2.1 dX4_fieldHere_35 (by decide) ?_
        refine lv_goto (tgt := 40) M.1 M.2.1 dX4_fieldHere_36 (by decide) ?_
        exact g_iret M B hr hlk h (by decide) (by decide) dX4_fieldHere_40
    · have h := h.2 c6
      refine lv_iconst (v := 1) M.1 M.2.1 dX4_fieldHere_22 (by decide) ?_
      refine lv_goto (tgt := 40) M.1 M.2.1 dX4_fieldHere_23 (by decide) ?_
      exact g_iret M B hr hlk h (by decide) (by decide) dX4_fieldHere_40
  · have h := h.2 c3
    refine lv_iconst (v := 0) M.1 M.2.1 dX4_fieldHere_9 (by decide) ?_
    refine lv_goto (tgt := 40) M.1 M.2.1 dX4_fieldHere_10 (by decide) ?_
    exact g_iret M B hr hlk h (by decide) (by decide) dX4_fieldHere_40
end
set_option maxRecDepth 100000 in
set_option maxHeartbeats 4000000 in
theorem kX4_fieldHere (l : Launch) (D : va_G) (cy : Nat → ClassId) (adK adV : Nat → Nat) {post : Int32 → Pool → Prop} {v0 : Option Nat} {S : Pool} (h : wX4_fieldHere post v0 S) : MetIX l adK adV yX4_fieldHere cX4_fieldHere 1 (some FieldType.int) rmX4_fieldHere [va_rf v0] D cy S post := by
  intro sz
  refine Met.ofW (cc := cX4_fieldHere) (maxL := 1) (ret := (some FieldType.int)) (by decide) rfl ?_
  intro p e s m args below meth c s₁ B0 hml hv
  obtain ⟨rfl, hpp⟩ := hv
  have hts := atoms_spec (ws := .code yX4_fieldHere cX4_fieldHere 1 (some FieldType.int) :: Gw) B0.pre
  obtain rfl : s.heap.size = sz := hpp.1.1
  have hl := lv_entry [va_rf v0] (n := 1) (by rw [sl_r, sl_0]; decide)
  rw [lg_entry_eq]
  rw [la_r, la_0] at hl
  exact tX4_fieldHere (l := l) (R := rmX4_fieldHere) ⟨B0.exec, B0.bytes, hml, findClass_of_methodNamed B0.named, fun w hw => hts w (List.mem_cons_of_mem _ hw)⟩ B0.returns B0.notSynchronized (Nat.le_refl _) (Nat.le_refl _) (Nat.le_refl _) (Nat.le_refl _) hpp.ex _ _ h _ _ _ hpp.1.pb (lv_sub hl [0] rfl)
-- X4_readsBy: LogHunt$Reader.readsBy(LLogHunt$Question;)Z
def wX4_readsBy (post : Int32 → Pool → Prop) (v0 : Option Nat) (v1 : Option Nat) (S : Pool) : Prop := xrc S v1 3 (wX3_clear (fun S1 => xpZ S1 v0 4 4 0 fun S2 => xpZ S2 v0 4 5 0 fun S3 => xpI S3 v0 4 3 0 fun S4 => xrc S4 v0 4 (wX4_advance (fun S5 => xrc S5 v0 4 (wX4_isAt (fun a7 S6 => br (a7 = 0) (((0 : Int32) = 0 ∨ (0 : Int32) = 1) ∧ post (0 : Int32) S6) (xrc S6 v0 4 (wX4_advance (fun S9 => xrc S9 v0 4 (wX4_fieldHere (fun a11 S10 => xpI S10 v1 3 3 a11 fun S12 => xI S12 v1 3 3 fun a13 => br (a13 = ((-1))) (((0 : Int32) = 0 ∨ (0 : Int32) = 1) ∧ post (0 : Int32) S12) (xI S12 v1 3 3 fun a15 => xrc S12 v1 3 (wX3_note (fun S16 => xrc S16 v0 4 (wX4_advance (fun S17 => ((1 : Int32) = 0 ∨ (1 : Int32) = 1) ∧ post (1 : Int32) S17) v0 S16)) v1 a15 S12))) v0 S9)) v0 S6))) v0 0 S5)) v0 S4)) v1 S)
def rmX4_readsBy : Room := { frames := 6, cells := 0, slots := 0, locals := 128 }
section
variable {p : Program} {l : Launch} {e : Env} {R : Room} {s : State} {m : MethodId} {args : Array Value} {below : List Frame} {meth : Method} {c : Code} {D : va_G} {cy : Nat → ClassId} {A : Nat → Prop} {adK adV : Nat → Nat}
set_option maxRecDepth 100000 in
set_option maxHeartbeats 4000000 in
theorem tX4_readsBy {post : Int32 → Pool → Prop} (M : MC p m c cX4_readsBy 2 s args RX4) (hr : meth.sig.returnType = (some FieldType.boolean)) (hlk : meth.locks = false) (hRf : 6 ≤ R.frames) (hRl : 128 ≤ R.locals) (hRc : 0 ≤ R.cells) (hRs : 0 ≤ R.slots) (X : EX adK adV A s) : ∀ (v0 : Option Nat) (v1 : Option Nat) (S : Pool), wX4_readsBy post v0 v1 S → ∀ (H : Heap) (locs : List Loc) (ls : Array Slot), PB D cy A s S H locs → lv_has ls 2 [(0, va_rf v0), (1, va_rf v1)] → W p l e R s m args below meth c H locs 0 0 (MQ below (va_Qi post (PQ D cy A) A) args s 0 0 A) (F0 m 0 ls []) := by
  intro v0 v1 S h H locs ls B hl
  unfold wX4_readsBy at h
  refine g_aload_n M dX4_readsBy_0 rfl (lv_at hl 1 rfl) ?_
  obtain ⟨o1, e1, hL1, hK1, h⟩ := h
  refine g_callv (k1 := 0) (k2 := 0) B (g_runV (n := 0) (As := []) (rm := rmX3_clear) M B e1 (kX3_clear (v0 := v1) l D cy h _) wmX4_50 wiX3_clear wsX3_clear wnX3 wcdX3_clear ⟨rfl, by decide, by decide, by decide +kernel⟩ ⟨Nat.le_trans (by decide) hRf, Nat.le_trans (by decide) hRl⟩ ⟨Nat.le_trans (by decide) hRc, Nat.le_trans (by decide) hRs⟩ hL1 hK1 (by decide) rfl rfl rfl hl.1 rfl ct_0 (by decide) dX4_readsBy_1) (by decide) (by decide) (fun S1 H locs h B => ?_)
  refine g_aload_n M dX4_readsBy_4 rfl (lv_at hl 0 rfl) ?_
  refine lv_iconst (v := 0) M.1 M.2.1 dX4_readsBy_5 (by decide) ?_
  refine gpX4_55 M B dX4_readsBy_6 h (fun S2 H locs h B => ?_)
  refine g_aload_n M dX4_readsBy_9 rfl (lv_at hl 0 rfl) ?_
  refine lv_iconst (v := 0) M.1 M.2.1 dX4_readsBy_10 (by decide) ?_
  refine gpX4_23 M B dX4_readsBy_11 h (fun S3 H locs h B => ?_)
  refine g_aload_n M dX4_readsBy_14 rfl (lv_at hl 0 rfl) ?_
  refine lv_iconst (v := 0) M.1 M.2.1 dX4_readsBy_15 (by decide) ?_
  refine gpX4_58 M B dX4_readsBy_16 h (fun S4 H locs h B => ?_)
  refine g_aload_n M dX4_readsBy_19 rfl (lv_at hl 0 rfl) ?_
  obtain ⟨o1, e1, hL1, hK1, h⟩ := h
  refine g_callv (k1 := 0) (k2 := 0) B (g_runV (n := 0) (As := []) (rm := rmX4_advance) M B e1 (kX4_advance (v0 := v0) l D cy h _) wmX4_30 wiX4_advance wsX4_advance wnX4 wcdX4_advance ⟨rfl, by decide, by decide, by decide +kernel⟩ ⟨Nat.le_trans (by decide) hRf, Nat.le_trans (by decide) hRl⟩ ⟨Nat.le_trans (by decide) hRc, Nat.le_trans (by decide) hRs⟩ hL1 hK1 (by decide) rfl rfl rfl hl.1 rfl ct_0 (by decide) dX4_readsBy_20) (by decide) (by decide) (fun S5 H locs h B => ?_)
  refine g_aload_n M dX4_readsBy_23 rfl (lv_at hl 0 rfl) ?_
  refine g_ldcS (w := 0) M X (by decide) rfl dX4_readsBy_24 ?_
  obtain ⟨o1, e1, hL1, hK1, h⟩ := h
  refine g_calli (k1 := 0) (k2 := 0) B (g_runVX (n := 1) (As := [va_rf (some (adK 0))]) (rm := rmX4_isAt) M B X e1 (kX4_isAt (v0 := v0) (v1 := 0) l D cy adK adV h _) wmX4_35 wiX4_isAt wsX4_isAt wnX4 wcdX4_isAt ⟨rfl, by decide, by decide, by decide +kernel⟩ ⟨Nat.le_trans (by decide) hRf, Nat.le_trans (by decide) hRl⟩ ⟨Nat.le_trans (by decide) hRc, Nat.le_trans (by decide) hRs⟩ hL1 hK1 (by decide) rfl rfl rfl hl.1 rfl ct_0 (by decide) dX4_readsBy_26) (by decide) (by decide) (fun a7 S6 H locs h B => ?_)
  refine lv_if_ne (tgt := 34) M.1 M.2.1 dX4_readsBy_29 (by decide) (fun c8 => ?_) (fun c8 => ?_)
  · have h := h.2 c8
    refine g_aload_n M dX4_readsBy_34 rfl (lv_at hl 0 rfl) ?_
    obtain ⟨o1, e1, hL1, hK1, h⟩ := h
    refine g_callv (k1 := 0) (k2 := 0) B (g_runV (n := 0) (As := []) (rm := rmX4_advance) M B e1 (kX4_advance (v0 := v0) l D cy h _) wmX4_30 wiX4_advance wsX4_advance wnX4 wcdX4_advance ⟨rfl, by decide, by decide, by decide +kernel⟩ ⟨Nat.le_trans (by decide) hRf, Nat.le_trans (by decide) hRl⟩ ⟨Nat.le_trans (by decide) hRc, Nat.le_trans (by decide) hRs⟩ hL1 hK1 (by decide) rfl rfl rfl hl.1 rfl ct_0 (by decide) dX4_readsBy_35) (by decide) (by decide) (fun S9 H locs h B => ?_)
    refine g_aload_n M dX4_readsBy_38 rfl (lv_at hl 1 rfl) ?_
    refine g_aload_n M dX4_readsBy_39 rfl (lv_at hl 0 rfl) ?_
    obtain ⟨o1, e1, hL1, hK1, h⟩ := h
    refine g_calli (k1 := 0) (k2 := 0) B (g_runVX (n := 0) (As := []) (rm := rmX4_fieldHere) M B X e1 (kX4_fieldHere (v0 := v0) l D cy adK adV h _) wmX4_63 wiX4_fieldHere wsX4_fieldHere wnX4 wcdX4_fieldHere ⟨rfl, by decide, by decide, by decide +kernel⟩ ⟨Nat.le_trans (by decide) hRf, Nat.le_trans (by decide) hRl⟩ ⟨Nat.le_trans (by decide) hRc, Nat.le_trans (by decide) hRs⟩ hL1 hK1 (by decide) rfl rfl rfl hl.1 rfl (ct_r ct_0) (by decide) dX4_readsBy_40) (by decide) (by decide) (fun a11 S10 H locs h B => ?_)
    refine gpX4_67 M B dX4_readsBy_43 h (fun S12 H locs h B => ?_)
    refine g_aload_n M dX4_readsBy_46 rfl (lv_at hl 1 rfl) ?_
    refine gfX4_67 M B dX4_readsBy_47 h (fun a13 h => ?_)
    refine lv_iconst (v := (-1)) M.1 M.2.1 dX4_readsBy_50 (by decide) ?_
    refine lv_icmp_ne (tgt := 56) M.1 M.2.1 dX4_readsBy_51 (by decide) (fun c14 => ?_) (fun c14 => ?_)
    · have h := h.2 c14
      refine g_aload_n M dX4_readsBy_56 rfl (lv_at hl 1 rfl) ?_
      refine g_aload_n M dX4_readsBy_57 rfl (lv_at hl 1 rfl) ?_
      refine gfX4_67 M B dX4_readsBy_58 h (fun a15 h => ?_)
      obtain ⟨o1, e1, hL1, hK1, h⟩ := h
      refine g_callv (k1 := 0) (k2 := 0) B (g_runV (n := 1) (As := [.int a15]) (rm := rmX3_note) M B e1 (kX3_note (v0 := v1) (v1 := a15) l D cy h _) wmX4_69 wiX3_note wsX3_note wnX3 wcdX3_note ⟨rfl, by decide, by decide, by decide +kernel⟩ ⟨Nat.le_trans (by decide) hRf, Nat.le_trans (by decide) hRl⟩ ⟨Nat.le_trans (by decide) hRc, Nat.le_trans (by decide) hRs⟩ hL1 hK1 (by decide) rfl rfl rfl hl.1 rfl ct_0 (by decide) dX4_readsBy_61) (by decide) (by decide) (fun S16 H locs h B => ?_)
      refine g_aload_n M dX4_readsBy_64 rfl (lv_at hl 0 rfl) ?_
      obtain ⟨o1, e1, hL1, hK1, h⟩ := h
      refine g_callv (k1 := 0) (k2 := 0) B (g_runV (n := 0) (As := []) (rm := rmX4_advance) M B e1 (kX4_advance (v0 := v0) l D cy h _) wmX4_30 wiX4_advance wsX4_advance wnX4 wcdX4_advance ⟨rfl, by decide, by decide, by decide +kernel⟩ ⟨Nat.le_trans (by decide) hRf, Nat.le_trans (by decide) hRl⟩ ⟨Nat.le_trans (by decide) hRc, Nat.le_trans (by decide) hRs⟩ hL1 hK1 (by decide) rfl rfl rfl hl.1 rfl ct_0 (by decide) dX4_readsBy_65) (by decide) (by decide) (fun S17 H locs h B => ?_)
      refine lv_iconst (v := 1) M.1 M.2.1 dX4_readsBy_68 (by decide) ?_
      exact g_zret M B hr hlk h (by decide) (by decide) dX4_readsBy_69
    · have h := h.1 c14
      refine lv_iconst (v := 0) M.1 M.2.1 dX4_readsBy_54 (by decide) ?_
      exact g_zret M B hr hlk h (by decide) (by decide) dX4_readsBy_55
  · have h := h.1 c8
    refine lv_iconst (v := 0) M.1 M.2.1 dX4_readsBy_32 (by decide) ?_
    exact g_zret M B hr hlk h (by decide) (by decide) dX4_readsBy_33
end
set_option maxRecDepth 100000 in
set_option maxHeartbeats 4000000 in
theorem kX4_readsBy (l : Launch) (D : va_G) (cy : Nat → ClassId) (adK adV : Nat → Nat) {post : Int32 → Pool → Prop} {v0 : Option Nat} {v1 : Option Nat} {S : Pool} (h : wX4_readsBy post v0 v1 S) : MetIX l adK adV yX4_readsBy cX4_readsBy 2 (some FieldType.boolean) rmX4_readsBy [va_rf v0, va_rf v1] D cy S post := by
  intro sz
  refine Met.ofW (cc := cX4_readsBy) (maxL := 2) (ret := (some FieldType.boolean)) (by decide) rfl ?_
  intro p e s m args below meth c s₁ B0 hml hv
  obtain ⟨rfl, hpp⟩ := hv
  have hts := atoms_spec (ws := .code yX4_readsBy cX4_readsBy 2 (some FieldType.boolean) :: Gw) B0.pre
  obtain rfl : s.heap.size = sz := hpp.1.1
  have hl := lv_entry [va_rf v0, va_rf v1] (n := 2) (by rw [sl_r, sl_r, sl_0]; decide)
  rw [lg_entry_eq]
  rw [la_r, la_r, la_0] at hl
  exact tX4_readsBy (l := l) (R := rmX4_readsBy) ⟨B0.exec, B0.bytes, hml, findClass_of_methodNamed B0.named, fun w hw => hts w (List.mem_cons_of_mem _ hw)⟩ B0.returns B0.notSynchronized (Nat.le_refl _) (Nat.le_refl _) (Nat.le_refl _) (Nat.le_refl _) hpp.ex _ _ _ h _ _ _ hpp.1.pb (lv_sub hl [0, 1] rfl)
-- X4_numberHere: LogHunt$Reader.numberHere(II)I
def wX4_numberHere_78 (post : Int32 → Pool → Prop) (v1 : Int32) (v2 : Int32) (v3 : Int32) (S : Pool) : Prop := br (v3 < v1) (post ((-1)) S) (br (v2 < v3) (post ((-1)) S) (post v3 S))
def wX4_numberHere_32 (post : Int32 → Pool → Prop) : Nat → Option Nat → Int32 → Int32 → Int32 → Int32 → Pool → Prop
  | 0 => fun _ _ _ _ _ _ => False
  | n + 1 => fun v0 v1 v2 v3 v4 S => xI S v0 4 3 fun a1 => br (a1 ≤ v4) (wX4_numberHere_78 post v1 v2 v3 S) (xR S v0 4 0 fun a3 => xI S a3 7 1 fun a4 => br (a4 ≤ v4) (wX4_numberHere_78 post v1 v2 v3 S) (xR S v0 4 0 fun a6 => xR S a6 7 0 fun a7 => xaI S a7 10 v4 fun a8 => wX4_numberHere_32 post n v0 v1 v2 (((v3 * 10) + a8) - 48) (v4 + 1) S))
def wX4_numberHere (post : Int32 → Pool → Prop) (v0 : Option Nat) (v1 : Int32) (v2 : Int32) (S : Pool) : Prop := xI S v0 4 1 fun a1 => br (a1 = 2) (xI S v0 4 3 fun a3 => xI S v0 4 2 fun a4 => br ((a3 - a4) ≤ 6) (xI S v0 4 2 fun a6 => ∃ n1, wX4_numberHere_32 post n1 v0 v1 v2 0 a6 S) (post ((-1)) S)) (post ((-1)) S)
def rmX4_numberHere : Room := { frames := 0, cells := 0, slots := 0, locals := 0 }
section
variable {p : Program} {l : Launch} {e : Env} {R : Room} {s : State} {m : MethodId} {args : Array Value} {below : List Frame} {meth : Method} {c : Code} {D : va_G} {cy : Nat → ClassId} {A : Nat → Prop}
set_option maxRecDepth 100000 in
set_option maxHeartbeats 4000000 in
theorem tX4_numberHere_78 {post : Int32 → Pool → Prop} (M : MC p m c cX4_numberHere 5 s args RX4) (hr : meth.sig.returnType = (some FieldType.int)) (hlk : meth.locks = false) (hRf : 0 ≤ R.frames) (hRl : 0 ≤ R.locals) (hRc : 0 ≤ R.cells) (hRs : 0 ≤ R.slots) : ∀ (v1 : Int32) (v2 : Int32) (v3 : Int32) (S : Pool), wX4_numberHere_78 post v1 v2 v3 S → ∀ (H : Heap) (locs : List Loc) (ls : Array Slot), PB D cy A s S H locs → lv_has ls 5 [(1, .int v1), (2, .int v2), (3, .int v3)] → W p l e R s m args below meth c H locs 0 0 (MQ below (va_Qi post (PQ D cy A) A) args s 0 0 A) (F0 m 78 ls []) := by
  intro v1 v2 v3 S h H locs ls B hl
  unfold wX4_numberHere_78 at h
  refine lv_iload_n M.1 M.2.1 dX4_numberHere_78 rfl (lv_at hl 2 rfl) ?_
  refine lv_iload_n M.1 M.2.1 dX4_numberHere_79 rfl (lv_at hl 0 rfl) ?_
  refine lv_icmp_lt (tgt := 92) M.1 M.2.1 dX4_numberHere_80 (by decide) (fun c1 => ?_) (fun c1 => ?_)
  · have h := h.1 c1
    refine lv_iconst (v := (-1)) M.1 M.2.1 dX4_numberHere_92 (by decide) ?_
    exact g_iret M B hr hlk h (by decide) (by decide) dX4_numberHere_93
  · have h := h.2 c1
    refine lv_iload_n M.1 M.2.1 dX4_numberHere_83 rfl (lv_at hl 2 rfl) ?_
    refine lv_iload_n M.1 M.2.1 dX4_numberHere_84 rfl (lv_at hl 1 rfl) ?_
    refine lv_icmp_gt (tgt := 92) M.1 M.2.1 dX4_numberHere_85 (by decide) (fun c2 => ?_) (fun c2 => ?_)
    · have h := h.1 c2
      refine lv_iconst (v := (-1)) M.1 M.2.1 dX4_numberHere_92 (by decide) ?_
      exact g_iret M B hr hlk h (by decide) (by decide) dX4_numberHere_93
    · have h := h.2 c2
      refine lv_iload_n M.1 M.2.1 dX4_numberHere_88 rfl (lv_at hl 2 rfl) ?_
      refine lv_goto (tgt := 93) M.1 M.2.1 dX4_numberHere_89 (by decide) ?_
      exact g_iret M B hr hlk h (by decide) (by decide) dX4_numberHere_93
set_option maxRecDepth 100000 in
set_option maxHeartbeats 4000000 in
theorem tX4_numberHere_32 {post : Int32 → Pool → Prop} (M : MC p m c cX4_numberHere 5 s args RX4) (hr : meth.sig.returnType = (some FieldType.int)) (hlk : meth.locks = false) (hRf : 0 ≤ R.frames) (hRl : 0 ≤ R.locals) (hRc : 0 ≤ R.cells) (hRs : 0 ≤ R.slots) : ∀ (n : Nat) (v0 : Option Nat) (v1 : Int32) (v2 : Int32) (v3 : Int32) (v4 : Int32) (S : Pool), wX4_numberHere_32 post n v0 v1 v2 v3 v4 S → ∀ (H : Heap) (locs : List Loc) (ls : Array Slot), PB D cy A s S H locs → lv_has ls 5 [(0, va_rf v0), (1, .int v1), (2, .int v2), (3, .int v3), (4, .int v4)] → W p l e R s m args below meth c H locs 0 0 (MQ below (va_Qi post (PQ D cy A) A) args s 0 0 A) (F0 m 32 ls []) := by
  intro n
  induction n with
  | zero => intro v0 v1 v2 v3 v4 S h; exact False.elim h
  | succ n ih =>
    intro v0 v1 v2 v3 v4 S h H locs ls B hl
    unfold wX4_numberHere_32 at h
    refine lv_iload M.1 M.2.1 dX4_numberHere_32 (lv_at hl 4 rfl) ?_
    refine g_aload_n M dX4_numberHere_34 rfl (lv_at hl 0 rfl) ?_
    refine gfX4_58 M B dX4_numberHere_35 h (fun a1 h => ?_)
    refine lv_icmp_ge (tgt := 78) M.1 M.2.1 dX4_numberHere_38 (by decide) (fun c2 => ?_) (fun c2 => ?_)
    · have h := h.1 c2
      exact tX4_numberHere_78 M hr hlk hRf hRl hRc hRs _ _ _ _ h _ _ _ B (lv_sub hl [1, 2, 3] rfl)
    · have h := h.2 c2
      refine lv_iload M.1 M.2.1 dX4_numberHere_41 (lv_at hl 4 rfl) ?_
      refine g_aload_n M dX4_numberHere_43 rfl (lv_at hl 0 rfl) ?_
      refine gfX4_9 M B dX4_numberHere_44 h (fun a3 h => ?_)
      refine gfX4_127 M B dX4_numberHere_47 h (fun a4 h => ?_)
      refine lv_icmp_ge (tgt := 78) M.1 M.2.1 dX4_numberHere_50 (by decide) (fun c5 => ?_) (fun c5 => ?_)
      · have h := h.1 c5
        exact tX4_numberHere_78 M hr hlk hRf hRl hRc hRs _ _ _ _ h _ _ _ B (lv_sub hl [1, 2, 3] rfl)
      · have h := h.2 c5
        refine lv_iload_n M.1 M.2.1 dX4_numberHere_53 rfl (lv_at hl 3 rfl) ?_
        refine lv_bipush (v := 10) M.1 M.2.1 dX4_numberHere_54 (by decide) ?_
        refine lv_imul M.1 M.2.1 dX4_numberHere_56 ?_
        refine g_aload_n M dX4_numberHere_57 rfl (lv_at hl 0 rfl) ?_
        refine gfX4_9 M B dX4_numberHere_58 h (fun a6 h => ?_)
        refine gfX4_132 M B dX4_numberHere_61 h (fun a7 h => ?_)
        refine lv_iload M.1 M.2.1 dX4_numberHere_64 (lv_at hl 4 rfl) ?_
        refine g_iald M B dX4_numberHere_66 h (fun a8 h => ?_)
        refine lv_iadd M.1 M.2.1 dX4_numberHere_67 ?_
        refine lv_bipush (v := 48) M.1 M.2.1 dX4_numberHere_68 (by decide) ?_
        refine lv_isub M.1 M.2.1 dX4_numberHere_70 ?_
        refine lv_istore_n (lv' := [(3, .int (((v3 * 10) + a8) - 48)), (0, va_rf v0), (1, .int v1), (2, .int v2), (4, .int v4)]) M.1 M.2.1 dX4_numberHere_71 rfl hl (by decide) (fl_e (fl_k rfl rfl (fl_k rfl rfl (fl_i rfl (fl_d rfl (fl_k rfl rfl fl_0)))))) (fun ls hl => ?_)
        refine lv_iinc (v := v4 + 1) (lv' := [(4, .int (v4 + 1)), (3, .int (((v3 * 10) + a8) - 48)), (0, va_rf v0), (1, .int v1), (2, .int v2)]) M.1 M.2.1 dX4_numberHere_72 hl (k := 4) rfl (by rfl) (by decide) (fl_e (fl_i rfl (fl_k rfl rfl (fl_k rfl rfl (fl_k rfl rfl (fl_d rfl fl_0)))))) (fun ls hl => ?_)
        refine lv_goto (tgt := 32) M.1 M.2.1 dX4_numberHere_75 (by decide) ?_
        exact ih _ _ _ _ _ _ h _ _ _ B (lv_sub hl [2, 3, 4, 1, 0] rfl)
set_option maxRecDepth 100000 in
set_option maxHeartbeats 4000000 in
theorem tX4_numberHere {post : Int32 → Pool → Prop} (M : MC p m c cX4_numberHere 5 s args RX4) (hr : meth.sig.returnType = (some FieldType.int)) (hlk : meth.locks = false) (hRf : 0 ≤ R.frames) (hRl : 0 ≤ R.locals) (hRc : 0 ≤ R.cells) (hRs : 0 ≤ R.slots) : ∀ (v0 : Option Nat) (v1 : Int32) (v2 : Int32) (S : Pool), wX4_numberHere post v0 v1 v2 S → ∀ (H : Heap) (locs : List Loc) (ls : Array Slot), PB D cy A s S H locs → lv_has ls 5 [(0, va_rf v0), (1, .int v1), (2, .int v2)] → W p l e R s m args below meth c H locs 0 0 (MQ below (va_Qi post (PQ D cy A) A) args s 0 0 A) (F0 m 0 ls []) := by
  intro v0 v1 v2 S h H locs ls B hl
  unfold wX4_numberHere at h
  refine g_aload_n M dX4_numberHere_0 rfl (lv_at hl 0 rfl) ?_
  refine gfX4_19 M B dX4_numberHere_1 h (fun a1 h => ?_)
  refine lv_iconst (v := 2) M.1 M.2.1 dX4_numberHere_4 (by decide) ?_
  refine lv_icmp_ne (tgt := 22) M.1 M.2.1 dX4_numberHere_5 (by decide) (fun c2 => ?_) (fun c2 => ?_)
  · have h := h.2 c2
    refine lv_iconst (v := (-1)) M.1 M.2.1 dX4_numberHere_22 (by decide) ?_
    exact g_iret M B hr hlk h (by decide) (by decide) dX4_numberHere_23
  · have h := h.1 c2
    refine g_aload_n M dX4_numberHere_8 rfl (lv_at hl 0 rfl) ?_
    refine gfX4_58 M B dX4_numberHere_9 h (fun a3 h => ?_)
    refine g_aload_n M dX4_numberHere_12 rfl (lv_at hl 0 rfl) ?_
    refine gfX4_27 M B dX4_numberHere_13 h (fun a4 h => ?_)
    refine lv_isub M.1 M.2.1 dX4_numberHere_16 ?_
    refine lv_bipush (v := 6) M.1 M.2.1 dX4_numberHere_17 (by decide) ?_
    refine lv_icmp_le (tgt := 24) M.1 M.2.1 dX4_numberHere_19 (by decide) (fun c5 => ?_) (fun c5 => ?_)
    · have h := h.1 c5
      refine lv_iconst (v := 0) M.1 M.2.1 dX4_numberHere_24 (by decide) ?_
      refine lv_istore_n (lv' := [(3, .int 0), (0, va_rf v0), (1, .int v1), (2, .int v2)]) M.1 M.2.1 dX4_numberHere_25 rfl hl (by decide) (fl_e (fl_k rfl rfl (fl_k rfl rfl (fl_i rfl fl_0)))) (fun ls hl => ?_)
      refine g_aload_n M dX4_numberHere_26 rfl (lv_at hl 1 rfl) ?_
      refine gfX4_27 M B dX4_numberHere_27 h (fun a6 h => ?_)
      refine lv_istore (lv' := [(4, .int a6), (3, .int 0), (0, va_rf v0), (1, .int v1), (2, .int v2)]) M.1 M.2.1 dX4_numberHere_30 hl (by decide) (fl_e (fl_i rfl (fl_k rfl rfl (fl_k rfl rfl (fl_k rfl rfl fl_0))))) (fun ls hl => ?_)
      obtain ⟨n1, h⟩ := h
      exact tX4_numberHere_32 M hr hlk hRf hRl hRc hRs n1 _ _ _ _ _ _ h _ _ _ B (lv_sub hl [2, 3, 4, 1, 0] rfl)
    · have h := h.2 c5
      refine lv_iconst (v := (-1)) M.1 M.2.1 dX4_numberHere_22 (by decide) ?_
      exact g_iret M B hr hlk h (by decide) (by decide) dX4_numberHere_23
end
set_option maxRecDepth 100000 in
set_option maxHeartbeats 4000000 in
theorem kX4_numberHere (l : Launch) (D : va_G) (cy : Nat → ClassId) {post : Int32 → Pool → Prop} {v0 : Option Nat} {v1 : Int32} {v2 : Int32} {S : Pool} (h : wX4_numberHere post v0 v1 v2 S) : MetI l yX4_numberHere cX4_numberHere 5 (some FieldType.int) rmX4_numberHere [va_rf v0, .int v1, .int v2] D cy S post := by
  intro sz
  refine Met.ofW (cc := cX4_numberHere) (maxL := 5) (ret := (some FieldType.int)) (by decide) rfl ?_
  intro p e s m args below meth c s₁ B0 hml hv
  obtain ⟨rfl, hpp⟩ := hv
  have hts := atoms_spec (ws := .code yX4_numberHere cX4_numberHere 5 (some FieldType.int) :: Gw) B0.pre
  obtain rfl : s.heap.size = sz := hpp.1
  have hl := lv_entry [va_rf v0, .int v1, .int v2] (n := 5) (by rw [sl_r, sl_i, sl_i, sl_0]; decide)
  rw [lg_entry_eq]
  rw [la_r, la_i, la_i, la_0] at hl
  exact tX4_numberHere (l := l) (R := rmX4_numberHere) ⟨B0.exec, B0.bytes, hml, findClass_of_methodNamed B0.named, fun w hw => hts w (List.mem_cons_of_mem _ hw)⟩ B0.returns B0.notSynchronized (Nat.le_refl _) (Nat.le_refl _) (Nat.le_refl _) (Nat.le_refl _) _ _ _ _ h _ _ _ hpp.pb (lv_sub hl [0, 1, 2] rfl)
-- X4_readsSpread: LogHunt$Reader.readsSpread(LLogHunt$Question;)Z
def wX4_readsSpread (post : Int32 → Pool → Prop) (v0 : Option Nat) (v1 : Option Nat) (S : Pool) : Prop := xrc S v0 4 (wX4_advance (fun S1 => xrc S1 v0 4 (wX4_fieldHere (fun a3 S2 => xpI S2 v1 3 4 a3 fun S4 => xI S4 v1 3 4 fun a5 => br (a5 = ((-1))) (((0 : Int32) = 0 ∨ (0 : Int32) = 1) ∧ post (0 : Int32) S4) (xI S4 v1 3 4 fun a7 => xrc S4 v1 3 (wX3_note (fun S8 => xrc S8 v0 4 (wX4_advance (fun S9 => xrc S9 v0 4 (wX4_numberHere (fun a11 S10 => xpI S10 v1 3 5 a11 fun S12 => xI S12 v1 3 5 fun a13 => br (a13 = ((-1))) (((0 : Int32) = 0 ∨ (0 : Int32) = 1) ∧ post (0 : Int32) S12) (xrc S12 v0 4 (wX4_advance (fun S15 => xrc S15 v0 4 (wX4_isAt (fun a17 S16 => br (a17 = 0) (((0 : Int32) = 0 ∨ (0 : Int32) = 1) ∧ post (0 : Int32) S16) (xrc S16 v0 4 (wX4_advance (fun S19 => xrc S19 v0 4 (wX4_numberHere (fun a21 S20 => xpI S20 v1 3 6 a21 fun S22 => xI S22 v1 3 6 fun a23 => br (a23 = ((-1))) (((0 : Int32) = 0 ∨ (0 : Int32) = 1) ∧ post (0 : Int32) S22) (xrc S22 v0 4 (wX4_advance (fun S25 => xI S25 v0 4 1 fun a26 => br (a26 = 0) (((1 : Int32) = 0 ∨ (1 : Int32) = 1) ∧ post (1 : Int32) S25) (((0 : Int32) = 0 ∨ (0 : Int32) = 1) ∧ post (0 : Int32) S25)) v0 S22))) v0 1 100000 S19)) v0 S16))) v0 5 S15)) v0 S12))) v0 2 30 S9)) v0 S8)) v1 a7 S4))) v0 S1)) v0 S)
def rmX4_readsSpread : Room := { frames := 6, cells := 0, slots := 0, locals := 128 }
section
variable {p : Program} {l : Launch} {e : Env} {R : Room} {s : State} {m : MethodId} {args : Array Value} {below : List Frame} {meth : Method} {c : Code} {D : va_G} {cy : Nat → ClassId} {A : Nat → Prop} {adK adV : Nat → Nat}
set_option maxRecDepth 100000 in
set_option maxHeartbeats 4000000 in
theorem tX4_readsSpread {post : Int32 → Pool → Prop} (M : MC p m c cX4_readsSpread 2 s args RX4) (hr : meth.sig.returnType = (some FieldType.boolean)) (hlk : meth.locks = false) (hRf : 6 ≤ R.frames) (hRl : 128 ≤ R.locals) (hRc : 0 ≤ R.cells) (hRs : 0 ≤ R.slots) (X : EX adK adV A s) : ∀ (v0 : Option Nat) (v1 : Option Nat) (S : Pool), wX4_readsSpread post v0 v1 S → ∀ (H : Heap) (locs : List Loc) (ls : Array Slot), PB D cy A s S H locs → lv_has ls 2 [(0, va_rf v0), (1, va_rf v1)] → W p l e R s m args below meth c H locs 0 0 (MQ below (va_Qi post (PQ D cy A) A) args s 0 0 A) (F0 m 0 ls []) := by
  intro v0 v1 S h H locs ls B hl
  unfold wX4_readsSpread at h
  refine g_aload_n M dX4_readsSpread_0 rfl (lv_at hl 0 rfl) ?_
  obtain ⟨o1, e1, hL1, hK1, h⟩ := h
  refine g_callv (k1 := 0) (k2 := 0) B (g_runV (n := 0) (As := []) (rm := rmX4_advance) M B e1 (kX4_advance (v0 := v0) l D cy h _) wmX4_30 wiX4_advance wsX4_advance wnX4 wcdX4_advance ⟨rfl, by decide, by decide, by decide +kernel⟩ ⟨Nat.le_trans (by decide) hRf, Nat.le_trans (by decide) hRl⟩ ⟨Nat.le_trans (by decide) hRc, Nat.le_trans (by decide) hRs⟩ hL1 hK1 (by decide) rfl rfl rfl hl.1 rfl ct_0 (by decide) dX4_readsSpread_1) (by decide) (by decide) (fun S1 H locs h B => ?_)
  refine g_aload_n M dX4_readsSpread_4 rfl (lv_at hl 1 rfl) ?_
  refine g_aload_n M dX4_readsSpread_5 rfl (lv_at hl 0 rfl) ?_
  obtain ⟨o1, e1, hL1, hK1, h⟩ := h
  refine g_calli (k1 := 0) (k2 := 0) B (g_runVX (n := 0) (As := []) (rm := rmX4_fieldHere) M B X e1 (kX4_fieldHere (v0 := v0) l D cy adK adV h _) wmX4_63 wiX4_fieldHere wsX4_fieldHere wnX4 wcdX4_fieldHere ⟨rfl, by decide, by decide, by decide +kernel⟩ ⟨Nat.le_trans (by decide) hRf, Nat.le_trans (by decide) hRl⟩ ⟨Nat.le_trans (by decide) hRc, Nat.le_trans (by decide) hRs⟩ hL1 hK1 (by decide) rfl rfl rfl hl.1 rfl (ct_r ct_0) (by decide) dX4_readsSpread_6) (by decide) (by decide) (fun a3 S2 H locs h B => ?_)
  refine gpX4_112 M B dX4_readsSpread_9 h (fun S4 H locs h B => ?_)
  refine g_aload_n M dX4_readsSpread_12 rfl (lv_at hl 1 rfl) ?_
  refine gfX4_112 M B dX4_readsSpread_13 h (fun a5 h => ?_)
  refine lv_iconst (v := (-1)) M.1 M.2.1 dX4_readsSpread_16 (by decide) ?_
  refine lv_icmp_ne (tgt := 22) M.1 M.2.1 dX4_readsSpread_17 (by decide) (fun c6 => ?_) (fun c6 => ?_)
  · have h := h.2 c6
    refine g_aload_n M dX4_readsSpread_22 rfl (lv_at hl 1 rfl) ?_
    refine g_aload_n M dX4_readsSpread_23 rfl (lv_at hl 1 rfl) ?_
    refine gfX4_112 M B dX4_readsSpread_24 h (fun a7 h => ?_)
    obtain ⟨o1, e1, hL1, hK1, h⟩ := h
    refine g_callv (k1 := 0) (k2 := 0) B (g_runV (n := 1) (As := [.int a7]) (rm := rmX3_note) M B e1 (kX3_note (v0 := v1) (v1 := a7) l D cy h _) wmX4_69 wiX3_note wsX3_note wnX3 wcdX3_note ⟨rfl, by decide, by decide, by decide +kernel⟩ ⟨Nat.le_trans (by decide) hRf, Nat.le_trans (by decide) hRl⟩ ⟨Nat.le_trans (by decide) hRc, Nat.le_trans (by decide) hRs⟩ hL1 hK1 (by decide) rfl rfl rfl hl.1 rfl ct_0 (by decide) dX4_readsSpread_27) (by decide) (by decide) (fun S8 H locs h B => ?_)
    refine g_aload_n M dX4_readsSpread_30 rfl (lv_at hl 0 rfl) ?_
    obtain ⟨o1, e1, hL1, hK1, h⟩ := h
    refine g_callv (k1 := 0) (k2 := 0) B (g_runV (n := 0) (As := []) (rm := rmX4_advance) M B e1 (kX4_advance (v0 := v0) l D cy h _) wmX4_30 wiX4_advance wsX4_advance wnX4 wcdX4_advance ⟨rfl, by decide, by decide, by decide +kernel⟩ ⟨Nat.le_trans (by decide) hRf, Nat.le_trans (by decide) hRl⟩ ⟨Nat.le_trans (by decide) hRc, Nat.le_trans (by decide) hRs⟩ hL1 hK1 (by decide) rfl rfl rfl hl.1 rfl ct_0 (by decide) dX4_readsSpread_31) (by decide) (by decide) (fun S9 H locs h B => ?_)
    refine g_aload_n M dX4_readsSpread_34 rfl (lv_at hl 1 rfl) ?_
    refine g_aload_n M dX4_readsSpread_35 rfl (lv_at hl 0 rfl) ?_
    refine lv_iconst (v := 2) M.1 M.2.1 dX4_readsSpread_36 (by decide) ?_
    refine lv_bipush (v := 30) M.1 M.2.1 dX4_readsSpread_37 (by decide) ?_
    obtain ⟨o1, e1, hL1, hK1, h⟩ := h
    refine g_calli (k1 := 0) (k2 := 0) B (g_runV (n := 2) (As := [.int 2, .int 30]) (rm := rmX4_numberHere) M B e1 (kX4_numberHere (v0 := v0) (v1 := 2) (v2 := 30) l D cy h _) wmX4_77 wiX4_numberHere wsX4_numberHere wnX4 wcdX4_numberHere ⟨rfl, by decide, by decide, by decide +kernel⟩ ⟨Nat.le_trans (by decide) hRf, Nat.le_trans (by decide) hRl⟩ ⟨Nat.le_trans (by decide) hRc, Nat.le_trans (by decide) hRs⟩ hL1 hK1 (by decide) rfl rfl rfl hl.1 rfl (ct_r ct_0) (by decide) dX4_readsSpread_39) (by decide) (by decide) (fun a11 S10 H locs h B => ?_)
    refine gpX4_115 M B dX4_readsSpread_42 h (fun S12 H locs h B => ?_)
    refine g_aload_n M dX4_readsSpread_45 rfl (lv_at hl 1 rfl) ?_
    refine gfX4_115 M B dX4_readsSpread_46 h (fun a13 h => ?_)
    refine lv_iconst (v := (-1)) M.1 M.2.1 dX4_readsSpread_49 (by decide) ?_
    refine lv_icmp_ne (tgt := 55) M.1 M.2.1 dX4_readsSpread_50 (by decide) (fun c14 => ?_) (fun c14 => ?_)
    · have h := h.2 c14
      refine g_aload_n M dX4_readsSpread_55 rfl (lv_at hl 0 rfl) ?_
      obtain ⟨o1, e1, hL1, hK1, h⟩ := h
      refine g_callv (k1 := 0) (k2 := 0) B (g_runV (n := 0) (As := []) (rm := rmX4_advance) M B e1 (kX4_advance (v0 := v0) l D cy h _) wmX4_30 wiX4_advance wsX4_advance wnX4 wcdX4_advance ⟨rfl, by decide, by decide, by decide +kernel⟩ ⟨Nat.le_trans (by decide) hRf, Nat.le_trans (by decide) hRl⟩ ⟨Nat.le_trans (by decide) hRc, Nat.le_trans (by decide) hRs⟩ hL1 hK1 (by decide) rfl rfl rfl hl.1 rfl ct_0 (by decide) dX4_readsSpread_56) (by decide) (by decide) (fun S15 H locs h B => ?_)
      refine g_aload_n M dX4_readsSpread_59 rfl (lv_at hl 0 rfl) ?_
      refine g_ldcS (w := 5) M X (by decide) rfl dX4_readsSpread_60 ?_
      obtain ⟨o1, e1, hL1, hK1, h⟩ := h
      refine g_calli (k1 := 0) (k2 := 0) B (g_runVX (n := 1) (As := [va_rf (some (adK 5))]) (rm := rmX4_isAt) M B X e1 (kX4_isAt (v0 := v0) (v1 := 5) l D cy adK adV h _) wmX4_35 wiX4_isAt wsX4_isAt wnX4 wcdX4_isAt ⟨rfl, by decide, by decide, by decide +kernel⟩ ⟨Nat.le_trans (by decide) hRf, Nat.le_trans (by decide) hRl⟩ ⟨Nat.le_trans (by decide) hRc, Nat.le_trans (by decide) hRs⟩ hL1 hK1 (by decide) rfl rfl rfl hl.1 rfl ct_0 (by decide) dX4_readsSpread_62) (by decide) (by decide) (fun a17 S16 H locs h B => ?_)
      refine lv_if_ne (tgt := 70) M.1 M.2.1 dX4_readsSpread_65 (by decide) (fun c18 => ?_) (fun c18 => ?_)
      · have h := h.2 c18
        refine g_aload_n M dX4_readsSpread_70 rfl (lv_at hl 0 rfl) ?_
        obtain ⟨o1, e1, hL1, hK1, h⟩ := h
        refine g_callv (k1 := 0) (k2 := 0) B (g_runV (n := 0) (As := []) (rm := rmX4_advance) M B e1 (kX4_advance (v0 := v0) l D cy h _) wmX4_30 wiX4_advance wsX4_advance wnX4 wcdX4_advance ⟨rfl, by decide, by decide, by decide +kernel⟩ ⟨Nat.le_trans (by decide) hRf, Nat.le_trans (by decide) hRl⟩ ⟨Nat.le_trans (by decide) hRc, Nat.le_trans (by decide) hRs⟩ hL1 hK1 (by decide) rfl rfl rfl hl.1 rfl ct_0 (by decide) dX4_readsSpread_71) (by decide) (by decide) (fun S19 H locs h B => ?_)
        refine g_aload_n M dX4_readsSpread_74 rfl (lv_at hl 1 rfl) ?_
        refine g_aload_n M dX4_readsSpread_75 rfl (lv_at hl 0 rfl) ?_
        refine lv_iconst (v := 1) M.1 M.2.1 dX4_readsSpread_76 (by decide) ?_
        refine lv_ldc (v := 100000) M.1 M.2.1 M.2.2.2.1 (M.2.2.2.2 _ wkX4_109) dX4_readsSpread_77 ?_
        obtain ⟨o1, e1, hL1, hK1, h⟩ := h
        refine g_calli (k1 := 0) (k2 := 0) B (g_runV (n := 2) (As := [.int 1, .int 100000]) (rm := rmX4_numberHere) M B e1 (kX4_numberHere (v0 := v0) (v1 := 1) (v2 := 100000) l D cy h _) wmX4_77 wiX4_numberHere wsX4_numberHere wnX4 wcdX4_numberHere ⟨rfl, by decide, by decide, by decide +kernel⟩ ⟨Nat.le_trans (by decide) hRf, Nat.le_trans (by decide) hRl⟩ ⟨Nat.le_trans (by decide) hRc, Nat.le_trans (by decide) hRs⟩ hL1 hK1 (by decide) rfl rfl rfl hl.1 rfl (ct_r ct_0) (by decide) dX4_readsSpread_79) (by decide) (by decide) (fun a21 S20 H locs h B => ?_)
        refine gpX4_118 M B dX4_readsSpread_82 h (fun S22 H locs h B => ?_)
        refine g_aload_n M dX4_readsSpread_85 rfl (lv_at hl 1 rfl) ?_
        refine gfX4_118 M B dX4_readsSpread_86 h (fun a23 h => ?_)
        refine lv_iconst (v := (-1)) M.1 M.2.1 dX4_readsSpread_89 (by decide) ?_
        refine lv_icmp_ne (tgt := 95) M.1 M.2.1 dX4_readsSpread_90 (by decide) (fun c24 => ?_) (fun c24 => ?_)
        · have h := h.2 c24
          refine g_aload_n M dX4_readsSpread_95 rfl (lv_at hl 0 rfl) ?_
          obtain ⟨o1, e1, hL1, hK1, h⟩ := h
          refine g_callv (k1 := 0) (k2 := 0) B (g_runV (n := 0) (As := []) (rm := rmX4_advance) M B e1 (kX4_advance (v0 := v0) l D cy h _) wmX4_30 wiX4_advance wsX4_advance wnX4 wcdX4_advance ⟨rfl, by decide, by decide, by decide +kernel⟩ ⟨Nat.le_trans (by decide) hRf, Nat.le_trans (by decide) hRl⟩ ⟨Nat.le_trans (by decide) hRc, Nat.le_trans (by decide) hRs⟩ hL1 hK1 (by decide) rfl rfl rfl hl.1 rfl ct_0 (by decide) dX4_readsSpread_96) (by decide) (by decide) (fun S25 H locs h B => ?_)
          refine g_aload_n M dX4_readsSpread_99 rfl (lv_at hl 0 rfl) ?_
          refine gfX4_19 M B dX4_readsSpread_100 h (fun a26 h => ?_)
          refine lv_if_ne (tgt := 110) M.1 M.2.1 dX4_readsSpread_103 (by decide) (fun c27 => ?_) (fun c27 => ?_)
          · have h := h.2 c27
            refine lv_iconst (v := 0) M.1 M.2.1 dX4_readsSpread_110 (by decide) ?_
            exact g_zret M B hr hlk h (by decide) (by decide) dX4_readsSpread_111
          · have h := h.1 c27
            refine lv_iconst (v := 1) M.1 M.2.1 dX4_readsSpread_106 (by decide) ?_
            refine lv_goto (tgt := 111) M.1 M.2.1 dX4_readsSpread_107 (by decide) ?_
            exact g_zret M B hr hlk h (by decide) (by decide) dX4_readsSpread_111
        · have h := h.1 c24
          refine lv_iconst (v := 0) M.1 M.2.1 dX4_readsSpread_93 (by decide) ?_
          exact g_zret M B hr hlk h (by decide) (by decide) dX4_readsSpread_94
      · have h := h.1 c18
        refine lv_iconst (v := 0) M.1 M.2.1 dX4_readsSpread_68 (by decide) ?_
        exact g_zret M B hr hlk h (by decide) (by decide) dX4_readsSpread_69
    · have h := h.1 c14
      refine lv_iconst (v := 0) M.1 M.2.1 dX4_readsSpread_53 (by decide) ?_
      exact g_zret M B hr hlk h (by decide) (by decide) dX4_readsSpread_54
  · have h := h.1 c6
    refine lv_iconst (v := 0) M.1 M.2.1 dX4_readsSpread_20 (by decide) ?_
    exact g_zret M B hr hlk h (by decide) (by decide) dX4_readsSpread_21
end
set_option maxRecDepth 100000 in
set_option maxHeartbeats 4000000 in
theorem kX4_readsSpread (l : Launch) (D : va_G) (cy : Nat → ClassId) (adK adV : Nat → Nat) {post : Int32 → Pool → Prop} {v0 : Option Nat} {v1 : Option Nat} {S : Pool} (h : wX4_readsSpread post v0 v1 S) : MetIX l adK adV yX4_readsSpread cX4_readsSpread 2 (some FieldType.boolean) rmX4_readsSpread [va_rf v0, va_rf v1] D cy S post := by
  intro sz
  refine Met.ofW (cc := cX4_readsSpread) (maxL := 2) (ret := (some FieldType.boolean)) (by decide) rfl ?_
  intro p e s m args below meth c s₁ B0 hml hv
  obtain ⟨rfl, hpp⟩ := hv
  have hts := atoms_spec (ws := .code yX4_readsSpread cX4_readsSpread 2 (some FieldType.boolean) :: Gw) B0.pre
  obtain rfl : s.heap.size = sz := hpp.1.1
  have hl := lv_entry [va_rf v0, va_rf v1] (n := 2) (by rw [sl_r, sl_r, sl_0]; decide)
  rw [lg_entry_eq]
  rw [la_r, la_r, la_0] at hl
  exact tX4_readsSpread (l := l) (R := rmX4_readsSpread) ⟨B0.exec, B0.bytes, hml, findClass_of_methodNamed B0.named, fun w hw => hts w (List.mem_cons_of_mem _ hw)⟩ B0.returns B0.notSynchronized (Nat.le_refl _) (Nat.le_refl _) (Nat.le_refl _) (Nat.le_refl _) hpp.ex _ _ _ h _ _ _ hpp.1.pb (lv_sub hl [0, 1] rfl)
-- X4_readsConds: LogHunt$Reader.readsConds(LLogHunt$Question;LLogHunt$Step;)Z
def wX4_readsConds_49 (K2 : Option Nat → Option Nat → Option Nat → Int32 → Pool → Prop) (post : Int32 → Pool → Prop) (v0 : Option Nat) (v1 : Option Nat) (v2 : Option Nat) (v3 : Int32) (v4 : Int32) (z0 : Int32) (z1 : Int32) (z2 : Option Nat) (S : Pool) : Prop := xrc S z2 4 (wX4_numberHere (fun a2 S1 => br (a2 = ((-1))) (((0 : Int32) = 0 ∨ (0 : Int32) = 1) ∧ post (0 : Int32) S1) (xrc S1 v2 5 (wX5_tell (fun S4 => xrc S4 v1 3 (wX3_note (fun S5 => xrc S5 v0 4 (wX4_advance (fun S6 => K2 v0 v1 v2 (v3 + 1) S6) v0 S5)) v1 v4 S4)) v2 v4 a2 S1))) z2 z1 z0 S)
def wX4_readsConds_2 (post : Int32 → Pool → Prop) : Nat → Option Nat → Option Nat → Option Nat → Int32 → Pool → Prop
  | 0 => fun _ _ _ _ _ => False
  | n + 1 => fun v0 v1 v2 v3 S => br (3 ≤ v3) (((1 : Int32) = 0 ∨ (1 : Int32) = 1) ∧ post (1 : Int32) S) (xrc S v0 4 (wX4_fieldHere (fun a3 S2 => br (a3 = ((-1))) (((1 : Int32) = 0 ∨ (1 : Int32) = 1) ∧ post (1 : Int32) S2) (xrc S2 v2 5 (wX5_tells (fun a6 S5 => br (a6 = 0) (xrc S5 v0 4 (wX4_advance (fun S8 => br (a3 = 2) (wX4_readsConds_49 (wX4_readsConds_2 post n) post v0 v1 v2 v3 a3 15 0 v0 S8) (wX4_readsConds_49 (wX4_readsConds_2 post n) post v0 v1 v2 v3 a3 30 0 v0 S8)) v0 S5)) (((1 : Int32) = 0 ∨ (1 : Int32) = 1) ∧ post (1 : Int32) S5)) v2 a3 S2))) v0 S))
def wX4_readsConds (post : Int32 → Pool → Prop) (v0 : Option Nat) (v1 : Option Nat) (v2 : Option Nat) (S : Pool) : Prop := ∃ n1, wX4_readsConds_2 post n1 v0 v1 v2 0 S
def rmX4_readsConds : Room := { frames := 6, cells := 0, slots := 0, locals := 128 }
section
variable {p : Program} {l : Launch} {e : Env} {R : Room} {s : State} {m : MethodId} {args : Array Value} {below : List Frame} {meth : Method} {c : Code} {D : va_G} {cy : Nat → ClassId} {A : Nat → Prop} {adK adV : Nat → Nat}
set_option maxRecDepth 100000 in
set_option maxHeartbeats 4000000 in
theorem tX4_readsConds_49 {K2 : Option Nat → Option Nat → Option Nat → Int32 → Pool → Prop} {post : Int32 → Pool → Prop} (M : MC p m c cX4_readsConds 6 s args RX4) (hr : meth.sig.returnType = (some FieldType.boolean)) (hlk : meth.locks = false) (hRf : 6 ≤ R.frames) (hRl : 128 ≤ R.locals) (hRc : 0 ≤ R.cells) (hRs : 0 ≤ R.slots) (X : EX adK adV A s) (hK2 : ∀ (v0 : Option Nat) (v1 : Option Nat) (v2 : Option Nat) (v3 : Int32) (S : Pool), K2 v0 v1 v2 v3 S → ∀ (H : Heap) (locs : List Loc) (ls : Array Slot), PB D cy A s S H locs → lv_has ls 6 [(0, va_rf v0), (1, va_rf v1), (2, va_rf v2), (3, .int v3)] → W p l e R s m args below meth c H locs 0 0 (MQ below (va_Qi post (PQ D cy A) A) args s 0 0 A) (F0 m 2 ls [])) : ∀ (v0 : Option Nat) (v1 : Option Nat) (v2 : Option Nat) (v3 : Int32) (v4 : Int32) (z0 : Int32) (z1 : Int32) (z2 : Option Nat) (S : Pool), wX4_readsConds_49 K2 post v0 v1 v2 v3 v4 z0 z1 z2 S → ∀ (H : Heap) (locs : List Loc) (ls : Array Slot), PB D cy A s S H locs → lv_has ls 6 [(0, va_rf v0), (1, va_rf v1), (2, va_rf v2), (3, .int v3), (4, .int v4)] → W p l e R s m args below meth c H locs 0 0 (MQ below (va_Qi post (PQ D cy A) A) args s 0 0 A) (F0 m 49 ls [.int z0, .int z1, va_rf z2]) := by
  intro v0 v1 v2 v3 v4 z0 z1 z2 S h H locs ls B hl
  unfold wX4_readsConds_49 at h
  obtain ⟨o1, e1, hL1, hK1, h⟩ := h
  refine g_calli (k1 := 0) (k2 := 0) B (g_runV (n := 2) (As := [.int z1, .int z0]) (rm := rmX4_numberHere) M B e1 (kX4_numberHere (v0 := z2) (v1 := z1) (v2 := z0) l D cy h _) wmX4_77 wiX4_numberHere wsX4_numberHere wnX4 wcdX4_numberHere ⟨rfl, by decide, by decide, by decide +kernel⟩ ⟨Nat.le_trans (by decide) hRf, Nat.le_trans (by decide) hRl⟩ ⟨Nat.le_trans (by decide) hRc, Nat.le_trans (by decide) hRs⟩ hL1 hK1 (by decide) rfl rfl rfl hl.1 rfl ct_0 (by decide) dX4_readsConds_49) (by decide) (by decide) (fun a2 S1 H locs h B => ?_)
  refine lv_istore (lv' := [(5, .int a2), (0, va_rf v0), (1, va_rf v1), (2, va_rf v2), (3, .int v3), (4, .int v4)]) M.1 M.2.1 dX4_readsConds_52 hl (by decide) (fl_e (fl_k rfl rfl (fl_k rfl rfl (fl_k rfl rfl (fl_k rfl rfl (fl_i rfl fl_0)))))) (fun ls hl => ?_)
  refine lv_iload M.1 M.2.1 dX4_readsConds_54 (lv_at hl 0 rfl) ?_
  refine lv_iconst (v := (-1)) M.1 M.2.1 dX4_readsConds_56 (by decide) ?_
  refine lv_icmp_ne (tgt := 62) M.1 M.2.1 dX4_readsConds_57 (by decide) (fun c3 => ?_) (fun c3 => ?_)
  · have h := h.2 c3
    refine g_aload_n M dX4_readsConds_62 rfl (lv_at hl 3 rfl) ?_
    refine lv_iload M.1 M.2.1 dX4_readsConds_63 (lv_at hl 5 rfl) ?_
    refine lv_iload M.1 M.2.1 dX4_readsConds_65 (lv_at hl 0 rfl) ?_
    obtain ⟨o1, e1, hL1, hK1, h⟩ := h
    refine g_callv (k1 := 0) (k2 := 0) B (g_runV (n := 2) (As := [.int v4, .int a2]) (rm := rmX5_tell) M B e1 (kX5_tell (v0 := v2) (v1 := v4) (v2 := a2) l D cy h _) wmX4_97 wiX5_tell wsX5_tell wnX5 wcdX5_tell ⟨rfl, by decide, by decide, by decide +kernel⟩ ⟨Nat.le_trans (by decide) hRf, Nat.le_trans (by decide) hRl⟩ ⟨Nat.le_trans (by decide) hRc, Nat.le_trans (by decide) hRs⟩ hL1 hK1 (by decide) rfl rfl rfl hl.1 rfl ct_0 (by decide) dX4_readsConds_67) (by decide) (by decide) (fun S4 H locs h B => ?_)
    refine g_aload_n M dX4_readsConds_70 rfl (lv_at hl 2 rfl) ?_
    refine lv_iload M.1 M.2.1 dX4_readsConds_71 (lv_at hl 5 rfl) ?_
    obtain ⟨o1, e1, hL1, hK1, h⟩ := h
    refine g_callv (k1 := 0) (k2 := 0) B (g_runV (n := 1) (As := [.int v4]) (rm := rmX3_note) M B e1 (kX3_note (v0 := v1) (v1 := v4) l D cy h _) wmX4_69 wiX3_note wsX3_note wnX3 wcdX3_note ⟨rfl, by decide, by decide, by decide +kernel⟩ ⟨Nat.le_trans (by decide) hRf, Nat.le_trans (by decide) hRl⟩ ⟨Nat.le_trans (by decide) hRc, Nat.le_trans (by decide) hRs⟩ hL1 hK1 (by decide) rfl rfl rfl hl.1 rfl ct_0 (by decide) dX4_readsConds_73) (by decide) (by decide) (fun S5 H locs h B => ?_)
    refine g_aload_n M dX4_readsConds_76 rfl (lv_at hl 1 rfl) ?_
    obtain ⟨o1, e1, hL1, hK1, h⟩ := h
    refine g_callv (k1 := 0) (k2 := 0) B (g_runV (n := 0) (As := []) (rm := rmX4_advance) M B e1 (kX4_advance (v0 := v0) l D cy h _) wmX4_30 wiX4_advance wsX4_advance wnX4 wcdX4_advance ⟨rfl, by decide, by decide, by decide +kernel⟩ ⟨Nat.le_trans (by decide) hRf, Nat.le_trans (by decide) hRl⟩ ⟨Nat.le_trans (by decide) hRc, Nat.le_trans (by decide) hRs⟩ hL1 hK1 (by decide) rfl rfl rfl hl.1 rfl ct_0 (by decide) dX4_readsConds_77) (by decide) (by decide) (fun S6 H locs h B => ?_)
    refine lv_iinc (v := v3 + 1) (lv' := [(3, .int (v3 + 1)), (5, .int a2), (0, va_rf v0), (1, va_rf v1), (2, va_rf v2), (4, .int v4)]) M.1 M.2.1 dX4_readsConds_80 hl (k := 4) rfl (by rfl) (by decide) (fl_e (fl_k rfl rfl (fl_k rfl rfl (fl_k rfl rfl (fl_r rfl (fl_d rfl (fl_k rfl rfl fl_0))))))) (fun ls hl => ?_)
    refine lv_goto (tgt := 2) M.1 M.2.1 dX4_readsConds_83 (by decide) ?_
    exact hK2 _ _ _ _ _ h _ _ _ B (lv_sub hl [2, 3, 4, 0] rfl)
  · have h := h.1 c3
    refine lv_iconst (v := 0) M.1 M.2.1 dX4_readsConds_60 (by decide) ?_
    exact g_zret M B hr hlk h (by decide) (by decide) dX4_readsConds_61
set_option maxRecDepth 100000 in
set_option maxHeartbeats 4000000 in
theorem tX4_readsConds_2 {post : Int32 → Pool → Prop} (M : MC p m c cX4_readsConds 6 s args RX4) (hr : meth.sig.returnType = (some FieldType.boolean)) (hlk : meth.locks = false) (hRf : 6 ≤ R.frames) (hRl : 128 ≤ R.locals) (hRc : 0 ≤ R.cells) (hRs : 0 ≤ R.slots) (X : EX adK adV A s) : ∀ (n : Nat) (v0 : Option Nat) (v1 : Option Nat) (v2 : Option Nat) (v3 : Int32) (S : Pool), wX4_readsConds_2 post n v0 v1 v2 v3 S → ∀ (H : Heap) (locs : List Loc) (ls : Array Slot), PB D cy A s S H locs → lv_has ls 6 [(0, va_rf v0), (1, va_rf v1), (2, va_rf v2), (3, .int v3)] → W p l e R s m args below meth c H locs 0 0 (MQ below (va_Qi post (PQ D cy A) A) args s 0 0 A) (F0 m 2 ls []) := by
  intro n
  induction n with
  | zero => intro v0 v1 v2 v3 S h; exact False.elim h
  | succ n ih =>
    intro v0 v1 v2 v3 S h H locs ls B hl
    unfold wX4_readsConds_2 at h
    refine lv_iload_n M.1 M.2.1 dX4_readsConds_2 rfl (lv_at hl 3 rfl) ?_
    refine lv_iconst (v := 3) M.1 M.2.1 dX4_readsConds_3 (by decide) ?_
    refine lv_icmp_ge (tgt := 86) M.1 M.2.1 dX4_readsConds_4 (by decide) (fun c1 => ?_) (fun c1 => ?_)
    · have h := h.1 c1
      refine lv_iconst (v := 1) M.1 M.2.1 dX4_readsConds_86 (by decide) ?_
      exact g_zret M B hr hlk h (by decide) (by decide) dX4_readsConds_87
    · have h := h.2 c1
      refine g_aload_n M dX4_readsConds_7 rfl (lv_at hl 0 rfl) ?_
      obtain ⟨o1, e1, hL1, hK1, h⟩ := h
      refine g_calli (k1 := 0) (k2 := 0) B (g_runVX (n := 0) (As := []) (rm := rmX4_fieldHere) M B X e1 (kX4_fieldHere (v0 := v0) l D cy adK adV h _) wmX4_63 wiX4_fieldHere wsX4_fieldHere wnX4 wcdX4_fieldHere ⟨rfl, by decide, by decide, by decide +kernel⟩ ⟨Nat.le_trans (by decide) hRf, Nat.le_trans (by decide) hRl⟩ ⟨Nat.le_trans (by decide) hRc, Nat.le_trans (by decide) hRs⟩ hL1 hK1 (by decide) rfl rfl rfl hl.1 rfl ct_0 (by decide) dX4_readsConds_8) (by decide) (by decide) (fun a3 S2 H locs h B => ?_)
      refine lv_istore (lv' := [(4, .int a3), (0, va_rf v0), (1, va_rf v1), (2, va_rf v2), (3, .int v3)]) M.1 M.2.1 dX4_readsConds_11 hl (by decide) (fl_e (fl_k rfl rfl (fl_k rfl rfl (fl_k rfl rfl (fl_i rfl fl_0))))) (fun ls hl => ?_)
      refine lv_iload M.1 M.2.1 dX4_readsConds_13 (lv_at hl 0 rfl) ?_
      refine lv_iconst (v := (-1)) M.1 M.2.1 dX4_readsConds_15 (by decide) ?_
      refine lv_icmp_eq (tgt := 28) M.1 M.2.1 dX4_readsConds_16 (by decide) (fun c4 => ?_) (fun c4 => ?_)
      · have h := h.1 c4
        refine lv_iconst (v := 1) M.1 M.2.1 dX4_readsConds_28 (by decide) ?_
        exact g_zret M B hr hlk h (by decide) (by decide) dX4_readsConds_29
      · have h := h.2 c4
        refine g_aload_n M dX4_readsConds_19 rfl (lv_at hl 3 rfl) ?_
        refine lv_iload M.1 M.2.1 dX4_readsConds_20 (lv_at hl 0 rfl) ?_
        obtain ⟨o1, e1, hL1, hK1, h⟩ := h
        refine g_calli (k1 := 0) (k2 := 0) B (g_runV (n := 1) (As := [.int a3]) (rm := rmX5_tells) M B e1 (kX5_tells (v0 := v2) (v1 := a3) l D cy h _) wmX4_93 wiX5_tells wsX5_tells wnX5 wcdX5_tells ⟨rfl, by decide, by decide, by decide +kernel⟩ ⟨Nat.le_trans (by decide) hRf, Nat.le_trans (by decide) hRl⟩ ⟨Nat.le_trans (by decide) hRc, Nat.le_trans (by decide) hRs⟩ hL1 hK1 (by decide) rfl rfl rfl hl.1 rfl ct_0 (by decide) dX4_readsConds_22) (by decide) (by decide) (fun a6 S5 H locs h B => ?_)
        refine lv_if_eq (tgt := 30) M.1 M.2.1 dX4_readsConds_25 (by decide) (fun c7 => ?_) (fun c7 => ?_)
        · have h := h.1 c7
          refine g_aload_n M dX4_readsConds_30 rfl (lv_at hl 1 rfl) ?_
          obtain ⟨o1, e1, hL1, hK1, h⟩ := h
          refine g_callv (k1 := 0) (k2 := 0) B (g_runV (n := 0) (As := []) (rm := rmX4_advance) M B e1 (kX4_advance (v0 := v0) l D cy h _) wmX4_30 wiX4_advance wsX4_advance wnX4 wcdX4_advance ⟨rfl, by decide, by decide, by decide +kernel⟩ ⟨Nat.le_trans (by decide) hRf, Nat.le_trans (by decide) hRl⟩ ⟨Nat.le_trans (by decide) hRc, Nat.le_trans (by decide) hRs⟩ hL1 hK1 (by decide) rfl rfl rfl hl.1 rfl ct_0 (by decide) dX4_readsConds_31) (by decide) (by decide) (fun S8 H locs h B => ?_)
          refine g_aload_n M dX4_readsConds_34 rfl (lv_at hl 1 rfl) ?_
          refine lv_iconst (v := 0) M.1 M.2.1 dX4_readsConds_35 (by decide) ?_
          refine lv_iload M.1 M.2.1 dX4_readsConds_36 (lv_at hl 0 rfl) ?_
          refine lv_iconst (v := 2) M.1 M.2.1 dX4_readsConds_38 (by decide) ?_
          refine lv_icmp_ne (tgt := 47) M.1 M.2.1 dX4_readsConds_39 (by decide) (fun c9 => ?_) (fun c9 => ?_)
          · have h := h.2 c9
            refine lv_bipush (v := 30) M.1 M.2.1 dX4_readsConds_47 (by decide) ?_
            exact tX4_readsConds_49 M hr hlk hRf hRl hRc hRs X ih _ _ _ _ _ _ _ _ _ h _ _ _ B (lv_sub hl [1, 2, 3, 4, 0] rfl)
          · have h := h.1 c9
            refine lv_bipush (v := 15) M.1 M.2.1 dX4_readsConds_42 (by decide) ?_
            refine lv_goto (tgt := 49) M.1 M.2.1 dX4_readsConds_44 (by decide) ?_
            exact tX4_readsConds_49 M hr hlk hRf hRl hRc hRs X ih _ _ _ _ _ _ _ _ _ h _ _ _ B (lv_sub hl [1, 2, 3, 4, 0] rfl)
        · have h := h.2 c7
          refine lv_iconst (v := 1) M.1 M.2.1 dX4_readsConds_28 (by decide) ?_
          exact g_zret M B hr hlk h (by decide) (by decide) dX4_readsConds_29
set_option maxRecDepth 100000 in
set_option maxHeartbeats 4000000 in
theorem tX4_readsConds {post : Int32 → Pool → Prop} (M : MC p m c cX4_readsConds 6 s args RX4) (hr : meth.sig.returnType = (some FieldType.boolean)) (hlk : meth.locks = false) (hRf : 6 ≤ R.frames) (hRl : 128 ≤ R.locals) (hRc : 0 ≤ R.cells) (hRs : 0 ≤ R.slots) (X : EX adK adV A s) : ∀ (v0 : Option Nat) (v1 : Option Nat) (v2 : Option Nat) (S : Pool), wX4_readsConds post v0 v1 v2 S → ∀ (H : Heap) (locs : List Loc) (ls : Array Slot), PB D cy A s S H locs → lv_has ls 6 [(0, va_rf v0), (1, va_rf v1), (2, va_rf v2)] → W p l e R s m args below meth c H locs 0 0 (MQ below (va_Qi post (PQ D cy A) A) args s 0 0 A) (F0 m 0 ls []) := by
  intro v0 v1 v2 S h H locs ls B hl
  unfold wX4_readsConds at h
  refine lv_iconst (v := 0) M.1 M.2.1 dX4_readsConds_0 (by decide) ?_
  refine lv_istore_n (lv' := [(3, .int 0), (0, va_rf v0), (1, va_rf v1), (2, va_rf v2)]) M.1 M.2.1 dX4_readsConds_1 rfl hl (by decide) (fl_e (fl_k rfl rfl (fl_k rfl rfl (fl_r rfl fl_0)))) (fun ls hl => ?_)
  obtain ⟨n1, h⟩ := h
  exact tX4_readsConds_2 M hr hlk hRf hRl hRc hRs X n1 _ _ _ _ _ h _ _ _ B (lv_sub hl [1, 2, 3, 0] rfl)
end
set_option maxRecDepth 100000 in
set_option maxHeartbeats 4000000 in
theorem kX4_readsConds (l : Launch) (D : va_G) (cy : Nat → ClassId) (adK adV : Nat → Nat) {post : Int32 → Pool → Prop} {v0 : Option Nat} {v1 : Option Nat} {v2 : Option Nat} {S : Pool} (h : wX4_readsConds post v0 v1 v2 S) : MetIX l adK adV yX4_readsConds cX4_readsConds 6 (some FieldType.boolean) rmX4_readsConds [va_rf v0, va_rf v1, va_rf v2] D cy S post := by
  intro sz
  refine Met.ofW (cc := cX4_readsConds) (maxL := 6) (ret := (some FieldType.boolean)) (by decide) rfl ?_
  intro p e s m args below meth c s₁ B0 hml hv
  obtain ⟨rfl, hpp⟩ := hv
  have hts := atoms_spec (ws := .code yX4_readsConds cX4_readsConds 6 (some FieldType.boolean) :: Gw) B0.pre
  obtain rfl : s.heap.size = sz := hpp.1.1
  have hl := lv_entry [va_rf v0, va_rf v1, va_rf v2] (n := 6) (by rw [sl_r, sl_r, sl_r, sl_0]; decide)
  rw [lg_entry_eq]
  rw [la_r, la_r, la_r, la_0] at hl
  exact tX4_readsConds (l := l) (R := rmX4_readsConds) ⟨B0.exec, B0.bytes, hml, findClass_of_methodNamed B0.named, fun w hw => hts w (List.mem_cons_of_mem _ hw)⟩ B0.returns B0.notSynchronized (Nat.le_refl _) (Nat.le_refl _) (Nat.le_refl _) (Nat.le_refl _) hpp.ex _ _ _ _ h _ _ _ hpp.1.pb (lv_sub hl [0, 1, 2] rfl)
-- X4_readsTail: LogHunt$Reader.readsTail(LLogHunt$Step;Z)Z
def wX4_readsTail_126 (post : Int32 → Pool → Prop) (z0 : Int32) (z1 : Option Nat) (S : Pool) : Prop := xpZ S z1 4 5 z0 fun S1 => ((1 : Int32) = 0 ∨ (1 : Int32) = 1) ∧ post (1 : Int32) S1
def wX4_readsTail_125 (post : Int32 → Pool → Prop) (z0 : Option Nat) (S : Pool) : Prop := wX4_readsTail_126 post 0 z0 S
def wX4_readsTail_121 (post : Int32 → Pool → Prop) (z0 : Option Nat) (S : Pool) : Prop := wX4_readsTail_126 post 1 z0 S
def wX4_readsTail_95 (post : Int32 → Pool → Prop) (v0 : Option Nat) (v1 : Option Nat) (z0 : Int32) (z1 : Option Nat) (S : Pool) : Prop := xpZ S z1 4 4 z0 fun S1 => xI S1 v1 5 4 fun a2 => br (a2 = 0) (wX4_readsTail_125 post v0 S1) (xI S1 v0 4 5 fun a4 => br (a4 = 0) (xI S1 v1 5 6 fun a6 => br (a6 = ((-1))) (wX4_readsTail_121 post v0 S1) (wX4_readsTail_125 post v0 S1)) (wX4_readsTail_121 post v0 S1))
def wX4_readsTail_94 (post : Int32 → Pool → Prop) (v0 : Option Nat) (v1 : Option Nat) (z0 : Option Nat) (S : Pool) : Prop := wX4_readsTail_95 post v0 v1 0 z0 S
def wX4_readsTail_90 (post : Int32 → Pool → Prop) (v0 : Option Nat) (v1 : Option Nat) (z0 : Option Nat) (S : Pool) : Prop := wX4_readsTail_95 post v0 v1 1 z0 S
def wX4_readsTail_67 (post : Int32 → Pool → Prop) (v0 : Option Nat) (v1 : Option Nat) (S : Pool) : Prop := xI S v1 5 4 fun a1 => br (a1 = 0) (wX4_readsTail_94 post v0 v1 v0 S) (xI S v0 4 4 fun a3 => br (a3 = 0) (xI S v1 5 6 fun a5 => br (a5 = ((-1))) (wX4_readsTail_94 post v0 v1 v0 S) (wX4_readsTail_90 post v0 v1 v0 S)) (wX4_readsTail_90 post v0 v1 v0 S))
def wX4_readsTail_25 (post : Int32 → Pool → Prop) (v0 : Option Nat) (v1 : Option Nat) (v2 : Int32) (S : Pool) : Prop := br (v2 = 0) (xrc S v0 4 (wX4_isAt (fun a3 S2 => br (a3 = 0) (wX4_readsTail_67 post v0 v1 S2) (xrc S2 v0 4 (wX4_advance (fun S5 => xrc S5 v0 4 (wX4_numberHere (fun a7 S6 => xpI S6 v1 5 6 a7 fun S8 => xI S8 v1 5 6 fun a9 => br (a9 = ((-1))) (((0 : Int32) = 0 ∨ (0 : Int32) = 1) ∧ post (0 : Int32) S8) (xrc S8 v0 4 (wX4_advance (fun S11 => wX4_readsTail_67 post v0 v1 S11) v0 S8))) v0 1 100000 S5)) v0 S2))) v0 5 S)) (wX4_readsTail_67 post v0 v1 S)
def wX4_readsTail (post : Int32 → Pool → Prop) (v0 : Option Nat) (v1 : Option Nat) (v2 : Int32) (S : Pool) : Prop := xI S v1 5 4 fun a1 => br (a1 = 0) (xrc S v0 4 (wX4_isAt (fun a4 S3 => br (a4 = 0) (wX4_readsTail_25 post v0 v1 v2 S3) (xpZ S3 v1 5 5 1 fun S6 => xrc S6 v0 4 (wX4_advance (fun S7 => wX4_readsTail_25 post v0 v1 v2 S7) v0 S6))) v0 8 S)) (wX4_readsTail_25 post v0 v1 v2 S)
def rmX4_readsTail : Room := { frames := 5, cells := 0, slots := 0, locals := 108 }
section
variable {p : Program} {l : Launch} {e : Env} {R : Room} {s : State} {m : MethodId} {args : Array Value} {below : List Frame} {meth : Method} {c : Code} {D : va_G} {cy : Nat → ClassId} {A : Nat → Prop} {adK adV : Nat → Nat}
set_option maxRecDepth 100000 in
set_option maxHeartbeats 4000000 in
theorem tX4_readsTail_126 {post : Int32 → Pool → Prop} (M : MC p m c cX4_readsTail 3 s args RX4) (hr : meth.sig.returnType = (some FieldType.boolean)) (hlk : meth.locks = false) (hRf : 5 ≤ R.frames) (hRl : 108 ≤ R.locals) (hRc : 0 ≤ R.cells) (hRs : 0 ≤ R.slots) (X : EX adK adV A s) : ∀ (z0 : Int32) (z1 : Option Nat) (S : Pool), wX4_readsTail_126 post z0 z1 S → ∀ (H : Heap) (locs : List Loc) (ls : Array Slot), PB D cy A s S H locs → lv_has ls 3 [] → W p l e R s m args below meth c H locs 0 0 (MQ below (va_Qi post (PQ D cy A) A) args s 0 0 A) (F0 m 126 ls [.int z0, va_rf z1]) := by
  intro z0 z1 S h H locs ls B hl
  unfold wX4_readsTail_126 at h
  refine gpX4_23 M B dX4_readsTail_126 h (fun S1 H locs h B => ?_)
  refine lv_iconst (v := 1) M.1 M.2.1 dX4_readsTail_129 (by decide) ?_
  exact g_zret M B hr hlk h (by decide) (by decide) dX4_readsTail_130
set_option maxRecDepth 100000 in
set_option maxHeartbeats 4000000 in
theorem tX4_readsTail_125 {post : Int32 → Pool → Prop} (M : MC p m c cX4_readsTail 3 s args RX4) (hr : meth.sig.returnType = (some FieldType.boolean)) (hlk : meth.locks = false) (hRf : 5 ≤ R.frames) (hRl : 108 ≤ R.locals) (hRc : 0 ≤ R.cells) (hRs : 0 ≤ R.slots) (X : EX adK adV A s) : ∀ (z0 : Option Nat) (S : Pool), wX4_readsTail_125 post z0 S → ∀ (H : Heap) (locs : List Loc) (ls : Array Slot), PB D cy A s S H locs → lv_has ls 3 [] → W p l e R s m args below meth c H locs 0 0 (MQ below (va_Qi post (PQ D cy A) A) args s 0 0 A) (F0 m 125 ls [va_rf z0]) := by
  intro z0 S h H locs ls B hl
  unfold wX4_readsTail_125 at h
  refine lv_iconst (v := 0) M.1 M.2.1 dX4_readsTail_125 (by decide) ?_
  exact tX4_readsTail_126 M hr hlk hRf hRl hRc hRs X _ _ _ h _ _ _ B (lv_sub hl [] rfl)
set_option maxRecDepth 100000 in
set_option maxHeartbeats 4000000 in
theorem tX4_readsTail_121 {post : Int32 → Pool → Prop} (M : MC p m c cX4_readsTail 3 s args RX4) (hr : meth.sig.returnType = (some FieldType.boolean)) (hlk : meth.locks = false) (hRf : 5 ≤ R.frames) (hRl : 108 ≤ R.locals) (hRc : 0 ≤ R.cells) (hRs : 0 ≤ R.slots) (X : EX adK adV A s) : ∀ (z0 : Option Nat) (S : Pool), wX4_readsTail_121 post z0 S → ∀ (H : Heap) (locs : List Loc) (ls : Array Slot), PB D cy A s S H locs → lv_has ls 3 [] → W p l e R s m args below meth c H locs 0 0 (MQ below (va_Qi post (PQ D cy A) A) args s 0 0 A) (F0 m 121 ls [va_rf z0]) := by
  intro z0 S h H locs ls B hl
  unfold wX4_readsTail_121 at h
  refine lv_iconst (v := 1) M.1 M.2.1 dX4_readsTail_121 (by decide) ?_
  refine lv_goto (tgt := 126) M.1 M.2.1 dX4_readsTail_122 (by decide) ?_
  exact tX4_readsTail_126 M hr hlk hRf hRl hRc hRs X _ _ _ h _ _ _ B (lv_sub hl [] rfl)
set_option maxRecDepth 100000 in
set_option maxHeartbeats 4000000 in
theorem tX4_readsTail_95 {post : Int32 → Pool → Prop} (M : MC p m c cX4_readsTail 3 s args RX4) (hr : meth.sig.returnType = (some FieldType.boolean)) (hlk : meth.locks = false) (hRf : 5 ≤ R.frames) (hRl : 108 ≤ R.locals) (hRc : 0 ≤ R.cells) (hRs : 0 ≤ R.slots) (X : EX adK adV A s) : ∀ (v0 : Option Nat) (v1 : Option Nat) (z0 : Int32) (z1 : Option Nat) (S : Pool), wX4_readsTail_95 post v0 v1 z0 z1 S → ∀ (H : Heap) (locs : List Loc) (ls : Array Slot), PB D cy A s S H locs → lv_has ls 3 [(0, va_rf v0), (1, va_rf v1)] → W p l e R s m args below meth c H locs 0 0 (MQ below (va_Qi post (PQ D cy A) A) args s 0 0 A) (F0 m 95 ls [.int z0, va_rf z1]) := by
  intro v0 v1 z0 z1 S h H locs ls B hl
  unfold wX4_readsTail_95 at h
  refine gpX4_55 M B dX4_readsTail_95 h (fun S1 H locs h B => ?_)
  refine g_aload_n M dX4_readsTail_98 rfl (lv_at hl 0 rfl) ?_
  refine g_aload_n M dX4_readsTail_99 rfl (lv_at hl 1 rfl) ?_
  refine gfX4_101 M B dX4_readsTail_100 h (fun a2 h => ?_)
  refine lv_if_eq (tgt := 125) M.1 M.2.1 dX4_readsTail_103 (by decide) (fun c3 => ?_) (fun c3 => ?_)
  · have h := h.1 c3
    exact tX4_readsTail_125 M hr hlk hRf hRl hRc hRs X _ _ h _ _ _ B (lv_sub hl [] rfl)
  · have h := h.2 c3
    refine g_aload_n M dX4_readsTail_106 rfl (lv_at hl 0 rfl) ?_
    refine gfX4_23 M B dX4_readsTail_107 h (fun a4 h => ?_)
    refine lv_if_ne (tgt := 121) M.1 M.2.1 dX4_readsTail_110 (by decide) (fun c5 => ?_) (fun c5 => ?_)
    · have h := h.2 c5
      exact tX4_readsTail_121 M hr hlk hRf hRl hRc hRs X _ _ h _ _ _ B (lv_sub hl [] rfl)
    · have h := h.1 c5
      refine g_aload_n M dX4_readsTail_113 rfl (lv_at hl 1 rfl) ?_
      refine gfX4_110 M B dX4_readsTail_114 h (fun a6 h => ?_)
      refine lv_iconst (v := (-1)) M.1 M.2.1 dX4_readsTail_117 (by decide) ?_
      refine lv_icmp_ne (tgt := 125) M.1 M.2.1 dX4_readsTail_118 (by decide) (fun c7 => ?_) (fun c7 => ?_)
      · have h := h.2 c7
        exact tX4_readsTail_125 M hr hlk hRf hRl hRc hRs X _ _ h _ _ _ B (lv_sub hl [] rfl)
      · have h := h.1 c7
        exact tX4_readsTail_121 M hr hlk hRf hRl hRc hRs X _ _ h _ _ _ B (lv_sub hl [] rfl)
set_option maxRecDepth 100000 in
set_option maxHeartbeats 4000000 in
theorem tX4_readsTail_94 {post : Int32 → Pool → Prop} (M : MC p m c cX4_readsTail 3 s args RX4) (hr : meth.sig.returnType = (some FieldType.boolean)) (hlk : meth.locks = false) (hRf : 5 ≤ R.frames) (hRl : 108 ≤ R.locals) (hRc : 0 ≤ R.cells) (hRs : 0 ≤ R.slots) (X : EX adK adV A s) : ∀ (v0 : Option Nat) (v1 : Option Nat) (z0 : Option Nat) (S : Pool), wX4_readsTail_94 post v0 v1 z0 S → ∀ (H : Heap) (locs : List Loc) (ls : Array Slot), PB D cy A s S H locs → lv_has ls 3 [(0, va_rf v0), (1, va_rf v1)] → W p l e R s m args below meth c H locs 0 0 (MQ below (va_Qi post (PQ D cy A) A) args s 0 0 A) (F0 m 94 ls [va_rf z0]) := by
  intro v0 v1 z0 S h H locs ls B hl
  unfold wX4_readsTail_94 at h
  refine lv_iconst (v := 0) M.1 M.2.1 dX4_readsTail_94 (by decide) ?_
  exact tX4_readsTail_95 M hr hlk hRf hRl hRc hRs X _ _ _ _ _ h _ _ _ B (lv_sub hl [0, 1] rfl)
set_option maxRecDepth 100000 in
set_option maxHeartbeats 4000000 in
theorem tX4_readsTail_90 {post : Int32 → Pool → Prop} (M : MC p m c cX4_readsTail 3 s args RX4) (hr : meth.sig.returnType = (some FieldType.boolean)) (hlk : meth.locks = false) (hRf : 5 ≤ R.frames) (hRl : 108 ≤ R.locals) (hRc : 0 ≤ R.cells) (hRs : 0 ≤ R.slots) (X : EX adK adV A s) : ∀ (v0 : Option Nat) (v1 : Option Nat) (z0 : Option Nat) (S : Pool), wX4_readsTail_90 post v0 v1 z0 S → ∀ (H : Heap) (locs : List Loc) (ls : Array Slot), PB D cy A s S H locs → lv_has ls 3 [(0, va_rf v0), (1, va_rf v1)] → W p l e R s m args below meth c H locs 0 0 (MQ below (va_Qi post (PQ D cy A) A) args s 0 0 A) (F0 m 90 ls [va_rf z0]) := by
  intro v0 v1 z0 S h H locs ls B hl
  unfold wX4_readsTail_90 at h
  refine lv_iconst (v := 1) M.1 M.2.1 dX4_readsTail_90 (by decide) ?_
  refine lv_goto (tgt := 95) M.1 M.2.1 dX4_readsTail_91 (by decide) ?_
  exact tX4_readsTail_95 M hr hlk hRf hRl hRc hRs X _ _ _ _ _ h _ _ _ B (lv_sub hl [0, 1] rfl)
set_option maxRecDepth 100000 in
set_option maxHeartbeats 4000000 in
theorem tX4_readsTail_67 {post : Int32 → Pool → Prop} (M : MC p m c cX4_readsTail 3 s args RX4) (hr : meth.sig.returnType = (some FieldType.boolean)) (hlk : meth.locks = false) (hRf : 5 ≤ R.frames) (hRl : 108 ≤ R.locals) (hRc : 0 ≤ R.cells) (hRs : 0 ≤ R.slots) (X : EX adK adV A s) : ∀ (v0 : Option Nat) (v1 : Option Nat) (S : Pool), wX4_readsTail_67 post v0 v1 S → ∀ (H : Heap) (locs : List Loc) (ls : Array Slot), PB D cy A s S H locs → lv_has ls 3 [(0, va_rf v0), (1, va_rf v1)] → W p l e R s m args below meth c H locs 0 0 (MQ below (va_Qi post (PQ D cy A) A) args s 0 0 A) (F0 m 67 ls []) := by
  intro v0 v1 S h H locs ls B hl
  unfold wX4_readsTail_67 at h
  refine g_aload_n M dX4_readsTail_67 rfl (lv_at hl 0 rfl) ?_
  refine g_aload_n M dX4_readsTail_68 rfl (lv_at hl 1 rfl) ?_
  refine gfX4_101 M B dX4_readsTail_69 h (fun a1 h => ?_)
  refine lv_if_eq (tgt := 94) M.1 M.2.1 dX4_readsTail_72 (by decide) (fun c2 => ?_) (fun c2 => ?_)
  · have h := h.1 c2
    exact tX4_readsTail_94 M hr hlk hRf hRl hRc hRs X _ _ _ _ h _ _ _ B (lv_sub hl [0, 1] rfl)
  · have h := h.2 c2
    refine g_aload_n M dX4_readsTail_75 rfl (lv_at hl 0 rfl) ?_
    refine gfX4_55 M B dX4_readsTail_76 h (fun a3 h => ?_)
    refine lv_if_ne (tgt := 90) M.1 M.2.1 dX4_readsTail_79 (by decide) (fun c4 => ?_) (fun c4 => ?_)
    · have h := h.2 c4
      exact tX4_readsTail_90 M hr hlk hRf hRl hRc hRs X _ _ _ _ h _ _ _ B (lv_sub hl [0, 1] rfl)
    · have h := h.1 c4
      refine g_aload_n M dX4_readsTail_82 rfl (lv_at hl 1 rfl) ?_
      refine gfX4_110 M B dX4_readsTail_83 h (fun a5 h => ?_)
      refine lv_iconst (v := (-1)) M.1 M.2.1 dX4_readsTail_86 (by decide) ?_
      refine lv_icmp_eq (tgt := 94) M.1 M.2.1 dX4_readsTail_87 (by decide) (fun c6 => ?_) (fun c6 => ?_)
      · have h := h.1 c6
        exact tX4_readsTail_94 M hr hlk hRf hRl hRc hRs X _ _ _ _ h _ _ _ B (lv_sub hl [0, 1] rfl)
      · have h := h.2 c6
        exact tX4_readsTail_90 M hr hlk hRf hRl hRc hRs X _ _ _ _ h _ _ _ B (lv_sub hl [0, 1] rfl)
set_option maxRecDepth 100000 in
set_option maxHeartbeats 4000000 in
theorem tX4_readsTail_25 {post : Int32 → Pool → Prop} (M : MC p m c cX4_readsTail 3 s args RX4) (hr : meth.sig.returnType = (some FieldType.boolean)) (hlk : meth.locks = false) (hRf : 5 ≤ R.frames) (hRl : 108 ≤ R.locals) (hRc : 0 ≤ R.cells) (hRs : 0 ≤ R.slots) (X : EX adK adV A s) : ∀ (v0 : Option Nat) (v1 : Option Nat) (v2 : Int32) (S : Pool), wX4_readsTail_25 post v0 v1 v2 S → ∀ (H : Heap) (locs : List Loc) (ls : Array Slot), PB D cy A s S H locs → lv_has ls 3 [(0, va_rf v0), (1, va_rf v1), (2, .int v2)] → W p l e R s m args below meth c H locs 0 0 (MQ below (va_Qi post (PQ D cy A) A) args s 0 0 A) (F0 m 25 ls []) := by
  intro v0 v1 v2 S h H locs ls B hl
  unfold wX4_readsTail_25 at h
  refine lv_iload_n M.1 M.2.1 dX4_readsTail_25 rfl (lv_at hl 2 rfl) ?_
  refine lv_if_ne (tgt := 67) M.1 M.2.1 dX4_readsTail_26 (by decide) (fun c1 => ?_) (fun c1 => ?_)
  · have h := h.2 c1
    exact tX4_readsTail_67 M hr hlk hRf hRl hRc hRs X _ _ _ h _ _ _ B (lv_sub hl [0, 1] rfl)
  · have h := h.1 c1
    refine g_aload_n M dX4_readsTail_29 rfl (lv_at hl 0 rfl) ?_
    refine g_ldcS (w := 5) M X (by decide) rfl dX4_readsTail_30 ?_
    obtain ⟨o1, e1, hL1, hK1, h⟩ := h
    refine g_calli (k1 := 0) (k2 := 0) B (g_runVX (n := 1) (As := [va_rf (some (adK 5))]) (rm := rmX4_isAt) M B X e1 (kX4_isAt (v0 := v0) (v1 := 5) l D cy adK adV h _) wmX4_35 wiX4_isAt wsX4_isAt wnX4 wcdX4_isAt ⟨rfl, by decide, by decide, by decide +kernel⟩ ⟨Nat.le_trans (by decide) hRf, Nat.le_trans (by decide) hRl⟩ ⟨Nat.le_trans (by decide) hRc, Nat.le_trans (by decide) hRs⟩ hL1 hK1 (by decide) rfl rfl rfl hl.1 rfl ct_0 (by decide) dX4_readsTail_32) (by decide) (by decide) (fun a3 S2 H locs h B => ?_)
    refine lv_if_eq (tgt := 67) M.1 M.2.1 dX4_readsTail_35 (by decide) (fun c4 => ?_) (fun c4 => ?_)
    · have h := h.1 c4
      exact tX4_readsTail_67 M hr hlk hRf hRl hRc hRs X _ _ _ h _ _ _ B (lv_sub hl [0, 1] rfl)
    · have h := h.2 c4
      refine g_aload_n M dX4_readsTail_38 rfl (lv_at hl 0 rfl) ?_
      obtain ⟨o1, e1, hL1, hK1, h⟩ := h
      refine g_callv (k1 := 0) (k2 := 0) B (g_runV (n := 0) (As := []) (rm := rmX4_advance) M B e1 (kX4_advance (v0 := v0) l D cy h _) wmX4_30 wiX4_advance wsX4_advance wnX4 wcdX4_advance ⟨rfl, by decide, by decide, by decide +kernel⟩ ⟨Nat.le_trans (by decide) hRf, Nat.le_trans (by decide) hRl⟩ ⟨Nat.le_trans (by decide) hRc, Nat.le_trans (by decide) hRs⟩ hL1 hK1 (by decide) rfl rfl rfl hl.1 rfl ct_0 (by decide) dX4_readsTail_39) (by decide) (by decide) (fun S5 H locs h B => ?_)
      refine g_aload_n M dX4_readsTail_42 rfl (lv_at hl 1 rfl) ?_
      refine g_aload_n M dX4_readsTail_43 rfl (lv_at hl 0 rfl) ?_
      refine lv_iconst (v := 1) M.1 M.2.1 dX4_readsTail_44 (by decide) ?_
      refine lv_ldc (v := 100000) M.1 M.2.1 M.2.2.2.1 (M.2.2.2.2 _ wkX4_109) dX4_readsTail_45 ?_
      obtain ⟨o1, e1, hL1, hK1, h⟩ := h
      refine g_calli (k1 := 0) (k2 := 0) B (g_runV (n := 2) (As := [.int 1, .int 100000]) (rm := rmX4_numberHere) M B e1 (kX4_numberHere (v0 := v0) (v1 := 1) (v2 := 100000) l D cy h _) wmX4_77 wiX4_numberHere wsX4_numberHere wnX4 wcdX4_numberHere ⟨rfl, by decide, by decide, by decide +kernel⟩ ⟨Nat.le_trans (by decide) hRf, Nat.le_trans (by decide) hRl⟩ ⟨Nat.le_trans (by decide) hRc, Nat.le_trans (by decide) hRs⟩ hL1 hK1 (by decide) rfl rfl rfl hl.1 rfl (ct_r ct_0) (by decide) dX4_readsTail_47) (by decide) (by decide) (fun a7 S6 H locs h B => ?_)
      refine gpX4_110 M B dX4_readsTail_50 h (fun S8 H locs h B => ?_)
      refine g_aload_n M dX4_readsTail_53 rfl (lv_at hl 1 rfl) ?_
      refine gfX4_110 M B dX4_readsTail_54 h (fun a9 h => ?_)
      refine lv_iconst (v := (-1)) M.1 M.2.1 dX4_readsTail_57 (by decide) ?_
      refine lv_icmp_ne (tgt := 63) M.1 M.2.1 dX4_readsTail_58 (by decide) (fun c10 => ?_) (fun c10 => ?_)
      · have h := h.2 c10
        refine g_aload_n M dX4_readsTail_63 rfl (lv_at hl 0 rfl) ?_
        obtain ⟨o1, e1, hL1, hK1, h⟩ := h
        refine g_callv (k1 := 0) (k2 := 0) B (g_runV (n := 0) (As := []) (rm := rmX4_advance) M B e1 (kX4_advance (v0 := v0) l D cy h _) wmX4_30 wiX4_advance wsX4_advance wnX4 wcdX4_advance ⟨rfl, by decide, by decide, by decide +kernel⟩ ⟨Nat.le_trans (by decide) hRf, Nat.le_trans (by decide) hRl⟩ ⟨Nat.le_trans (by decide) hRc, Nat.le_trans (by decide) hRs⟩ hL1 hK1 (by decide) rfl rfl rfl hl.1 rfl ct_0 (by decide) dX4_readsTail_64) (by decide) (by decide) (fun S11 H locs h B => ?_)
        exact tX4_readsTail_67 M hr hlk hRf hRl hRc hRs X _ _ _ h _ _ _ B (lv_sub hl [0, 1] rfl)
      · have h := h.1 c10
        refine lv_iconst (v := 0) M.1 M.2.1 dX4_readsTail_61 (by decide) ?_
        exact g_zret M B hr hlk h (by decide) (by decide) dX4_readsTail_62
set_option maxRecDepth 100000 in
set_option maxHeartbeats 4000000 in
theorem tX4_readsTail {post : Int32 → Pool → Prop} (M : MC p m c cX4_readsTail 3 s args RX4) (hr : meth.sig.returnType = (some FieldType.boolean)) (hlk : meth.locks = false) (hRf : 5 ≤ R.frames) (hRl : 108 ≤ R.locals) (hRc : 0 ≤ R.cells) (hRs : 0 ≤ R.slots) (X : EX adK adV A s) : ∀ (v0 : Option Nat) (v1 : Option Nat) (v2 : Int32) (S : Pool), wX4_readsTail post v0 v1 v2 S → ∀ (H : Heap) (locs : List Loc) (ls : Array Slot), PB D cy A s S H locs → lv_has ls 3 [(0, va_rf v0), (1, va_rf v1), (2, .int v2)] → W p l e R s m args below meth c H locs 0 0 (MQ below (va_Qi post (PQ D cy A) A) args s 0 0 A) (F0 m 0 ls []) := by
  intro v0 v1 v2 S h H locs ls B hl
  unfold wX4_readsTail at h
  refine g_aload_n M dX4_readsTail_0 rfl (lv_at hl 1 rfl) ?_
  refine gfX4_101 M B dX4_readsTail_1 h (fun a1 h => ?_)
  refine lv_if_ne (tgt := 25) M.1 M.2.1 dX4_readsTail_4 (by decide) (fun c2 => ?_) (fun c2 => ?_)
  · have h := h.2 c2
    exact tX4_readsTail_25 M hr hlk hRf hRl hRc hRs X _ _ _ _ h _ _ _ B (lv_sub hl [0, 1, 2] rfl)
  · have h := h.1 c2
    refine g_aload_n M dX4_readsTail_7 rfl (lv_at hl 0 rfl) ?_
    refine g_ldcS (w := 8) M X (by decide) rfl dX4_readsTail_8 ?_
    obtain ⟨o1, e1, hL1, hK1, h⟩ := h
    refine g_calli (k1 := 0) (k2 := 0) B (g_runVX (n := 1) (As := [va_rf (some (adK 8))]) (rm := rmX4_isAt) M B X e1 (kX4_isAt (v0 := v0) (v1 := 8) l D cy adK adV h _) wmX4_35 wiX4_isAt wsX4_isAt wnX4 wcdX4_isAt ⟨rfl, by decide, by decide, by decide +kernel⟩ ⟨Nat.le_trans (by decide) hRf, Nat.le_trans (by decide) hRl⟩ ⟨Nat.le_trans (by decide) hRc, Nat.le_trans (by decide) hRs⟩ hL1 hK1 (by decide) rfl rfl rfl hl.1 rfl ct_0 (by decide) dX4_readsTail_10) (by decide) (by decide) (fun a4 S3 H locs h B => ?_)
    refine lv_if_eq (tgt := 25) M.1 M.2.1 dX4_readsTail_13 (by decide) (fun c5 => ?_) (fun c5 => ?_)
    · have h := h.1 c5
      exact tX4_readsTail_25 M hr hlk hRf hRl hRc hRs X _ _ _ _ h _ _ _ B (lv_sub hl [0, 1, 2] rfl)
    · have h := h.2 c5
      refine g_aload_n M dX4_readsTail_16 rfl (lv_at hl 1 rfl) ?_
      refine lv_iconst (v := 1) M.1 M.2.1 dX4_readsTail_17 (by decide) ?_
      refine gpX4_105 M B dX4_readsTail_18 h (fun S6 H locs h B => ?_)
      refine g_aload_n M dX4_readsTail_21 rfl (lv_at hl 0 rfl) ?_
      obtain ⟨o1, e1, hL1, hK1, h⟩ := h
      refine g_callv (k1 := 0) (k2 := 0) B (g_runV (n := 0) (As := []) (rm := rmX4_advance) M B e1 (kX4_advance (v0 := v0) l D cy h _) wmX4_30 wiX4_advance wsX4_advance wnX4 wcdX4_advance ⟨rfl, by decide, by decide, by decide +kernel⟩ ⟨Nat.le_trans (by decide) hRf, Nat.le_trans (by decide) hRl⟩ ⟨Nat.le_trans (by decide) hRc, Nat.le_trans (by decide) hRs⟩ hL1 hK1 (by decide) rfl rfl rfl hl.1 rfl ct_0 (by decide) dX4_readsTail_22) (by decide) (by decide) (fun S7 H locs h B => ?_)
      exact tX4_readsTail_25 M hr hlk hRf hRl hRc hRs X _ _ _ _ h _ _ _ B (lv_sub hl [0, 1, 2] rfl)
end
set_option maxRecDepth 100000 in
set_option maxHeartbeats 4000000 in
theorem kX4_readsTail (l : Launch) (D : va_G) (cy : Nat → ClassId) (adK adV : Nat → Nat) {post : Int32 → Pool → Prop} {v0 : Option Nat} {v1 : Option Nat} {v2 : Int32} {S : Pool} (h : wX4_readsTail post v0 v1 v2 S) : MetIX l adK adV yX4_readsTail cX4_readsTail 3 (some FieldType.boolean) rmX4_readsTail [va_rf v0, va_rf v1, .int v2] D cy S post := by
  intro sz
  refine Met.ofW (cc := cX4_readsTail) (maxL := 3) (ret := (some FieldType.boolean)) (by decide) rfl ?_
  intro p e s m args below meth c s₁ B0 hml hv
  obtain ⟨rfl, hpp⟩ := hv
  have hts := atoms_spec (ws := .code yX4_readsTail cX4_readsTail 3 (some FieldType.boolean) :: Gw) B0.pre
  obtain rfl : s.heap.size = sz := hpp.1.1
  have hl := lv_entry [va_rf v0, va_rf v1, .int v2] (n := 3) (by rw [sl_r, sl_r, sl_i, sl_0]; decide)
  rw [lg_entry_eq]
  rw [la_r, la_r, la_i, la_0] at hl
  exact tX4_readsTail (l := l) (R := rmX4_readsTail) ⟨B0.exec, B0.bytes, hml, findClass_of_methodNamed B0.named, fun w hw => hts w (List.mem_cons_of_mem _ hw)⟩ B0.returns B0.notSynchronized (Nat.le_refl _) (Nat.le_refl _) (Nat.le_refl _) (Nat.le_refl _) hpp.ex _ _ _ _ h _ _ _ hpp.1.pb (lv_sub hl [0, 1, 2] rfl)
-- X4_readsStep: LogHunt$Reader.readsStep(LLogHunt$Question;Z)Z
def wX4_readsStep_43 (post : Int32 → Pool → Prop) (v0 : Option Nat) (v1 : Option Nat) (v2 : Int32) (v3 : Int32) (S : Pool) : Prop := xrc S v1 3 (wX3_addStep (fun a2 S1 => br (a2 = none) (((0 : Int32) = 0 ∨ (0 : Int32) = 1) ∧ post (0 : Int32) S1) (xrc S1 v0 4 (wX4_advance (fun S4 => xrc S4 v0 4 (wX4_numberHere (fun a6 S5 => xpI S5 a2 5 0 a6 fun S7 => xI S7 a2 5 0 fun a8 => br (a8 = ((-1))) (((0 : Int32) = 0 ∨ (0 : Int32) = 1) ∧ post (0 : Int32) S7) (xrc S7 v0 4 (wX4_advance (fun S10 => xrc S10 v0 4 (wX4_readsConds (fun a12 S11 => br (a12 = 0) (((0 : Int32) = 0 ∨ (0 : Int32) = 1) ∧ post (0 : Int32) S11) (xrc S11 v0 4 (wX4_readsTail (fun a15 S14 => br (a15 = 0) (((0 : Int32) = 0 ∨ (0 : Int32) = 1) ∧ post (0 : Int32) S14) (((1 : Int32) = 0 ∨ (1 : Int32) = 1) ∧ post (1 : Int32) S14)) v0 a2 v2 S11))) v0 v1 a2 S10)) v0 S7))) v0 0 7 S4)) v0 S1))) v1 v3 S)
def wX4_readsStep_21 (post : Int32 → Pool → Prop) (v0 : Option Nat) (v1 : Option Nat) (v2 : Int32) (v3 : Int32) (S : Pool) : Prop := xrc S v0 4 (wX4_isAt (fun a2 S1 => br (a2 = 0) (((0 : Int32) = 0 ∨ (0 : Int32) = 1) ∧ post (0 : Int32) S1) (br (v3 = 0) (xI S1 v0 4 4 fun a5 => br (a5 = 0) (wX4_readsStep_43 post v0 v1 v2 v3 S1) (((0 : Int32) = 0 ∨ (0 : Int32) = 1) ∧ post (0 : Int32) S1)) (wX4_readsStep_43 post v0 v1 v2 v3 S1))) v0 6 S)
def wX4_readsStep (post : Int32 → Pool → Prop) (v0 : Option Nat) (v1 : Option Nat) (v2 : Int32) (S : Pool) : Prop := xrc S v0 4 (wX4_isAt (fun a2 S1 => br (a2 = 0) (wX4_readsStep_21 post v0 v1 v2 a2 S1) (br (v2 = 0) (xrc S1 v0 4 (wX4_advance (fun S5 => wX4_readsStep_21 post v0 v1 v2 a2 S5) v0 S1)) (((0 : Int32) = 0 ∨ (0 : Int32) = 1) ∧ post (0 : Int32) S1))) v0 7 S)
def rmX4_readsStep : Room := { frames := 7, cells := 0, slots := 0, locals := 153 }
section
variable {p : Program} {l : Launch} {e : Env} {R : Room} {s : State} {m : MethodId} {args : Array Value} {below : List Frame} {meth : Method} {c : Code} {D : va_G} {cy : Nat → ClassId} {A : Nat → Prop} {adK adV : Nat → Nat}
set_option maxRecDepth 100000 in
set_option maxHeartbeats 4000000 in
theorem tX4_readsStep_43 {post : Int32 → Pool → Prop} (M : MC p m c cX4_readsStep 5 s args RX4) (hr : meth.sig.returnType = (some FieldType.boolean)) (hlk : meth.locks = false) (hRf : 7 ≤ R.frames) (hRl : 153 ≤ R.locals) (hRc : 0 ≤ R.cells) (hRs : 0 ≤ R.slots) (X : EX adK adV A s) : ∀ (v0 : Option Nat) (v1 : Option Nat) (v2 : Int32) (v3 : Int32) (S : Pool), wX4_readsStep_43 post v0 v1 v2 v3 S → ∀ (H : Heap) (locs : List Loc) (ls : Array Slot), PB D cy A s S H locs → lv_has ls 5 [(0, va_rf v0), (1, va_rf v1), (2, .int v2), (3, .int v3)] → W p l e R s m args below meth c H locs 0 0 (MQ below (va_Qi post (PQ D cy A) A) args s 0 0 A) (F0 m 43 ls []) := by
  intro v0 v1 v2 v3 S h H locs ls B hl
  unfold wX4_readsStep_43 at h
  refine g_aload_n M dX4_readsStep_43 rfl (lv_at hl 1 rfl) ?_
  refine lv_iload_n M.1 M.2.1 dX4_readsStep_44 rfl (lv_at hl 3 rfl) ?_
  obtain ⟨o1, e1, hL1, hK1, h⟩ := h
  refine g_callr (k1 := 0) (k2 := 0) B (g_runV (n := 1) (As := [.int v3]) (rm := rmX3_addStep) M B e1 (kX3_addStep (v0 := v1) (v1 := v3) l D cy h _) wmX4_73 wiX3_addStep wsX3_addStep wnX3 wcdX3_addStep ⟨rfl, by decide, by decide, by decide +kernel⟩ ⟨Nat.le_trans (by decide) hRf, Nat.le_trans (by decide) hRl⟩ ⟨Nat.le_trans (by decide) hRc, Nat.le_trans (by decide) hRs⟩ hL1 hK1 (by decide) rfl rfl rfl hl.1 rfl ct_0 (by decide) dX4_readsStep_45) (by decide) (by decide) (fun a2 S1 H locs h B => ?_)
  refine g_astore (lv' := [(4, va_rf a2), (0, va_rf v0), (1, va_rf v1), (2, .int v2), (3, .int v3)]) M dX4_readsStep_48 hl (by decide) (fl_e (fl_k rfl rfl (fl_k rfl rfl (fl_k rfl rfl (fl_i rfl fl_0))))) (fun ls hl => ?_)
  refine g_aload M dX4_readsStep_50 (lv_at hl 0 rfl) ?_
  refine g_ifnonnull (tgt := 57) M dX4_readsStep_52 (by decide) (fun c3 => ?_) (fun c3 => ?_)
  · have h := h.2 c3
    refine g_aload_n M dX4_readsStep_57 rfl (lv_at hl 1 rfl) ?_
    obtain ⟨o1, e1, hL1, hK1, h⟩ := h
    refine g_callv (k1 := 0) (k2 := 0) B (g_runV (n := 0) (As := []) (rm := rmX4_advance) M B e1 (kX4_advance (v0 := v0) l D cy h _) wmX4_30 wiX4_advance wsX4_advance wnX4 wcdX4_advance ⟨rfl, by decide, by decide, by decide +kernel⟩ ⟨Nat.le_trans (by decide) hRf, Nat.le_trans (by decide) hRl⟩ ⟨Nat.le_trans (by decide) hRc, Nat.le_trans (by decide) hRs⟩ hL1 hK1 (by decide) rfl rfl rfl hl.1 rfl ct_0 (by decide) dX4_readsStep_58) (by decide) (by decide) (fun S4 H locs h B => ?_)
    refine g_aload M dX4_readsStep_61 (lv_at hl 0 rfl) ?_
    refine g_aload_n M dX4_readsStep_63 rfl (lv_at hl 1 rfl) ?_
    refine lv_iconst (v := 0) M.1 M.2.1 dX4_readsStep_64 (by decide) ?_
    refine lv_bipush (v := 7) M.1 M.2.1 dX4_readsStep_65 (by decide) ?_
    obtain ⟨o1, e1, hL1, hK1, h⟩ := h
    refine g_calli (k1 := 0) (k2 := 0) B (g_runV (n := 2) (As := [.int 0, .int 7]) (rm := rmX4_numberHere) M B e1 (kX4_numberHere (v0 := v0) (v1 := 0) (v2 := 7) l D cy h _) wmX4_77 wiX4_numberHere wsX4_numberHere wnX4 wcdX4_numberHere ⟨rfl, by decide, by decide, by decide +kernel⟩ ⟨Nat.le_trans (by decide) hRf, Nat.le_trans (by decide) hRl⟩ ⟨Nat.le_trans (by decide) hRc, Nat.le_trans (by decide) hRs⟩ hL1 hK1 (by decide) rfl rfl rfl hl.1 rfl (ct_r ct_0) (by decide) dX4_readsStep_67) (by decide) (by decide) (fun a6 S5 H locs h B => ?_)
    refine gpX4_81 M B dX4_readsStep_70 h (fun S7 H locs h B => ?_)
    refine g_aload M dX4_readsStep_73 (lv_at hl 0 rfl) ?_
    refine gfX4_81 M B dX4_readsStep_75 h (fun a8 h => ?_)
    refine lv_iconst (v := (-1)) M.1 M.2.1 dX4_readsStep_78 (by decide) ?_
    refine lv_icmp_ne (tgt := 84) M.1 M.2.1 dX4_readsStep_79 (by decide) (fun c9 => ?_) (fun c9 => ?_)
    · have h := h.2 c9
      refine g_aload_n M dX4_readsStep_84 rfl (lv_at hl 1 rfl) ?_
      obtain ⟨o1, e1, hL1, hK1, h⟩ := h
      refine g_callv (k1 := 0) (k2 := 0) B (g_runV (n := 0) (As := []) (rm := rmX4_advance) M B e1 (kX4_advance (v0 := v0) l D cy h _) wmX4_30 wiX4_advance wsX4_advance wnX4 wcdX4_advance ⟨rfl, by decide, by decide, by decide +kernel⟩ ⟨Nat.le_trans (by decide) hRf, Nat.le_trans (by decide) hRl⟩ ⟨Nat.le_trans (by decide) hRc, Nat.le_trans (by decide) hRs⟩ hL1 hK1 (by decide) rfl rfl rfl hl.1 rfl ct_0 (by decide) dX4_readsStep_85) (by decide) (by decide) (fun S10 H locs h B => ?_)
      refine g_aload_n M dX4_readsStep_88 rfl (lv_at hl 1 rfl) ?_
      refine g_aload_n M dX4_readsStep_89 rfl (lv_at hl 2 rfl) ?_
      refine g_aload M dX4_readsStep_90 (lv_at hl 0 rfl) ?_
      obtain ⟨o1, e1, hL1, hK1, h⟩ := h
      refine g_calli (k1 := 0) (k2 := 0) B (g_runVX (n := 2) (As := [va_rf v1, va_rf a2]) (rm := rmX4_readsConds) M B X e1 (kX4_readsConds (v0 := v0) (v1 := v1) (v2 := a2) l D cy adK adV h _) wmX4_85 wiX4_readsConds wsX4_readsConds wnX4 wcdX4_readsConds ⟨rfl, by decide, by decide, by decide +kernel⟩ ⟨Nat.le_trans (by decide) hRf, Nat.le_trans (by decide) hRl⟩ ⟨Nat.le_trans (by decide) hRc, Nat.le_trans (by decide) hRs⟩ hL1 hK1 (by decide) rfl rfl rfl hl.1 rfl ct_0 (by decide) dX4_readsStep_92) (by decide) (by decide) (fun a12 S11 H locs h B => ?_)
      refine lv_if_eq (tgt := 112) M.1 M.2.1 dX4_readsStep_95 (by decide) (fun c13 => ?_) (fun c13 => ?_)
      · have h := h.1 c13
        refine lv_iconst (v := 0) M.1 M.2.1 dX4_readsStep_112 (by decide) ?_
        exact g_zret M B hr hlk h (by decide) (by decide) dX4_readsStep_113
      · have h := h.2 c13
        refine g_aload_n M dX4_readsStep_98 rfl (lv_at hl 1 rfl) ?_
        refine g_aload M dX4_readsStep_99 (lv_at hl 0 rfl) ?_
        refine lv_iload_n M.1 M.2.1 dX4_readsStep_101 rfl (lv_at hl 3 rfl) ?_
        obtain ⟨o1, e1, hL1, hK1, h⟩ := h
        refine g_calli (k1 := 0) (k2 := 0) B (g_runVX (n := 2) (As := [va_rf a2, .int v2]) (rm := rmX4_readsTail) M B X e1 (kX4_readsTail (v0 := v0) (v1 := a2) (v2 := v2) l D cy adK adV h _) wmX4_89 wiX4_readsTail wsX4_readsTail wnX4 wcdX4_readsTail ⟨rfl, by decide, by decide, by decide +kernel⟩ ⟨Nat.le_trans (by decide) hRf, Nat.le_trans (by decide) hRl⟩ ⟨Nat.le_trans (by decide) hRc, Nat.le_trans (by decide) hRs⟩ hL1 hK1 (by decide) rfl rfl rfl hl.1 rfl ct_0 (by decide) dX4_readsStep_102) (by decide) (by decide) (fun a15 S14 H locs h B => ?_)
        refine lv_if_eq (tgt := 112) M.1 M.2.1 dX4_readsStep_105 (by decide) (fun c16 => ?_) (fun c16 => ?_)
        · have h := h.1 c16
          refine lv_iconst (v := 0) M.1 M.2.1 dX4_readsStep_112 (by decide) ?_
          exact g_zret M B hr hlk h (by decide) (by decide) dX4_readsStep_113
        · have h := h.2 c16
          refine lv_iconst (v := 1) M.1 M.2.1 dX4_readsStep_108 (by decide) ?_
          refine lv_goto (tgt := 113) M.1 M.2.1 dX4_readsStep_109 (by decide) ?_
          exact g_zret M B hr hlk h (by decide) (by decide) dX4_readsStep_113
    · have h := h.1 c9
      refine lv_iconst (v := 0) M.1 M.2.1 dX4_readsStep_82 (by decide) ?_
      exact g_zret M B hr hlk h (by decide) (by decide) dX4_readsStep_83
  · have h := h.1 c3
    refine lv_iconst (v := 0) M.1 M.2.1 dX4_readsStep_55 (by decide) ?_
    exact g_zret M B hr hlk h (by decide) (by decide) dX4_readsStep_56
set_option maxRecDepth 100000 in
set_option maxHeartbeats 4000000 in
theorem tX4_readsStep_21 {post : Int32 → Pool → Prop} (M : MC p m c cX4_readsStep 5 s args RX4) (hr : meth.sig.returnType = (some FieldType.boolean)) (hlk : meth.locks = false) (hRf : 7 ≤ R.frames) (hRl : 153 ≤ R.locals) (hRc : 0 ≤ R.cells) (hRs : 0 ≤ R.slots) (X : EX adK adV A s) : ∀ (v0 : Option Nat) (v1 : Option Nat) (v2 : Int32) (v3 : Int32) (S : Pool), wX4_readsStep_21 post v0 v1 v2 v3 S → ∀ (H : Heap) (locs : List Loc) (ls : Array Slot), PB D cy A s S H locs → lv_has ls 5 [(0, va_rf v0), (1, va_rf v1), (2, .int v2), (3, .int v3)] → W p l e R s m args below meth c H locs 0 0 (MQ below (va_Qi post (PQ D cy A) A) args s 0 0 A) (F0 m 21 ls []) := by
  intro v0 v1 v2 v3 S h H locs ls B hl
  unfold wX4_readsStep_21 at h
  refine g_aload_n M dX4_readsStep_21 rfl (lv_at hl 0 rfl) ?_
  refine g_ldcS (w := 6) M X (by decide) rfl dX4_readsStep_22 ?_
  obtain ⟨o1, e1, hL1, hK1, h⟩ := h
  refine g_calli (k1 := 0) (k2 := 0) B (g_runVX (n := 1) (As := [va_rf (some (adK 6))]) (rm := rmX4_isAt) M B X e1 (kX4_isAt (v0 := v0) (v1 := 6) l D cy adK adV h _) wmX4_35 wiX4_isAt wsX4_isAt wnX4 wcdX4_isAt ⟨rfl, by decide, by decide, by decide +kernel⟩ ⟨Nat.le_trans (by decide) hRf, Nat.le_trans (by decide) hRl⟩ ⟨Nat.le_trans (by decide) hRc, Nat.le_trans (by decide) hRs⟩ hL1 hK1 (by decide) rfl rfl rfl hl.1 rfl ct_0 (by decide) dX4_readsStep_24) (by decide) (by decide) (fun a2 S1 H locs h B => ?_)
  refine lv_if_eq (tgt := 41) M.1 M.2.1 dX4_readsStep_27 (by decide) (fun c3 => ?_) (fun c3 => ?_)
  · have h := h.1 c3
    refine lv_iconst (v := 0) M.1 M.2.1 dX4_readsStep_41 (by decide) ?_
    exact g_zret M B hr hlk h (by decide) (by decide) dX4_readsStep_42
  · have h := h.2 c3
    refine lv_iload_n M.1 M.2.1 dX4_readsStep_30 rfl (lv_at hl 3 rfl) ?_
    refine lv_if_ne (tgt := 43) M.1 M.2.1 dX4_readsStep_31 (by decide) (fun c4 => ?_) (fun c4 => ?_)
    · have h := h.2 c4
      exact tX4_readsStep_43 M hr hlk hRf hRl hRc hRs X _ _ _ _ _ h _ _ _ B (lv_sub hl [0, 1, 2, 3] rfl)
    · have h := h.1 c4
      refine g_aload_n M dX4_readsStep_34 rfl (lv_at hl 0 rfl) ?_
      refine gfX4_55 M B dX4_readsStep_35 h (fun a5 h => ?_)
      refine lv_if_eq (tgt := 43) M.1 M.2.1 dX4_readsStep_38 (by decide) (fun c6 => ?_) (fun c6 => ?_)
      · have h := h.1 c6
        exact tX4_readsStep_43 M hr hlk hRf hRl hRc hRs X _ _ _ _ _ h _ _ _ B (lv_sub hl [0, 1, 2, 3] rfl)
      · have h := h.2 c6
        refine lv_iconst (v := 0) M.1 M.2.1 dX4_readsStep_41 (by decide) ?_
        exact g_zret M B hr hlk h (by decide) (by decide) dX4_readsStep_42
set_option maxRecDepth 100000 in
set_option maxHeartbeats 4000000 in
theorem tX4_readsStep {post : Int32 → Pool → Prop} (M : MC p m c cX4_readsStep 5 s args RX4) (hr : meth.sig.returnType = (some FieldType.boolean)) (hlk : meth.locks = false) (hRf : 7 ≤ R.frames) (hRl : 153 ≤ R.locals) (hRc : 0 ≤ R.cells) (hRs : 0 ≤ R.slots) (X : EX adK adV A s) : ∀ (v0 : Option Nat) (v1 : Option Nat) (v2 : Int32) (S : Pool), wX4_readsStep post v0 v1 v2 S → ∀ (H : Heap) (locs : List Loc) (ls : Array Slot), PB D cy A s S H locs → lv_has ls 5 [(0, va_rf v0), (1, va_rf v1), (2, .int v2)] → W p l e R s m args below meth c H locs 0 0 (MQ below (va_Qi post (PQ D cy A) A) args s 0 0 A) (F0 m 0 ls []) := by
  intro v0 v1 v2 S h H locs ls B hl
  unfold wX4_readsStep at h
  refine g_aload_n M dX4_readsStep_0 rfl (lv_at hl 0 rfl) ?_
  refine g_ldcS (w := 7) M X (by decide) rfl dX4_readsStep_1 ?_
  obtain ⟨o1, e1, hL1, hK1, h⟩ := h
  refine g_calli (k1 := 0) (k2 := 0) B (g_runVX (n := 1) (As := [va_rf (some (adK 7))]) (rm := rmX4_isAt) M B X e1 (kX4_isAt (v0 := v0) (v1 := 7) l D cy adK adV h _) wmX4_35 wiX4_isAt wsX4_isAt wnX4 wcdX4_isAt ⟨rfl, by decide, by decide, by decide +kernel⟩ ⟨Nat.le_trans (by decide) hRf, Nat.le_trans (by decide) hRl⟩ ⟨Nat.le_trans (by decide) hRc, Nat.le_trans (by decide) hRs⟩ hL1 hK1 (by decide) rfl rfl rfl hl.1 rfl ct_0 (by decide) dX4_readsStep_3) (by decide) (by decide) (fun a2 S1 H locs h B => ?_)
  refine lv_istore_n (lv' := [(3, .int a2), (0, va_rf v0), (1, va_rf v1), (2, .int v2)]) M.1 M.2.1 dX4_readsStep_6 rfl hl (by decide) (fl_e (fl_k rfl rfl (fl_k rfl rfl (fl_i rfl fl_0)))) (fun ls hl => ?_)
  refine lv_iload_n M.1 M.2.1 dX4_readsStep_7 rfl (lv_at hl 0 rfl) ?_
  refine lv_if_eq (tgt := 21) M.1 M.2.1 dX4_readsStep_8 (by decide) (fun c3 => ?_) (fun c3 => ?_)
  · have h := h.1 c3
    exact tX4_readsStep_21 M hr hlk hRf hRl hRc hRs X _ _ _ _ _ h _ _ _ B (lv_sub hl [1, 2, 3, 0] rfl)
  · have h := h.2 c3
    refine lv_iload_n M.1 M.2.1 dX4_readsStep_11 rfl (lv_at hl 3 rfl) ?_
    refine lv_if_eq (tgt := 17) M.1 M.2.1 dX4_readsStep_12 (by decide) (fun c4 => ?_) (fun c4 => ?_)
    · have h := h.1 c4
      refine g_aload_n M dX4_readsStep_17 rfl (lv_at hl 1 rfl) ?_
      obtain ⟨o1, e1, hL1, hK1, h⟩ := h
      refine g_callv (k1 := 0) (k2 := 0) B (g_runV (n := 0) (As := []) (rm := rmX4_advance) M B e1 (kX4_advance (v0 := v0) l D cy h _) wmX4_30 wiX4_advance wsX4_advance wnX4 wcdX4_advance ⟨rfl, by decide, by decide, by decide +kernel⟩ ⟨Nat.le_trans (by decide) hRf, Nat.le_trans (by decide) hRl⟩ ⟨Nat.le_trans (by decide) hRc, Nat.le_trans (by decide) hRs⟩ hL1 hK1 (by decide) rfl rfl rfl hl.1 rfl ct_0 (by decide) dX4_readsStep_18) (by decide) (by decide) (fun S5 H locs h B => ?_)
      exact tX4_readsStep_21 M hr hlk hRf hRl hRc hRs X _ _ _ _ _ h _ _ _ B (lv_sub hl [1, 2, 3, 0] rfl)
    · have h := h.2 c4
      refine lv_iconst (v := 0) M.1 M.2.1 dX4_readsStep_15 (by decide) ?_
      exact g_zret M B hr hlk h (by decide) (by decide) dX4_readsStep_16
end
set_option maxRecDepth 100000 in
set_option maxHeartbeats 4000000 in
theorem kX4_readsStep (l : Launch) (D : va_G) (cy : Nat → ClassId) (adK adV : Nat → Nat) {post : Int32 → Pool → Prop} {v0 : Option Nat} {v1 : Option Nat} {v2 : Int32} {S : Pool} (h : wX4_readsStep post v0 v1 v2 S) : MetIX l adK adV yX4_readsStep cX4_readsStep 5 (some FieldType.boolean) rmX4_readsStep [va_rf v0, va_rf v1, .int v2] D cy S post := by
  intro sz
  refine Met.ofW (cc := cX4_readsStep) (maxL := 5) (ret := (some FieldType.boolean)) (by decide) rfl ?_
  intro p e s m args below meth c s₁ B0 hml hv
  obtain ⟨rfl, hpp⟩ := hv
  have hts := atoms_spec (ws := .code yX4_readsStep cX4_readsStep 5 (some FieldType.boolean) :: Gw) B0.pre
  obtain rfl : s.heap.size = sz := hpp.1.1
  have hl := lv_entry [va_rf v0, va_rf v1, .int v2] (n := 5) (by rw [sl_r, sl_r, sl_i, sl_0]; decide)
  rw [lg_entry_eq]
  rw [la_r, la_r, la_i, la_0] at hl
  exact tX4_readsStep (l := l) (R := rmX4_readsStep) ⟨B0.exec, B0.bytes, hml, findClass_of_methodNamed B0.named, fun w hw => hts w (List.mem_cons_of_mem _ hw)⟩ B0.returns B0.notSynchronized (Nat.le_refl _) (Nat.le_refl _) (Nat.le_refl _) (Nat.le_refl _) hpp.ex _ _ _ _ h _ _ _ hpp.1.pb (lv_sub hl [0, 1, 2] rfl)
-- X4_reads: LogHunt$Reader.reads(LLogHunt$Question;)Z
def wX4_reads_144 (K12 : Option Nat → Option Nat → Int32 → Pool → Prop) (post : Int32 → Pool → Prop) (v0 : Option Nat) (v1 : Option Nat) (v2 : Int32) (z0 : Int32) (z1 : Option Nat) (z2 : Option Nat) (S : Pool) : Prop := xrc S z2 4 (wX4_readsStep (fun a2 S1 => br (a2 = 0) (((0 : Int32) = 0 ∨ (0 : Int32) = 1) ∧ post (0 : Int32) S1) (K12 v0 v1 (v2 + 1) S1)) z2 z1 z0 S)
def wX4_reads_128 (post : Int32 → Pool → Prop) (z0 : Int32) (z1 : Option Nat) (S : Pool) : Prop := xpI S z1 4 2 z0 fun S1 => ((0 : Int32) = 0 ∨ (0 : Int32) = 1) ∧ post (0 : Int32) S1
def wX4_reads_120 (post : Int32 → Pool → Prop) (v3 : Int32) (z0 : Option Nat) (S : Pool) : Prop := wX4_reads_128 post v3 z0 S
def wX4_reads_95 (K12 : Option Nat → Option Nat → Int32 → Pool → Prop) (post : Int32 → Pool → Prop) (v0 : Option Nat) (v1 : Option Nat) (v2 : Int32) (v3 : Int32) (S : Pool) : Prop := br (v2 = 6) (xrc S v0 4 (wX4_isAt (fun a4 S3 => br (a4 = 0) (xrc S3 v0 4 (wX4_isAt (fun a7 S6 => br (a7 = 0) (xI S6 v0 4 2 fun a9 => wX4_reads_128 post a9 v0 S6) (wX4_reads_120 post v3 v0 S6)) v0 7 S3)) (wX4_reads_120 post v3 v0 S3)) v0 6 S)) (br (v2 = 0) (wX4_reads_144 K12 post v0 v1 v2 1 v1 v0 S) (wX4_reads_144 K12 post v0 v1 v2 0 v1 v0 S))
def wX4_reads_42 (K12 : Option Nat → Option Nat → Int32 → Pool → Prop) (post : Int32 → Pool → Prop) (v0 : Option Nat) (v1 : Option Nat) (v2 : Int32) (S : Pool) : Prop := xI S v0 4 1 fun a1 => br (a1 = 3) (xI S v0 4 2 fun a3 => xrc S v0 4 (wX4_advance (fun S4 => br (v2 ≤ 0) (wX4_reads_95 K12 post v0 v1 v2 a3 S4) (xrc S4 v0 4 (wX4_isAt (fun a7 S6 => br (a7 = 0) (wX4_reads_95 K12 post v0 v1 v2 a3 S6) (xI S6 v0 4 5 fun a9 => br (a9 = 0) (xrc S6 v0 4 (wX4_readsSpread (fun a12 S11 => br (a12 = 0) (((0 : Int32) = 0 ∨ (0 : Int32) = 1) ∧ post (0 : Int32) S11) (((1 : Int32) = 0 ∨ (1 : Int32) = 1) ∧ post (1 : Int32) S11)) v0 v1 S6)) (((0 : Int32) = 0 ∨ (0 : Int32) = 1) ∧ post (0 : Int32) S6))) v0 4 S4))) v0 S)) (((0 : Int32) = 0 ∨ (0 : Int32) = 1) ∧ post (0 : Int32) S)
def wX4_reads_12 (post : Int32 → Pool → Prop) : Nat → Option Nat → Option Nat → Int32 → Pool → Prop
  | 0 => fun _ _ _ _ => False
  | n + 1 => fun v0 v1 v2 S => br (6 < v2) (((0 : Int32) = 0 ∨ (0 : Int32) = 1) ∧ post (0 : Int32) S) (br (v2 ≤ 0) (wX4_reads_42 (wX4_reads_12 post n) post v0 v1 v2 S) (xI S v0 4 1 fun a3 => br (a3 = 0) (xI S v0 4 5 fun a5 => br (a5 = 0) (((1 : Int32) = 0 ∨ (1 : Int32) = 1) ∧ post (1 : Int32) S) (((0 : Int32) = 0 ∨ (0 : Int32) = 1) ∧ post (0 : Int32) S)) (wX4_reads_42 (wX4_reads_12 post n) post v0 v1 v2 S)))
def wX4_reads (post : Int32 → Pool → Prop) (v0 : Option Nat) (v1 : Option Nat) (S : Pool) : Prop := xrc S v0 4 (wX4_readsBy (fun a2 S1 => br (a2 = 0) (((0 : Int32) = 0 ∨ (0 : Int32) = 1) ∧ post (0 : Int32) S1) (∃ n1, wX4_reads_12 post n1 v0 v1 0 S1)) v0 v1 S)
def rmX4_reads : Room := { frames := 8, cells := 0, slots := 0, locals := 177 }
section
variable {p : Program} {l : Launch} {e : Env} {R : Room} {s : State} {m : MethodId} {args : Array Value} {below : List Frame} {meth : Method} {c : Code} {D : va_G} {cy : Nat → ClassId} {A : Nat → Prop} {adK adV : Nat → Nat}
set_option maxRecDepth 100000 in
set_option maxHeartbeats 4000000 in
theorem tX4_reads_144 {K12 : Option Nat → Option Nat → Int32 → Pool → Prop} {post : Int32 → Pool → Prop} (M : MC p m c cX4_reads 4 s args RX4) (hr : meth.sig.returnType = (some FieldType.boolean)) (hlk : meth.locks = false) (hRf : 8 ≤ R.frames) (hRl : 177 ≤ R.locals) (hRc : 0 ≤ R.cells) (hRs : 0 ≤ R.slots) (X : EX adK adV A s) (hK12 : ∀ (v0 : Option Nat) (v1 : Option Nat) (v2 : Int32) (S : Pool), K12 v0 v1 v2 S → ∀ (H : Heap) (locs : List Loc) (ls : Array Slot), PB D cy A s S H locs → lv_has ls 4 [(0, va_rf v0), (1, va_rf v1), (2, .int v2)] → W p l e R s m args below meth c H locs 0 0 (MQ below (va_Qi post (PQ D cy A) A) args s 0 0 A) (F0 m 12 ls [])) : ∀ (v0 : Option Nat) (v1 : Option Nat) (v2 : Int32) (z0 : Int32) (z1 : Option Nat) (z2 : Option Nat) (S : Pool), wX4_reads_144 K12 post v0 v1 v2 z0 z1 z2 S → ∀ (H : Heap) (locs : List Loc) (ls : Array Slot), PB D cy A s S H locs → lv_has ls 4 [(0, va_rf v0), (1, va_rf v1), (2, .int v2)] → W p l e R s m args below meth c H locs 0 0 (MQ below (va_Qi post (PQ D cy A) A) args s 0 0 A) (F0 m 144 ls [.int z0, va_rf z1, va_rf z2]) := by
  intro v0 v1 v2 z0 z1 z2 S h H locs ls B hl
  unfold wX4_reads_144 at h
  obtain ⟨o1, e1, hL1, hK1, h⟩ := h
  refine g_calli (k1 := 0) (k2 := 0) B (g_runVX (n := 2) (As := [va_rf z1, .int z0]) (rm := rmX4_readsStep) M B X e1 (kX4_readsStep (v0 := z2) (v1 := z1) (v2 := z0) l D cy adK adV h _) wmX4_46 wiX4_readsStep wsX4_readsStep wnX4 wcdX4_readsStep ⟨rfl, by decide, by decide, by decide +kernel⟩ ⟨Nat.le_trans (by decide) hRf, Nat.le_trans (by decide) hRl⟩ ⟨Nat.le_trans (by decide) hRc, Nat.le_trans (by decide) hRs⟩ hL1 hK1 (by decide) rfl rfl rfl hl.1 rfl ct_0 (by decide) dX4_reads_144) (by decide) (by decide) (fun a2 S1 H locs h B => ?_)
  refine lv_if_ne (tgt := 152) M.1 M.2.1 dX4_reads_147 (by decide) (fun c3 => ?_) (fun c3 => ?_)
  · have h := h.2 c3
    refine lv_iinc (v := v2 + 1) (lv' := [(2, .int (v2 + 1)), (0, va_rf v0), (1, va_rf v1)]) M.1 M.2.1 dX4_reads_152 hl (k := 2) rfl (by rfl) (by decide) (fl_e (fl_k rfl rfl (fl_r rfl (fl_d rfl fl_0)))) (fun ls hl => ?_)
    refine lv_goto (tgt := 12) M.1 M.2.1 dX4_reads_155 (by decide) ?_
    exact hK12 _ _ _ _ h _ _ _ B (lv_sub hl [1, 2, 0] rfl)
  · have h := h.1 c3
    refine lv_iconst (v := 0) M.1 M.2.1 dX4_reads_150 (by decide) ?_
    exact g_zret M B hr hlk h (by decide) (by decide) dX4_reads_151
set_option maxRecDepth 100000 in
set_option maxHeartbeats 4000000 in
theorem tX4_reads_128 {post : Int32 → Pool → Prop} (M : MC p m c cX4_reads 4 s args RX4) (hr : meth.sig.returnType = (some FieldType.boolean)) (hlk : meth.locks = false) (hRf : 8 ≤ R.frames) (hRl : 177 ≤ R.locals) (hRc : 0 ≤ R.cells) (hRs : 0 ≤ R.slots) (X : EX adK adV A s) : ∀ (z0 : Int32) (z1 : Option Nat) (S : Pool), wX4_reads_128 post z0 z1 S → ∀ (H : Heap) (locs : List Loc) (ls : Array Slot), PB D cy A s S H locs → lv_has ls 4 [] → W p l e R s m args below meth c H locs 0 0 (MQ below (va_Qi post (PQ D cy A) A) args s 0 0 A) (F0 m 128 ls [.int z0, va_rf z1]) := by
  intro z0 z1 S h H locs ls B hl
  unfold wX4_reads_128 at h
  refine gpX4_27 M B dX4_reads_128 h (fun S1 H locs h B => ?_)
  refine lv_iconst (v := 0) M.1 M.2.1 dX4_reads_131 (by decide) ?_
  exact g_zret M B hr hlk h (by decide) (by decide) dX4_reads_132
set_option maxRecDepth 100000 in
set_option maxHeartbeats 4000000 in
theorem tX4_reads_120 {post : Int32 → Pool → Prop} (M : MC p m c cX4_reads 4 s args RX4) (hr : meth.sig.returnType = (some FieldType.boolean)) (hlk : meth.locks = false) (hRf : 8 ≤ R.frames) (hRl : 177 ≤ R.locals) (hRc : 0 ≤ R.cells) (hRs : 0 ≤ R.slots) (X : EX adK adV A s) : ∀ (v3 : Int32) (z0 : Option Nat) (S : Pool), wX4_reads_120 post v3 z0 S → ∀ (H : Heap) (locs : List Loc) (ls : Array Slot), PB D cy A s S H locs → lv_has ls 4 [(3, .int v3)] → W p l e R s m args below meth c H locs 0 0 (MQ below (va_Qi post (PQ D cy A) A) args s 0 0 A) (F0 m 120 ls [va_rf z0]) := by
  intro v3 z0 S h H locs ls B hl
  unfold wX4_reads_120 at h
  refine lv_iload_n M.1 M.2.1 dX4_reads_120 rfl (lv_at hl 0 rfl) ?_
  refine lv_goto (tgt := 128) M.1 M.2.1 dX4_reads_121 (by decide) ?_
  exact tX4_reads_128 M hr hlk hRf hRl hRc hRs X _ _ _ h _ _ _ B (lv_sub hl [] rfl)
set_option maxRecDepth 100000 in
set_option maxHeartbeats 4000000 in
theorem tX4_reads_95 {K12 : Option Nat → Option Nat → Int32 → Pool → Prop} {post : Int32 → Pool → Prop} (M : MC p m c cX4_reads 4 s args RX4) (hr : meth.sig.returnType = (some FieldType.boolean)) (hlk : meth.locks = false) (hRf : 8 ≤ R.frames) (hRl : 177 ≤ R.locals) (hRc : 0 ≤ R.cells) (hRs : 0 ≤ R.slots) (X : EX adK adV A s) (hK12 : ∀ (v0 : Option Nat) (v1 : Option Nat) (v2 : Int32) (S : Pool), K12 v0 v1 v2 S → ∀ (H : Heap) (locs : List Loc) (ls : Array Slot), PB D cy A s S H locs → lv_has ls 4 [(0, va_rf v0), (1, va_rf v1), (2, .int v2)] → W p l e R s m args below meth c H locs 0 0 (MQ below (va_Qi post (PQ D cy A) A) args s 0 0 A) (F0 m 12 ls [])) : ∀ (v0 : Option Nat) (v1 : Option Nat) (v2 : Int32) (v3 : Int32) (S : Pool), wX4_reads_95 K12 post v0 v1 v2 v3 S → ∀ (H : Heap) (locs : List Loc) (ls : Array Slot), PB D cy A s S H locs → lv_has ls 4 [(0, va_rf v0), (1, va_rf v1), (2, .int v2), (3, .int v3)] → W p l e R s m args below meth c H locs 0 0 (MQ below (va_Qi post (PQ D cy A) A) args s 0 0 A) (F0 m 95 ls []) := by
  intro v0 v1 v2 v3 S h H locs ls B hl
  unfold wX4_reads_95 at h
  refine lv_iload_n M.1 M.2.1 dX4_reads_95 rfl (lv_at hl 2 rfl) ?_
  refine lv_bipush (v := 6) M.1 M.2.1 dX4_reads_96 (by decide) ?_
  refine lv_icmp_ne (tgt := 133) M.1 M.2.1 dX4_reads_98 (by decide) (fun c1 => ?_) (fun c1 => ?_)
  · have h := h.2 c1
    refine g_aload_n M dX4_reads_133 rfl (lv_at hl 0 rfl) ?_
    refine g_aload_n M dX4_reads_134 rfl (lv_at hl 1 rfl) ?_
    refine lv_iload_n M.1 M.2.1 dX4_reads_135 rfl (lv_at hl 2 rfl) ?_
    refine lv_if_ne (tgt := 143) M.1 M.2.1 dX4_reads_136 (by decide) (fun c2 => ?_) (fun c2 => ?_)
    · have h := h.2 c2
      refine lv_iconst (v := 0) M.1 M.2.1 dX4_reads_143 (by decide) ?_
      exact tX4_reads_144 M hr hlk hRf hRl hRc hRs X hK12 _ _ _ _ _ _ _ h _ _ _ B (lv_sub hl [0, 1, 2] rfl)
    · have h := h.1 c2
      refine lv_iconst (v := 1) M.1 M.2.1 dX4_reads_139 (by decide) ?_
      refine lv_goto (tgt := 144) M.1 M.2.1 dX4_reads_140 (by decide) ?_
      exact tX4_reads_144 M hr hlk hRf hRl hRc hRs X hK12 _ _ _ _ _ _ _ h _ _ _ B (lv_sub hl [0, 1, 2] rfl)
  · have h := h.1 c1
    refine g_aload_n M dX4_reads_101 rfl (lv_at hl 0 rfl) ?_
    refine g_aload_n M dX4_reads_102 rfl (lv_at hl 0 rfl) ?_
    refine g_ldcS (w := 6) M X (by decide) rfl dX4_reads_103 ?_
    obtain ⟨o1, e1, hL1, hK1, h⟩ := h
    refine g_calli (k1 := 0) (k2 := 0) B (g_runVX (n := 1) (As := [va_rf (some (adK 6))]) (rm := rmX4_isAt) M B X e1 (kX4_isAt (v0 := v0) (v1 := 6) l D cy adK adV h _) wmX4_35 wiX4_isAt wsX4_isAt wnX4 wcdX4_isAt ⟨rfl, by decide, by decide, by decide +kernel⟩ ⟨Nat.le_trans (by decide) hRf, Nat.le_trans (by decide) hRl⟩ ⟨Nat.le_trans (by decide) hRc, Nat.le_trans (by decide) hRs⟩ hL1 hK1 (by decide) rfl rfl rfl hl.1 rfl (ct_r ct_0) (by decide) dX4_reads_105) (by decide) (by decide) (fun a4 S3 H locs h B => ?_)
    refine lv_if_ne (tgt := 120) M.1 M.2.1 dX4_reads_108 (by decide) (fun c5 => ?_) (fun c5 => ?_)
    · have h := h.2 c5
      exact tX4_reads_120 M hr hlk hRf hRl hRc hRs X _ _ _ h _ _ _ B (lv_sub hl [3] rfl)
    · have h := h.1 c5
      refine g_aload_n M dX4_reads_111 rfl (lv_at hl 0 rfl) ?_
      refine g_ldcS (w := 7) M X (by decide) rfl dX4_reads_112 ?_
      obtain ⟨o1, e1, hL1, hK1, h⟩ := h
      refine g_calli (k1 := 0) (k2 := 0) B (g_runVX (n := 1) (As := [va_rf (some (adK 7))]) (rm := rmX4_isAt) M B X e1 (kX4_isAt (v0 := v0) (v1 := 7) l D cy adK adV h _) wmX4_35 wiX4_isAt wsX4_isAt wnX4 wcdX4_isAt ⟨rfl, by decide, by decide, by decide +kernel⟩ ⟨Nat.le_trans (by decide) hRf, Nat.le_trans (by decide) hRl⟩ ⟨Nat.le_trans (by decide) hRc, Nat.le_trans (by decide) hRs⟩ hL1 hK1 (by decide) rfl rfl rfl hl.1 rfl (ct_r ct_0) (by decide) dX4_reads_114) (by decide) (by decide) (fun a7 S6 H locs h B => ?_)
      refine lv_if_eq (tgt := 124) M.1 M.2.1 dX4_reads_117 (by decide) (fun c8 => ?_) (fun c8 => ?_)
      · have h := h.1 c8
        refine g_aload_n M dX4_reads_124 rfl (lv_at hl 0 rfl) ?_
        refine gfX4_27 M B dX4_reads_125 h (fun a9 h => ?_)
        exact tX4_reads_128 M hr hlk hRf hRl hRc hRs X _ _ _ h _ _ _ B (lv_sub hl [] rfl)
      · have h := h.2 c8
        exact tX4_reads_120 M hr hlk hRf hRl hRc hRs X _ _ _ h _ _ _ B (lv_sub hl [3] rfl)
set_option maxRecDepth 100000 in
set_option maxHeartbeats 4000000 in
theorem tX4_reads_42 {K12 : Option Nat → Option Nat → Int32 → Pool → Prop} {post : Int32 → Pool → Prop} (M : MC p m c cX4_reads 4 s args RX4) (hr : meth.sig.returnType = (some FieldType.boolean)) (hlk : meth.locks = false) (hRf : 8 ≤ R.frames) (hRl : 177 ≤ R.locals) (hRc : 0 ≤ R.cells) (hRs : 0 ≤ R.slots) (X : EX adK adV A s) (hK12 : ∀ (v0 : Option Nat) (v1 : Option Nat) (v2 : Int32) (S : Pool), K12 v0 v1 v2 S → ∀ (H : Heap) (locs : List Loc) (ls : Array Slot), PB D cy A s S H locs → lv_has ls 4 [(0, va_rf v0), (1, va_rf v1), (2, .int v2)] → W p l e R s m args below meth c H locs 0 0 (MQ below (va_Qi post (PQ D cy A) A) args s 0 0 A) (F0 m 12 ls [])) : ∀ (v0 : Option Nat) (v1 : Option Nat) (v2 : Int32) (S : Pool), wX4_reads_42 K12 post v0 v1 v2 S → ∀ (H : Heap) (locs : List Loc) (ls : Array Slot), PB D cy A s S H locs → lv_has ls 4 [(0, va_rf v0), (1, va_rf v1), (2, .int v2)] → W p l e R s m args below meth c H locs 0 0 (MQ below (va_Qi post (PQ D cy A) A) args s 0 0 A) (F0 m 42 ls []) := by
  intro v0 v1 v2 S h H locs ls B hl
  unfold wX4_reads_42 at h
  refine g_aload_n M dX4_reads_42 rfl (lv_at hl 0 rfl) ?_
  refine gfX4_19 M B dX4_reads_43 h (fun a1 h => ?_)
  refine lv_iconst (v := 3) M.1 M.2.1 dX4_reads_46 (by decide) ?_
  refine lv_icmp_eq (tgt := 52) M.1 M.2.1 dX4_reads_47 (by decide) (fun c2 => ?_) (fun c2 => ?_)
  · have h := h.1 c2
    refine g_aload_n M dX4_reads_52 rfl (lv_at hl 0 rfl) ?_
    refine gfX4_27 M B dX4_reads_53 h (fun a3 h => ?_)
    refine lv_istore_n (lv' := [(3, .int a3), (0, va_rf v0), (1, va_rf v1), (2, .int v2)]) M.1 M.2.1 dX4_reads_56 rfl hl (by decide) (fl_e (fl_k rfl rfl (fl_k rfl rfl (fl_i rfl fl_0)))) (fun ls hl => ?_)
    refine g_aload_n M dX4_reads_57 rfl (lv_at hl 1 rfl) ?_
    obtain ⟨o1, e1, hL1, hK1, h⟩ := h
    refine g_callv (k1 := 0) (k2 := 0) B (g_runV (n := 0) (As := []) (rm := rmX4_advance) M B e1 (kX4_advance (v0 := v0) l D cy h _) wmX4_30 wiX4_advance wsX4_advance wnX4 wcdX4_advance ⟨rfl, by decide, by decide, by decide +kernel⟩ ⟨Nat.le_trans (by decide) hRf, Nat.le_trans (by decide) hRl⟩ ⟨Nat.le_trans (by decide) hRc, Nat.le_trans (by decide) hRs⟩ hL1 hK1 (by decide) rfl rfl rfl hl.1 rfl ct_0 (by decide) dX4_reads_58) (by decide) (by decide) (fun S4 H locs h B => ?_)
    refine lv_iload_n M.1 M.2.1 dX4_reads_61 rfl (lv_at hl 3 rfl) ?_
    refine lv_if_le (tgt := 95) M.1 M.2.1 dX4_reads_62 (by decide) (fun c5 => ?_) (fun c5 => ?_)
    · have h := h.1 c5
      exact tX4_reads_95 M hr hlk hRf hRl hRc hRs X hK12 _ _ _ _ _ h _ _ _ B (lv_sub hl [1, 2, 3, 0] rfl)
    · have h := h.2 c5
      refine g_aload_n M dX4_reads_65 rfl (lv_at hl 1 rfl) ?_
      refine g_ldcS (w := 4) M X (by decide) rfl dX4_reads_66 ?_
      obtain ⟨o1, e1, hL1, hK1, h⟩ := h
      refine g_calli (k1 := 0) (k2 := 0) B (g_runVX (n := 1) (As := [va_rf (some (adK 4))]) (rm := rmX4_isAt) M B X e1 (kX4_isAt (v0 := v0) (v1 := 4) l D cy adK adV h _) wmX4_35 wiX4_isAt wsX4_isAt wnX4 wcdX4_isAt ⟨rfl, by decide, by decide, by decide +kernel⟩ ⟨Nat.le_trans (by decide) hRf, Nat.le_trans (by decide) hRl⟩ ⟨Nat.le_trans (by decide) hRc, Nat.le_trans (by decide) hRs⟩ hL1 hK1 (by decide) rfl rfl rfl hl.1 rfl ct_0 (by decide) dX4_reads_68) (by decide) (by decide) (fun a7 S6 H locs h B => ?_)
      refine lv_if_eq (tgt := 95) M.1 M.2.1 dX4_reads_71 (by decide) (fun c8 => ?_) (fun c8 => ?_)
      · have h := h.1 c8
        exact tX4_reads_95 M hr hlk hRf hRl hRc hRs X hK12 _ _ _ _ _ h _ _ _ B (lv_sub hl [1, 2, 3, 0] rfl)
      · have h := h.2 c8
        refine g_aload_n M dX4_reads_74 rfl (lv_at hl 1 rfl) ?_
        refine gfX4_23 M B dX4_reads_75 h (fun a9 h => ?_)
        refine lv_if_ne (tgt := 93) M.1 M.2.1 dX4_reads_78 (by decide) (fun c10 => ?_) (fun c10 => ?_)
        · have h := h.2 c10
          refine lv_iconst (v := 0) M.1 M.2.1 dX4_reads_93 (by decide) ?_
          exact g_zret M B hr hlk h (by decide) (by decide) dX4_reads_94
        · have h := h.1 c10
          refine g_aload_n M dX4_reads_81 rfl (lv_at hl 1 rfl) ?_
          refine g_aload_n M dX4_reads_82 rfl (lv_at hl 2 rfl) ?_
          obtain ⟨o1, e1, hL1, hK1, h⟩ := h
          refine g_calli (k1 := 0) (k2 := 0) B (g_runVX (n := 1) (As := [va_rf v1]) (rm := rmX4_readsSpread) M B X e1 (kX4_readsSpread (v0 := v0) (v1 := v1) l D cy adK adV h _) wmX4_39 wiX4_readsSpread wsX4_readsSpread wnX4 wcdX4_readsSpread ⟨rfl, by decide, by decide, by decide +kernel⟩ ⟨Nat.le_trans (by decide) hRf, Nat.le_trans (by decide) hRl⟩ ⟨Nat.le_trans (by decide) hRc, Nat.le_trans (by decide) hRs⟩ hL1 hK1 (by decide) rfl rfl rfl hl.1 rfl ct_0 (by decide) dX4_reads_83) (by decide) (by decide) (fun a12 S11 H locs h B => ?_)
          refine lv_if_eq (tgt := 93) M.1 M.2.1 dX4_reads_86 (by decide) (fun c13 => ?_) (fun c13 => ?_)
          · have h := h.1 c13
            refine lv_iconst (v := 0) M.1 M.2.1 dX4_reads_93 (by decide) ?_
            exact g_zret M B hr hlk h (by decide) (by decide) dX4_reads_94
          · have h := h.2 c13
            refine lv_iconst (v := 1) M.1 M.2.1 dX4_reads_89 (by decide) ?_
            refine lv_goto (tgt := 94) M.1 M.2.1 dX4_reads_90 (by decide) ?_
            exact g_zret M B hr hlk h (by decide) (by decide) dX4_reads_94
  · have h := h.2 c2
    refine lv_iconst (v := 0) M.1 M.2.1 dX4_reads_50 (by decide) ?_
    exact g_zret M B hr hlk h (by decide) (by decide) dX4_reads_51
set_option maxRecDepth 100000 in
set_option maxHeartbeats 4000000 in
theorem tX4_reads_12 {post : Int32 → Pool → Prop} (M : MC p m c cX4_reads 4 s args RX4) (hr : meth.sig.returnType = (some FieldType.boolean)) (hlk : meth.locks = false) (hRf : 8 ≤ R.frames) (hRl : 177 ≤ R.locals) (hRc : 0 ≤ R.cells) (hRs : 0 ≤ R.slots) (X : EX adK adV A s) : ∀ (n : Nat) (v0 : Option Nat) (v1 : Option Nat) (v2 : Int32) (S : Pool), wX4_reads_12 post n v0 v1 v2 S → ∀ (H : Heap) (locs : List Loc) (ls : Array Slot), PB D cy A s S H locs → lv_has ls 4 [(0, va_rf v0), (1, va_rf v1), (2, .int v2)] → W p l e R s m args below meth c H locs 0 0 (MQ below (va_Qi post (PQ D cy A) A) args s 0 0 A) (F0 m 12 ls []) := by
  intro n
  induction n with
  | zero => intro v0 v1 v2 S h; exact False.elim h
  | succ n ih =>
    intro v0 v1 v2 S h H locs ls B hl
    unfold wX4_reads_12 at h
    refine lv_iload_n M.1 M.2.1 dX4_reads_12 rfl (lv_at hl 2 rfl) ?_
    refine lv_bipush (v := 6) M.1 M.2.1 dX4_reads_13 (by decide) ?_
    refine lv_icmp_gt (tgt := 158) M.1 M.2.1 dX4_reads_15 (by decide) (fun c1 => ?_) (fun c1 => ?_)
    · have h := h.1 c1
      refine lv_iconst (v := 0) M.1 M.2.1 dX4_reads_158 (by decide) ?_
      exact g_zret M B hr hlk h (by decide) (by decide) dX4_reads_159
    · have h := h.2 c1
      refine lv_iload_n M.1 M.2.1 dX4_reads_18 rfl (lv_at hl 2 rfl) ?_
      refine lv_if_le (tgt := 42) M.1 M.2.1 dX4_reads_19 (by decide) (fun c2 => ?_) (fun c2 => ?_)
      · have h := h.1 c2
        exact tX4_reads_42 M hr hlk hRf hRl hRc hRs X ih _ _ _ _ h _ _ _ B (lv_sub hl [0, 1, 2] rfl)
      · have h := h.2 c2
        refine g_aload_n M dX4_reads_22 rfl (lv_at hl 0 rfl) ?_
        refine gfX4_19 M B dX4_reads_23 h (fun a3 h => ?_)
        refine lv_if_ne (tgt := 42) M.1 M.2.1 dX4_reads_26 (by decide) (fun c4 => ?_) (fun c4 => ?_)
        · have h := h.2 c4
          exact tX4_reads_42 M hr hlk hRf hRl hRc hRs X ih _ _ _ _ h _ _ _ B (lv_sub hl [0, 1, 2] rfl)
        · have h := h.1 c4
          refine g_aload_n M dX4_reads_29 rfl (lv_at hl 0 rfl) ?_
          refine gfX4_23 M B dX4_reads_30 h (fun a5 h => ?_)
          refine lv_if_ne (tgt := 40) M.1 M.2.1 dX4_reads_33 (by decide) (fun c6 => ?_) (fun c6 => ?_)
          · have h := h.2 c6
            refine lv_iconst (v := 0) M.1 M.2.1 dX4_reads_40 (by decide) ?_
            exact g_zret M B hr hlk h (by decide) (by decide) dX4_reads_41
          · have h := h.1 c6
            refine lv_iconst (v := 1) M.1 M.2.1 dX4_reads_36 (by decide) ?_
            refine lv_goto (tgt := 41) M.1 M.2.1 dX4_reads_37 (by decide) ?_
            exact g_zret M B hr hlk h (by decide) (by decide) dX4_reads_41
set_option maxRecDepth 100000 in
set_option maxHeartbeats 4000000 in
theorem tX4_reads {post : Int32 → Pool → Prop} (M : MC p m c cX4_reads 4 s args RX4) (hr : meth.sig.returnType = (some FieldType.boolean)) (hlk : meth.locks = false) (hRf : 8 ≤ R.frames) (hRl : 177 ≤ R.locals) (hRc : 0 ≤ R.cells) (hRs : 0 ≤ R.slots) (X : EX adK adV A s) : ∀ (v0 : Option Nat) (v1 : Option Nat) (S : Pool), wX4_reads post v0 v1 S → ∀ (H : Heap) (locs : List Loc) (ls : Array Slot), PB D cy A s S H locs → lv_has ls 4 [(0, va_rf v0), (1, va_rf v1)] → W p l e R s m args below meth c H locs 0 0 (MQ below (va_Qi post (PQ D cy A) A) args s 0 0 A) (F0 m 0 ls []) := by
  intro v0 v1 S h H locs ls B hl
  unfold wX4_reads at h
  refine g_aload_n M dX4_reads_0 rfl (lv_at hl 0 rfl) ?_
  refine g_aload_n M dX4_reads_1 rfl (lv_at hl 1 rfl) ?_
  obtain ⟨o1, e1, hL1, hK1, h⟩ := h
  refine g_calli (k1 := 0) (k2 := 0) B (g_runVX (n := 1) (As := [va_rf v1]) (rm := rmX4_readsBy) M B X e1 (kX4_readsBy (v0 := v0) (v1 := v1) l D cy adK adV h _) wmX4_15 wiX4_readsBy wsX4_readsBy wnX4 wcdX4_readsBy ⟨rfl, by decide, by decide, by decide +kernel⟩ ⟨Nat.le_trans (by decide) hRf, Nat.le_trans (by decide) hRl⟩ ⟨Nat.le_trans (by decide) hRc, Nat.le_trans (by decide) hRs⟩ hL1 hK1 (by decide) rfl rfl rfl hl.1 rfl ct_0 (by decide) dX4_reads_2) (by decide) (by decide) (fun a2 S1 H locs h B => ?_)
  refine lv_if_ne (tgt := 10) M.1 M.2.1 dX4_reads_5 (by decide) (fun c3 => ?_) (fun c3 => ?_)
  · have h := h.2 c3
    refine lv_iconst (v := 0) M.1 M.2.1 dX4_reads_10 (by decide) ?_
    refine lv_istore_n (lv' := [(2, .int 0), (0, va_rf v0), (1, va_rf v1)]) M.1 M.2.1 dX4_reads_11 rfl hl (by decide) (fl_e (fl_k rfl rfl (fl_r rfl fl_0))) (fun ls hl => ?_)
    obtain ⟨n1, h⟩ := h
    exact tX4_reads_12 M hr hlk hRf hRl hRc hRs X n1 _ _ _ _ h _ _ _ B (lv_sub hl [1, 2, 0] rfl)
  · have h := h.1 c3
    refine lv_iconst (v := 0) M.1 M.2.1 dX4_reads_8 (by decide) ?_
    exact g_zret M B hr hlk h (by decide) (by decide) dX4_reads_9
end
set_option maxRecDepth 100000 in
set_option maxHeartbeats 4000000 in
theorem kX4_reads (l : Launch) (D : va_G) (cy : Nat → ClassId) (adK adV : Nat → Nat) {post : Int32 → Pool → Prop} {v0 : Option Nat} {v1 : Option Nat} {S : Pool} (h : wX4_reads post v0 v1 S) : MetIX l adK adV yX4_reads cX4_reads 4 (some FieldType.boolean) rmX4_reads [va_rf v0, va_rf v1] D cy S post := by
  intro sz
  refine Met.ofW (cc := cX4_reads) (maxL := 4) (ret := (some FieldType.boolean)) (by decide) rfl ?_
  intro p e s m args below meth c s₁ B0 hml hv
  obtain ⟨rfl, hpp⟩ := hv
  have hts := atoms_spec (ws := .code yX4_reads cX4_reads 4 (some FieldType.boolean) :: Gw) B0.pre
  obtain rfl : s.heap.size = sz := hpp.1.1
  have hl := lv_entry [va_rf v0, va_rf v1] (n := 4) (by rw [sl_r, sl_r, sl_0]; decide)
  rw [lg_entry_eq]
  rw [la_r, la_r, la_0] at hl
  exact tX4_reads (l := l) (R := rmX4_reads) ⟨B0.exec, B0.bytes, hml, findClass_of_methodNamed B0.named, fun w hw => hts w (List.mem_cons_of_mem _ hw)⟩ B0.returns B0.notSynchronized (Nat.le_refl _) (Nat.le_refl _) (Nat.le_refl _) (Nat.le_refl _) hpp.ex _ _ _ h _ _ _ hpp.1.pb (lv_sub hl [0, 1] rfl)
