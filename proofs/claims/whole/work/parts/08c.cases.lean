-- X1_init: LogHunt$Cases.<init>(LLogHunt$Log;)V
def wX1_init (post : Pool → Prop) (v0 : Option Nat) (v1 : Option Nat) (S : Pool) : Prop := xnn v0 (xna S 10 250 250 fun a1 S2 => xpR S2 v0 1 1 a1 fun S3 => xna S3 10 250 250 fun a4 S5 => xpR S5 v0 1 2 a4 fun S6 => xna S6 10 250 250 fun a7 S8 => xpR S8 v0 1 3 a7 fun S9 => xna S9 12 31 31 fun a10 S11 => xpR S11 v0 1 4 a10 fun S12 => xna S12 12 16 16 fun a13 S14 => xpR S14 v0 1 5 a13 fun S15 => xpR S15 v0 1 0 v1 fun S16 => post S16)
def rmX1_init : Room := { frames := 1, cells := 5, slots := 797, locals := 12 }
section
variable {p : Program} {l : Launch} {e : Env} {R : Room} {s : State} {m : MethodId} {args : Array Value} {below : List Frame} {meth : Method} {c : Code} {D : va_G} {cy : Nat → ClassId} {A : Nat → Prop}
set_option maxRecDepth 100000 in
set_option maxHeartbeats 4000000 in
theorem tX1_init {post : Pool → Prop} (M : MC p m c cX1_init 2 s args RX1) (hr : meth.sig.returnType = none) (hlk : meth.locks = false) (hRf : 1 ≤ R.frames) (hRl : 12 ≤ R.locals) (hRc : 5 ≤ R.cells) (hRs : 797 ≤ R.slots) (hin : meth.name = "<init>") : ∀ (v0 : Option Nat) (v1 : Option Nat) (S : Pool), wX1_init post v0 v1 S → ∀ (H : Heap) (locs : List Loc) (ls : Array Slot), PB D cy A s S H locs → lv_has ls 2 [(0, va_rf v0), (1, va_rf v1)] → W p l e R s m args below meth c H locs 0 0 (MQ below (va_Qv post (PQ D cy A) A) args s 5 797 A) (F0 m 0 ls []) := by
  intro v0 v1 S h H locs ls B hl
  unfold wX1_init at h
  refine g_aload_n M dX1_init_0 rfl (lv_at hl 0 rfl) ?_
  obtain ⟨⟨o1, e1⟩, h⟩ := h
  refine g_objInit M e1 wmX1_3 hl.1 dX1_init_1 rfl (Nat.le_trans (by decide) hRf) (Nat.le_trans (by decide) hRl) ?_
  refine g_aload_n M dX1_init_4 rfl (lv_at hl 0 rfl) ?_
  refine lv_sipush (v := 250) M.1 M.2.1 dX1_init_5 (by decide) ?_
  refine g_newI (N := 250) M B (by decide) (Nat.le_trans (by decide) hRc) (Nat.le_trans (by decide) hRs) dX1_init_8 h (fun a1 S2 H locs h B => ?_)
  refine W.widen (k := 1) (n := 250) (by decide) (by decide) ?_
  refine gpX1_9 M B hin dX1_init_10 h (fun S3 H locs h B => ?_)
  refine g_aload_n M dX1_init_13 rfl (lv_at hl 0 rfl) ?_
  refine lv_sipush (v := 250) M.1 M.2.1 dX1_init_14 (by decide) ?_
  refine g_newI (N := 250) M B (by decide) (Nat.le_trans (by decide) hRc) (Nat.le_trans (by decide) hRs) dX1_init_17 h (fun a4 S5 H locs h B => ?_)
  refine W.widen (k := 2) (n := 500) (by decide) (by decide) ?_
  refine gpX1_15 M B hin dX1_init_19 h (fun S6 H locs h B => ?_)
  refine g_aload_n M dX1_init_22 rfl (lv_at hl 0 rfl) ?_
  refine lv_sipush (v := 250) M.1 M.2.1 dX1_init_23 (by decide) ?_
  refine g_newI (N := 250) M B (by decide) (Nat.le_trans (by decide) hRc) (Nat.le_trans (by decide) hRs) dX1_init_26 h (fun a7 S8 H locs h B => ?_)
  refine W.widen (k := 3) (n := 750) (by decide) (by decide) ?_
  refine gpX1_18 M B hin dX1_init_28 h (fun S9 H locs h B => ?_)
  refine g_aload_n M dX1_init_31 rfl (lv_at hl 0 rfl) ?_
  refine lv_bipush (v := 31) M.1 M.2.1 dX1_init_32 (by decide) ?_
  refine g_newA (kd := 12) (j := 2) (N := 31) M B ⟨by decide, by decide⟩ rfl wcX1_21 B.2.2.2.2.2.2.2.2.2.2.2.2.1 (by decide) (Nat.le_trans (by decide) hRc) (Nat.le_trans (by decide) hRs) dX1_init_34 h (fun a10 S11 H locs h B => ?_)
  refine W.widen (k := 4) (n := 781) (by decide) (by decide) ?_
  refine gpX1_23 M B hin dX1_init_37 h (fun S12 H locs h B => ?_)
  refine g_aload_n M dX1_init_40 rfl (lv_at hl 0 rfl) ?_
  refine lv_bipush (v := 16) M.1 M.2.1 dX1_init_41 (by decide) ?_
  refine g_newA (kd := 12) (j := 2) (N := 16) M B ⟨by decide, by decide⟩ rfl wcX1_21 B.2.2.2.2.2.2.2.2.2.2.2.2.1 (by decide) (Nat.le_trans (by decide) hRc) (Nat.le_trans (by decide) hRs) dX1_init_43 h (fun a13 S14 H locs h B => ?_)
  refine W.widen (k := 5) (n := 797) (by decide) (by decide) ?_
  refine gpX1_27 M B hin dX1_init_46 h (fun S15 H locs h B => ?_)
  refine g_aload_n M dX1_init_49 rfl (lv_at hl 0 rfl) ?_
  refine g_aload_n M dX1_init_50 rfl (lv_at hl 1 rfl) ?_
  refine gpX1_30 M B hin dX1_init_51 h (fun S16 H locs h B => ?_)
  exact g_vret M B hr hlk h (by decide) (by decide) dX1_init_54
end
set_option maxRecDepth 100000 in
set_option maxHeartbeats 4000000 in
theorem kX1_init (l : Launch) (D : va_G) (cy : Nat → ClassId) {post : Pool → Prop} {v0 : Option Nat} {v1 : Option Nat} {S : Pool} (h : wX1_init post v0 v1 S) : MetV l yX1_init cX1_init 2 rmX1_init [va_rf v0, va_rf v1] D cy S post := by
  intro sz
  refine Met.ofW (cc := cX1_init) (maxL := 2) (ret := none) (by decide) rfl ?_
  intro p e s m args below meth c s₁ B0 hml hv
  obtain ⟨rfl, hpp⟩ := hv
  have hts := atoms_spec (ws := .code yX1_init cX1_init 2 none :: Gw) B0.pre
  obtain rfl : s.heap.size = sz := hpp.1
  have hl := lv_entry [va_rf v0, va_rf v1] (n := 2) (by rw [sl_r, sl_r, sl_0]; decide)
  rw [lg_entry_eq]
  rw [la_r, la_r, la_0] at hl
  exact tX1_init (l := l) (R := rmX1_init) ⟨B0.exec, B0.bytes, hml, findClass_of_methodNamed B0.named, fun w hw => hts w (List.mem_cons_of_mem _ hw)⟩ B0.returns B0.notSynchronized (Nat.le_refl _) (Nat.le_refl _) (Nat.le_refl _) (Nat.le_refl _) (name_of_methodNamed B0.named B0.method).1 _ _ _ h _ _ _ hpp.pb (lv_sub hl [0, 1] rfl)
-- X1_clear: LogHunt$Cases.clear()V
def wX1_clear_71 (post : Pool → Prop) : Nat → Option Nat → Int32 → Pool → Prop
  | 0 => fun _ _ _ => False
  | n + 1 => fun v0 v1 S => br (16 ≤ v1) (post S) (xR S v0 1 5 fun a2 => xsR S a2 12 0 v1 none fun S3 => wX1_clear_71 post n v0 (v1 + 1) S3)
def wX1_clear_50 (post : Pool → Prop) : Nat → Option Nat → Int32 → Pool → Prop
  | 0 => fun _ _ _ => False
  | n + 1 => fun v0 v1 S => br (31 ≤ v1) (∃ n1, wX1_clear_71 post n1 v0 0 S) (xR S v0 1 4 fun a2 => xsR S a2 12 0 v1 none fun S3 => wX1_clear_50 post n v0 (v1 + 1) S3)
def wX1_clear_28 (post : Pool → Prop) : Nat → Option Nat → Int32 → Pool → Prop
  | 0 => fun _ _ _ => False
  | n + 1 => fun v0 v1 S => br (250 ≤ v1) (∃ n1, wX1_clear_50 post n1 v0 0 S) (xR S v0 1 2 fun a2 => xsI S a2 10 v1 v1 fun S3 => wX1_clear_28 post n v0 (v1 + 1) S3)
def wX1_clear (post : Pool → Prop) (v0 : Option Nat) (S : Pool) : Prop := xpI S v0 1 6 0 fun S1 => xpI S1 v0 1 7 0 fun S2 => xR S2 v0 1 1 fun a3 => wJ7_fill_53178 (fun S4 => xR S4 v0 1 3 fun a5 => wJ7_fill_53178 (fun S6 => ∃ n1, wX1_clear_28 post n1 v0 0 S6) a5 0 S4) a3 0 S2
def rmX1_clear : Room := { frames := 1, cells := 0, slots := 0, locals := 23 }
section
variable {p : Program} {l : Launch} {e : Env} {R : Room} {s : State} {m : MethodId} {args : Array Value} {below : List Frame} {meth : Method} {c : Code} {D : va_G} {cy : Nat → ClassId} {A : Nat → Prop}
set_option maxRecDepth 100000 in
set_option maxHeartbeats 4000000 in
theorem tX1_clear_71 {post : Pool → Prop} (M : MC p m c cX1_clear 2 s args RX1) (hr : meth.sig.returnType = none) (hlk : meth.locks = false) (hRf : 1 ≤ R.frames) (hRl : 23 ≤ R.locals) (hRc : 0 ≤ R.cells) (hRs : 0 ≤ R.slots) : ∀ (n : Nat) (v0 : Option Nat) (v1 : Int32) (S : Pool), wX1_clear_71 post n v0 v1 S → ∀ (H : Heap) (locs : List Loc) (ls : Array Slot), PB D cy A s S H locs → lv_has ls 2 [(0, va_rf v0), (1, .int v1)] → W p l e R s m args below meth c H locs 0 0 (MQ below (va_Qv post (PQ D cy A) A) args s 0 0 A) (F0 m 71 ls []) := by
  intro n
  induction n with
  | zero => intro v0 v1 S h; exact False.elim h
  | succ n ih =>
    intro v0 v1 S h H locs ls B hl
    unfold wX1_clear_71 at h
    refine lv_iload_n M.1 M.2.1 dX1_clear_71 rfl (lv_at hl 1 rfl) ?_
    refine lv_bipush (v := 16) M.1 M.2.1 dX1_clear_72 (by decide) ?_
    refine lv_icmp_ge (tgt := 90) M.1 M.2.1 dX1_clear_74 (by decide) (fun c1 => ?_) (fun c1 => ?_)
    · have h := h.1 c1
      exact g_vret M B hr hlk h (by decide) (by decide) dX1_clear_90
    · have h := h.2 c1
      refine g_aload_n M dX1_clear_77 rfl (lv_at hl 0 rfl) ?_
      refine gfX1_27 M B dX1_clear_78 h (fun a2 h => ?_)
      refine lv_iload_n M.1 M.2.1 dX1_clear_81 rfl (lv_at hl 1 rfl) ?_
      refine g_null M dX1_clear_82 ?_
      refine g_aast (kd := 12) (kv := 0) (t0 := 2) M B ⟨by decide, by decide⟩ (by decide) rfl rfl dX1_clear_83 h (fun S3 H locs h B => ?_)
      refine lv_iinc (v := v1 + 1) (lv' := [(1, .int (v1 + 1)), (0, va_rf v0)]) M.1 M.2.1 dX1_clear_84 hl (k := 1) rfl (by rfl) (by decide) (fl_e (fl_r rfl (fl_d rfl fl_0))) (fun ls hl => ?_)
      refine lv_goto (tgt := 71) M.1 M.2.1 dX1_clear_87 (by decide) ?_
      exact ih _ _ _ h _ _ _ B (lv_sub hl [1, 0] rfl)
set_option maxRecDepth 100000 in
set_option maxHeartbeats 4000000 in
theorem tX1_clear_50 {post : Pool → Prop} (M : MC p m c cX1_clear 2 s args RX1) (hr : meth.sig.returnType = none) (hlk : meth.locks = false) (hRf : 1 ≤ R.frames) (hRl : 23 ≤ R.locals) (hRc : 0 ≤ R.cells) (hRs : 0 ≤ R.slots) : ∀ (n : Nat) (v0 : Option Nat) (v1 : Int32) (S : Pool), wX1_clear_50 post n v0 v1 S → ∀ (H : Heap) (locs : List Loc) (ls : Array Slot), PB D cy A s S H locs → lv_has ls 2 [(0, va_rf v0), (1, .int v1)] → W p l e R s m args below meth c H locs 0 0 (MQ below (va_Qv post (PQ D cy A) A) args s 0 0 A) (F0 m 50 ls []) := by
  intro n
  induction n with
  | zero => intro v0 v1 S h; exact False.elim h
  | succ n ih =>
    intro v0 v1 S h H locs ls B hl
    unfold wX1_clear_50 at h
    refine lv_iload_n M.1 M.2.1 dX1_clear_50 rfl (lv_at hl 1 rfl) ?_
    refine lv_bipush (v := 31) M.1 M.2.1 dX1_clear_51 (by decide) ?_
    refine lv_icmp_ge (tgt := 69) M.1 M.2.1 dX1_clear_53 (by decide) (fun c1 => ?_) (fun c1 => ?_)
    · have h := h.1 c1
      refine lv_iconst (v := 0) M.1 M.2.1 dX1_clear_69 (by decide) ?_
      refine lv_istore_n (lv' := [(1, .int 0), (0, va_rf v0)]) M.1 M.2.1 dX1_clear_70 rfl hl (by decide) (fl_e (fl_r rfl (fl_d rfl fl_0))) (fun ls hl => ?_)
      obtain ⟨n1, h⟩ := h
      exact tX1_clear_71 M hr hlk hRf hRl hRc hRs n1 _ _ _ h _ _ _ B (lv_sub hl [1, 0] rfl)
    · have h := h.2 c1
      refine g_aload_n M dX1_clear_56 rfl (lv_at hl 0 rfl) ?_
      refine gfX1_23 M B dX1_clear_57 h (fun a2 h => ?_)
      refine lv_iload_n M.1 M.2.1 dX1_clear_60 rfl (lv_at hl 1 rfl) ?_
      refine g_null M dX1_clear_61 ?_
      refine g_aast (kd := 12) (kv := 0) (t0 := 2) M B ⟨by decide, by decide⟩ (by decide) rfl rfl dX1_clear_62 h (fun S3 H locs h B => ?_)
      refine lv_iinc (v := v1 + 1) (lv' := [(1, .int (v1 + 1)), (0, va_rf v0)]) M.1 M.2.1 dX1_clear_63 hl (k := 1) rfl (by rfl) (by decide) (fl_e (fl_r rfl (fl_d rfl fl_0))) (fun ls hl => ?_)
      refine lv_goto (tgt := 50) M.1 M.2.1 dX1_clear_66 (by decide) ?_
      exact ih _ _ _ h _ _ _ B (lv_sub hl [1, 0] rfl)
set_option maxRecDepth 100000 in
set_option maxHeartbeats 4000000 in
theorem tX1_clear_28 {post : Pool → Prop} (M : MC p m c cX1_clear 2 s args RX1) (hr : meth.sig.returnType = none) (hlk : meth.locks = false) (hRf : 1 ≤ R.frames) (hRl : 23 ≤ R.locals) (hRc : 0 ≤ R.cells) (hRs : 0 ≤ R.slots) : ∀ (n : Nat) (v0 : Option Nat) (v1 : Int32) (S : Pool), wX1_clear_28 post n v0 v1 S → ∀ (H : Heap) (locs : List Loc) (ls : Array Slot), PB D cy A s S H locs → lv_has ls 2 [(0, va_rf v0), (1, .int v1)] → W p l e R s m args below meth c H locs 0 0 (MQ below (va_Qv post (PQ D cy A) A) args s 0 0 A) (F0 m 28 ls []) := by
  intro n
  induction n with
  | zero => intro v0 v1 S h; exact False.elim h
  | succ n ih =>
    intro v0 v1 S h H locs ls B hl
    unfold wX1_clear_28 at h
    refine lv_iload_n M.1 M.2.1 dX1_clear_28 rfl (lv_at hl 1 rfl) ?_
    refine lv_sipush (v := 250) M.1 M.2.1 dX1_clear_29 (by decide) ?_
    refine lv_icmp_ge (tgt := 48) M.1 M.2.1 dX1_clear_32 (by decide) (fun c1 => ?_) (fun c1 => ?_)
    · have h := h.1 c1
      refine lv_iconst (v := 0) M.1 M.2.1 dX1_clear_48 (by decide) ?_
      refine lv_istore_n (lv' := [(1, .int 0), (0, va_rf v0)]) M.1 M.2.1 dX1_clear_49 rfl hl (by decide) (fl_e (fl_r rfl (fl_d rfl fl_0))) (fun ls hl => ?_)
      obtain ⟨n1, h⟩ := h
      exact tX1_clear_50 M hr hlk hRf hRl hRc hRs n1 _ _ _ h _ _ _ B (lv_sub hl [1, 0] rfl)
    · have h := h.2 c1
      refine g_aload_n M dX1_clear_35 rfl (lv_at hl 0 rfl) ?_
      refine gfX1_15 M B dX1_clear_36 h (fun a2 h => ?_)
      refine lv_iload_n M.1 M.2.1 dX1_clear_39 rfl (lv_at hl 1 rfl) ?_
      refine lv_iload_n M.1 M.2.1 dX1_clear_40 rfl (lv_at hl 1 rfl) ?_
      refine g_iast M B dX1_clear_41 h (fun S3 H locs h B => ?_)
      refine lv_iinc (v := v1 + 1) (lv' := [(1, .int (v1 + 1)), (0, va_rf v0)]) M.1 M.2.1 dX1_clear_42 hl (k := 1) rfl (by rfl) (by decide) (fl_e (fl_r rfl (fl_d rfl fl_0))) (fun ls hl => ?_)
      refine lv_goto (tgt := 28) M.1 M.2.1 dX1_clear_45 (by decide) ?_
      exact ih _ _ _ h _ _ _ B (lv_sub hl [1, 0] rfl)
set_option maxRecDepth 100000 in
set_option maxHeartbeats 4000000 in
theorem tX1_clear {post : Pool → Prop} (M : MC p m c cX1_clear 2 s args RX1) (hr : meth.sig.returnType = none) (hlk : meth.locks = false) (hRf : 1 ≤ R.frames) (hRl : 23 ≤ R.locals) (hRc : 0 ≤ R.cells) (hRs : 0 ≤ R.slots) : ∀ (v0 : Option Nat) (S : Pool), wX1_clear post v0 S → ∀ (H : Heap) (locs : List Loc) (ls : Array Slot), PB D cy A s S H locs → lv_has ls 2 [(0, va_rf v0)] → W p l e R s m args below meth c H locs 0 0 (MQ below (va_Qv post (PQ D cy A) A) args s 0 0 A) (F0 m 0 ls []) := by
  intro v0 S h H locs ls B hl
  unfold wX1_clear at h
  refine g_aload_n M dX1_clear_0 rfl (lv_at hl 0 rfl) ?_
  refine lv_iconst (v := 0) M.1 M.2.1 dX1_clear_1 (by decide) ?_
  refine gpX1_34 M B dX1_clear_2 h (fun S1 H locs h B => ?_)
  refine g_aload_n M dX1_clear_5 rfl (lv_at hl 0 rfl) ?_
  refine lv_iconst (v := 0) M.1 M.2.1 dX1_clear_6 (by decide) ?_
  refine gpX1_38 M B dX1_clear_7 h (fun S2 H locs h B => ?_)
  refine g_aload_n M dX1_clear_10 rfl (lv_at hl 0 rfl) ?_
  refine gfX1_9 M B dX1_clear_11 h (fun a3 h => ?_)
  refine lv_iconst (v := 0) M.1 M.2.1 dX1_clear_14 (by decide) ?_
  refine g_callv (k1 := 0) (k2 := 0) B (g_runS (n := 2) (As := [va_rf a3, .int 0]) (rm := rmJ7_fill_53178) M B (kJ7_fill_53178 (v0 := a3) (v1 := 0) l D cy h _) wmX1_41 wstJ7_fill_53178 wnJ7 wcdJ7_fill_53178 ⟨by decide, by decide, by decide +kernel⟩ ⟨Nat.le_trans (by decide) hRf, Nat.le_trans (by decide) hRl⟩ ⟨Nat.le_trans (by decide) hRc, Nat.le_trans (by decide) hRs⟩ rfl hl.1 rfl ct_0 (by decide) dX1_clear_15) (by decide) (by decide) (fun S4 H locs h B => ?_)
  refine g_aload_n M dX1_clear_18 rfl (lv_at hl 0 rfl) ?_
  refine gfX1_18 M B dX1_clear_19 h (fun a5 h => ?_)
  refine lv_iconst (v := 0) M.1 M.2.1 dX1_clear_22 (by decide) ?_
  refine g_callv (k1 := 0) (k2 := 0) B (g_runS (n := 2) (As := [va_rf a5, .int 0]) (rm := rmJ7_fill_53178) M B (kJ7_fill_53178 (v0 := a5) (v1 := 0) l D cy h _) wmX1_41 wstJ7_fill_53178 wnJ7 wcdJ7_fill_53178 ⟨by decide, by decide, by decide +kernel⟩ ⟨Nat.le_trans (by decide) hRf, Nat.le_trans (by decide) hRl⟩ ⟨Nat.le_trans (by decide) hRc, Nat.le_trans (by decide) hRs⟩ rfl hl.1 rfl ct_0 (by decide) dX1_clear_23) (by decide) (by decide) (fun S6 H locs h B => ?_)
  refine lv_iconst (v := 0) M.1 M.2.1 dX1_clear_26 (by decide) ?_
  refine lv_istore_n (lv' := [(1, .int 0), (0, va_rf v0)]) M.1 M.2.1 dX1_clear_27 rfl hl (by decide) (fl_e (fl_r rfl fl_0)) (fun ls hl => ?_)
  obtain ⟨n1, h⟩ := h
  exact tX1_clear_28 M hr hlk hRf hRl hRc hRs n1 _ _ _ h _ _ _ B (lv_sub hl [1, 0] rfl)
end
set_option maxRecDepth 100000 in
set_option maxHeartbeats 4000000 in
theorem kX1_clear (l : Launch) (D : va_G) (cy : Nat → ClassId) {post : Pool → Prop} {v0 : Option Nat} {S : Pool} (h : wX1_clear post v0 S) : MetV l yX1_clear cX1_clear 2 rmX1_clear [va_rf v0] D cy S post := by
  intro sz
  refine Met.ofW (cc := cX1_clear) (maxL := 2) (ret := none) (by decide) rfl ?_
  intro p e s m args below meth c s₁ B0 hml hv
  obtain ⟨rfl, hpp⟩ := hv
  have hts := atoms_spec (ws := .code yX1_clear cX1_clear 2 none :: Gw) B0.pre
  obtain rfl : s.heap.size = sz := hpp.1
  have hl := lv_entry [va_rf v0] (n := 2) (by rw [sl_r, sl_0]; decide)
  rw [lg_entry_eq]
  rw [la_r, la_0] at hl
  exact tX1_clear (l := l) (R := rmX1_clear) ⟨B0.exec, B0.bytes, hml, findClass_of_methodNamed B0.named, fun w hw => hts w (List.mem_cons_of_mem _ hw)⟩ B0.returns B0.notSynchronized (Nat.le_refl _) (Nat.le_refl _) (Nat.le_refl _) (Nat.le_refl _) _ _ h _ _ _ hpp.pb (lv_sub hl [0] rfl)
-- X1_add: LogHunt$Cases.add(LLogHunt$Act;Z)V
def wX1_add (post : Pool → Prop) (v0 : Option Nat) (v1 : Option Nat) (v2 : Int32) (S : Pool) : Prop := xI S v0 1 6 fun a1 => xpI S v0 1 6 (a1 + 1) fun S2 => br (v2 = 0) (xR S2 v0 1 1 fun a4 => xI S2 v1 0 0 fun a5 => xaI S2 a4 10 a5 fun a6 => xsI S2 a4 10 a5 (a6 + 1) fun S7 => post S7) (post S2)
def rmX1_add : Room := { frames := 0, cells := 0, slots := 0, locals := 0 }
section
variable {p : Program} {l : Launch} {e : Env} {R : Room} {s : State} {m : MethodId} {args : Array Value} {below : List Frame} {meth : Method} {c : Code} {D : va_G} {cy : Nat → ClassId} {A : Nat → Prop}
set_option maxRecDepth 100000 in
set_option maxHeartbeats 4000000 in
theorem tX1_add {post : Pool → Prop} (M : MC p m c cX1_add 3 s args RX1) (hr : meth.sig.returnType = none) (hlk : meth.locks = false) (hRf : 0 ≤ R.frames) (hRl : 0 ≤ R.locals) (hRc : 0 ≤ R.cells) (hRs : 0 ≤ R.slots) : ∀ (v0 : Option Nat) (v1 : Option Nat) (v2 : Int32) (S : Pool), wX1_add post v0 v1 v2 S → ∀ (H : Heap) (locs : List Loc) (ls : Array Slot), PB D cy A s S H locs → lv_has ls 3 [(0, va_rf v0), (1, va_rf v1), (2, .int v2)] → W p l e R s m args below meth c H locs 0 0 (MQ below (va_Qv post (PQ D cy A) A) args s 0 0 A) (F0 m 0 ls []) := by
  intro v0 v1 v2 S h H locs ls B hl
  unfold wX1_add at h
  refine g_aload_n M dX1_add_0 rfl (lv_at hl 0 rfl) ?_
  refine lv_dup M.1 M.2.1 dX1_add_1 (rf_cat _) ?_
  refine gfX1_34 M B dX1_add_2 h (fun a1 h => ?_)
  refine lv_iconst (v := 1) M.1 M.2.1 dX1_add_5 (by decide) ?_
  refine lv_iadd M.1 M.2.1 dX1_add_6 ?_
  refine gpX1_34 M B dX1_add_7 h (fun S2 H locs h B => ?_)
  refine lv_iload_n M.1 M.2.1 dX1_add_10 rfl (lv_at hl 2 rfl) ?_
  refine lv_if_ne (tgt := 27) M.1 M.2.1 dX1_add_11 (by decide) (fun c3 => ?_) (fun c3 => ?_)
  · have h := h.2 c3
    exact g_vret M B hr hlk h (by decide) (by decide) dX1_add_27
  · have h := h.1 c3
    refine g_aload_n M dX1_add_14 rfl (lv_at hl 0 rfl) ?_
    refine gfX1_9 M B dX1_add_15 h (fun a4 h => ?_)
    refine g_aload_n M dX1_add_18 rfl (lv_at hl 1 rfl) ?_
    refine gfX1_47 M B dX1_add_19 h (fun a5 h => ?_)
    refine lv_dup2_11 M.1 M.2.1 dX1_add_22 (rfl) (rf_cat _) ?_
    refine g_iald M B dX1_add_23 h (fun a6 h => ?_)
    refine lv_iconst (v := 1) M.1 M.2.1 dX1_add_24 (by decide) ?_
    refine lv_iadd M.1 M.2.1 dX1_add_25 ?_
    refine g_iast M B dX1_add_26 h (fun S7 H locs h B => ?_)
    exact g_vret M B hr hlk h (by decide) (by decide) dX1_add_27
end
set_option maxRecDepth 100000 in
set_option maxHeartbeats 4000000 in
theorem kX1_add (l : Launch) (D : va_G) (cy : Nat → ClassId) {post : Pool → Prop} {v0 : Option Nat} {v1 : Option Nat} {v2 : Int32} {S : Pool} (h : wX1_add post v0 v1 v2 S) : MetV l yX1_add cX1_add 3 rmX1_add [va_rf v0, va_rf v1, .int v2] D cy S post := by
  intro sz
  refine Met.ofW (cc := cX1_add) (maxL := 3) (ret := none) (by decide) rfl ?_
  intro p e s m args below meth c s₁ B0 hml hv
  obtain ⟨rfl, hpp⟩ := hv
  have hts := atoms_spec (ws := .code yX1_add cX1_add 3 none :: Gw) B0.pre
  obtain rfl : s.heap.size = sz := hpp.1
  have hl := lv_entry [va_rf v0, va_rf v1, .int v2] (n := 3) (by rw [sl_r, sl_r, sl_i, sl_0]; decide)
  rw [lg_entry_eq]
  rw [la_r, la_r, la_i, la_0] at hl
  exact tX1_add (l := l) (R := rmX1_add) ⟨B0.exec, B0.bytes, hml, findClass_of_methodNamed B0.named, fun w hw => hts w (List.mem_cons_of_mem _ hw)⟩ B0.returns B0.notSynchronized (Nat.le_refl _) (Nat.le_refl _) (Nat.le_refl _) (Nat.le_refl _) _ _ _ _ h _ _ _ hpp.pb (lv_sub hl [0, 1, 2] rfl)
-- X1_rootOf: LogHunt$Cases.rootOf(I)I
def wX1_rootOf_4 (post : Int32 → Pool → Prop) : Nat → Option Nat → Int32 → Int32 → Pool → Prop
  | 0 => fun _ _ _ _ => False
  | n + 1 => fun v0 v2 v3 S => br (250 ≤ v3) (post v2 S) (xR S v0 1 2 fun a2 => xaI S a2 10 v2 fun a3 => br (a3 = v2) (post v2 S) (xR S v0 1 2 fun a5 => xR S v0 1 2 fun a6 => xR S v0 1 2 fun a7 => xaI S a7 10 v2 fun a8 => xaI S a6 10 a8 fun a9 => xsI S a5 10 v2 a9 fun S10 => xR S10 v0 1 2 fun a11 => xaI S10 a11 10 v2 fun a12 => wX1_rootOf_4 post n v0 a12 (v3 + 1) S10))
def wX1_rootOf (post : Int32 → Pool → Prop) (v0 : Option Nat) (v1 : Int32) (S : Pool) : Prop := ∃ n1, wX1_rootOf_4 post n1 v0 v1 0 S
def rmX1_rootOf : Room := { frames := 0, cells := 0, slots := 0, locals := 0 }
section
variable {p : Program} {l : Launch} {e : Env} {R : Room} {s : State} {m : MethodId} {args : Array Value} {below : List Frame} {meth : Method} {c : Code} {D : va_G} {cy : Nat → ClassId} {A : Nat → Prop}
set_option maxRecDepth 100000 in
set_option maxHeartbeats 4000000 in
theorem tX1_rootOf_4 {post : Int32 → Pool → Prop} (M : MC p m c cX1_rootOf 4 s args RX1) (hr : meth.sig.returnType = (some FieldType.int)) (hlk : meth.locks = false) (hRf : 0 ≤ R.frames) (hRl : 0 ≤ R.locals) (hRc : 0 ≤ R.cells) (hRs : 0 ≤ R.slots) : ∀ (n : Nat) (v0 : Option Nat) (v2 : Int32) (v3 : Int32) (S : Pool), wX1_rootOf_4 post n v0 v2 v3 S → ∀ (H : Heap) (locs : List Loc) (ls : Array Slot), PB D cy A s S H locs → lv_has ls 4 [(0, va_rf v0), (2, .int v2), (3, .int v3)] → W p l e R s m args below meth c H locs 0 0 (MQ below (va_Qi post (PQ D cy A) A) args s 0 0 A) (F0 m 4 ls []) := by
  intro n
  induction n with
  | zero => intro v0 v2 v3 S h; exact False.elim h
  | succ n ih =>
    intro v0 v2 v3 S h H locs ls B hl
    unfold wX1_rootOf_4 at h
    refine lv_iload_n M.1 M.2.1 dX1_rootOf_4 rfl (lv_at hl 2 rfl) ?_
    refine lv_sipush (v := 250) M.1 M.2.1 dX1_rootOf_5 (by decide) ?_
    refine lv_icmp_ge (tgt := 51) M.1 M.2.1 dX1_rootOf_8 (by decide) (fun c1 => ?_) (fun c1 => ?_)
    · have h := h.1 c1
      refine lv_iload_n M.1 M.2.1 dX1_rootOf_51 rfl (lv_at hl 1 rfl) ?_
      exact g_iret M B hr hlk h (by decide) (by decide) dX1_rootOf_52
    · have h := h.2 c1
      refine g_aload_n M dX1_rootOf_11 rfl (lv_at hl 0 rfl) ?_
      refine gfX1_15 M B dX1_rootOf_12 h (fun a2 h => ?_)
      refine lv_iload_n M.1 M.2.1 dX1_rootOf_15 rfl (lv_at hl 1 rfl) ?_
      refine g_iald M B dX1_rootOf_16 h (fun a3 h => ?_)
      refine lv_iload_n M.1 M.2.1 dX1_rootOf_17 rfl (lv_at hl 1 rfl) ?_
      refine lv_icmp_eq (tgt := 51) M.1 M.2.1 dX1_rootOf_18 (by decide) (fun c4 => ?_) (fun c4 => ?_)
      · have h := h.1 c4
        refine lv_iload_n M.1 M.2.1 dX1_rootOf_51 rfl (lv_at hl 1 rfl) ?_
        exact g_iret M B hr hlk h (by decide) (by decide) dX1_rootOf_52
      · have h := h.2 c4
        refine g_aload_n M dX1_rootOf_21 rfl (lv_at hl 0 rfl) ?_
        refine gfX1_15 M B dX1_rootOf_22 h (fun a5 h => ?_)
        refine lv_iload_n M.1 M.2.1 dX1_rootOf_25 rfl (lv_at hl 1 rfl) ?_
        refine g_aload_n M dX1_rootOf_26 rfl (lv_at hl 0 rfl) ?_
        refine gfX1_15 M B dX1_rootOf_27 h (fun a6 h => ?_)
        refine g_aload_n M dX1_rootOf_30 rfl (lv_at hl 0 rfl) ?_
        refine gfX1_15 M B dX1_rootOf_31 h (fun a7 h => ?_)
        refine lv_iload_n M.1 M.2.1 dX1_rootOf_34 rfl (lv_at hl 1 rfl) ?_
        refine g_iald M B dX1_rootOf_35 h (fun a8 h => ?_)
        refine g_iald M B dX1_rootOf_36 h (fun a9 h => ?_)
        refine g_iast M B dX1_rootOf_37 h (fun S10 H locs h B => ?_)
        refine g_aload_n M dX1_rootOf_38 rfl (lv_at hl 0 rfl) ?_
        refine gfX1_15 M B dX1_rootOf_39 h (fun a11 h => ?_)
        refine lv_iload_n M.1 M.2.1 dX1_rootOf_42 rfl (lv_at hl 1 rfl) ?_
        refine g_iald M B dX1_rootOf_43 h (fun a12 h => ?_)
        refine lv_istore_n (lv' := [(2, .int a12), (0, va_rf v0), (3, .int v3)]) M.1 M.2.1 dX1_rootOf_44 rfl hl (by decide) (fl_e (fl_k rfl rfl (fl_d rfl (fl_k rfl rfl fl_0)))) (fun ls hl => ?_)
        refine lv_iinc (v := v3 + 1) (lv' := [(3, .int (v3 + 1)), (2, .int a12), (0, va_rf v0)]) M.1 M.2.1 dX1_rootOf_45 hl (k := 2) rfl (by rfl) (by decide) (fl_e (fl_i rfl (fl_k rfl rfl (fl_d rfl fl_0)))) (fun ls hl => ?_)
        refine lv_goto (tgt := 4) M.1 M.2.1 dX1_rootOf_48 (by decide) ?_
        exact ih _ _ _ _ h _ _ _ B (lv_sub hl [2, 1, 0] rfl)
set_option maxRecDepth 100000 in
set_option maxHeartbeats 4000000 in
theorem tX1_rootOf {post : Int32 → Pool → Prop} (M : MC p m c cX1_rootOf 4 s args RX1) (hr : meth.sig.returnType = (some FieldType.int)) (hlk : meth.locks = false) (hRf : 0 ≤ R.frames) (hRl : 0 ≤ R.locals) (hRc : 0 ≤ R.cells) (hRs : 0 ≤ R.slots) : ∀ (v0 : Option Nat) (v1 : Int32) (S : Pool), wX1_rootOf post v0 v1 S → ∀ (H : Heap) (locs : List Loc) (ls : Array Slot), PB D cy A s S H locs → lv_has ls 4 [(0, va_rf v0), (1, .int v1)] → W p l e R s m args below meth c H locs 0 0 (MQ below (va_Qi post (PQ D cy A) A) args s 0 0 A) (F0 m 0 ls []) := by
  intro v0 v1 S h H locs ls B hl
  unfold wX1_rootOf at h
  refine lv_iload_n M.1 M.2.1 dX1_rootOf_0 rfl (lv_at hl 1 rfl) ?_
  refine lv_istore_n (lv' := [(2, .int v1), (0, va_rf v0), (1, .int v1)]) M.1 M.2.1 dX1_rootOf_1 rfl hl (by decide) (fl_e (fl_k rfl rfl (fl_i rfl fl_0))) (fun ls hl => ?_)
  refine lv_iconst (v := 0) M.1 M.2.1 dX1_rootOf_2 (by decide) ?_
  refine lv_istore_n (lv' := [(3, .int 0), (2, .int v1), (0, va_rf v0), (1, .int v1)]) M.1 M.2.1 dX1_rootOf_3 rfl hl (by decide) (fl_e (fl_i rfl (fl_k rfl rfl (fl_k rfl rfl fl_0)))) (fun ls hl => ?_)
  obtain ⟨n1, h⟩ := h
  exact tX1_rootOf_4 M hr hlk hRf hRl hRc hRs n1 _ _ _ _ h _ _ _ B (lv_sub hl [2, 1, 0] rfl)
end
set_option maxRecDepth 100000 in
set_option maxHeartbeats 4000000 in
theorem kX1_rootOf (l : Launch) (D : va_G) (cy : Nat → ClassId) {post : Int32 → Pool → Prop} {v0 : Option Nat} {v1 : Int32} {S : Pool} (h : wX1_rootOf post v0 v1 S) : MetI l yX1_rootOf cX1_rootOf 4 (some FieldType.int) rmX1_rootOf [va_rf v0, .int v1] D cy S post := by
  intro sz
  refine Met.ofW (cc := cX1_rootOf) (maxL := 4) (ret := (some FieldType.int)) (by decide) rfl ?_
  intro p e s m args below meth c s₁ B0 hml hv
  obtain ⟨rfl, hpp⟩ := hv
  have hts := atoms_spec (ws := .code yX1_rootOf cX1_rootOf 4 (some FieldType.int) :: Gw) B0.pre
  obtain rfl : s.heap.size = sz := hpp.1
  have hl := lv_entry [va_rf v0, .int v1] (n := 4) (by rw [sl_r, sl_i, sl_0]; decide)
  rw [lg_entry_eq]
  rw [la_r, la_i, la_0] at hl
  exact tX1_rootOf (l := l) (R := rmX1_rootOf) ⟨B0.exec, B0.bytes, hml, findClass_of_methodNamed B0.named, fun w hw => hts w (List.mem_cons_of_mem _ hw)⟩ B0.returns B0.notSynchronized (Nat.le_refl _) (Nat.le_refl _) (Nat.le_refl _) (Nat.le_refl _) _ _ _ h _ _ _ hpp.pb (lv_sub hl [0, 1] rfl)
-- X1_link: LogHunt$Cases.link(LLogHunt$Act;LLogHunt$Act;I)V
def wX1_link (post : Pool → Prop) (v0 : Option Nat) (v1 : Option Nat) (v2 : Option Nat) (v3 : Int32) (S : Pool) : Prop := br (v1 = none) (post S) (xI S v2 0 5 fun a2 => xI S v1 0 5 fun a3 => br (v3 < (a2 - a3)) (post S) (xR S v0 1 2 fun a5 => xI S v2 0 0 fun a6 => xrc S v0 1 (wX1_rootOf (fun a8 S7 => xI S7 v1 0 0 fun a9 => xrc S7 v0 1 (wX1_rootOf (fun a11 S10 => xsI S10 a5 10 a8 a11 fun S12 => post S12) v0 a9 S7)) v0 a6 S)))
def rmX1_link : Room := { frames := 1, cells := 0, slots := 0, locals := 23 }
section
variable {p : Program} {l : Launch} {e : Env} {R : Room} {s : State} {m : MethodId} {args : Array Value} {below : List Frame} {meth : Method} {c : Code} {D : va_G} {cy : Nat → ClassId} {A : Nat → Prop}
set_option maxRecDepth 100000 in
set_option maxHeartbeats 4000000 in
theorem tX1_link {post : Pool → Prop} (M : MC p m c cX1_link 4 s args RX1) (hr : meth.sig.returnType = none) (hlk : meth.locks = false) (hRf : 1 ≤ R.frames) (hRl : 23 ≤ R.locals) (hRc : 0 ≤ R.cells) (hRs : 0 ≤ R.slots) : ∀ (v0 : Option Nat) (v1 : Option Nat) (v2 : Option Nat) (v3 : Int32) (S : Pool), wX1_link post v0 v1 v2 v3 S → ∀ (H : Heap) (locs : List Loc) (ls : Array Slot), PB D cy A s S H locs → lv_has ls 4 [(0, va_rf v0), (1, va_rf v1), (2, va_rf v2), (3, .int v3)] → W p l e R s m args below meth c H locs 0 0 (MQ below (va_Qv post (PQ D cy A) A) args s 0 0 A) (F0 m 0 ls []) := by
  intro v0 v1 v2 v3 S h H locs ls B hl
  unfold wX1_link at h
  refine g_aload_n M dX1_link_0 rfl (lv_at hl 1 rfl) ?_
  refine g_ifnull (tgt := 38) M dX1_link_1 (by decide) (fun c1 => ?_) (fun c1 => ?_)
  · have h := h.1 c1
    exact g_vret M B hr hlk h (by decide) (by decide) dX1_link_38
  · have h := h.2 c1
    refine g_aload_n M dX1_link_4 rfl (lv_at hl 2 rfl) ?_
    refine gfX1_72 M B dX1_link_5 h (fun a2 h => ?_)
    refine g_aload_n M dX1_link_8 rfl (lv_at hl 1 rfl) ?_
    refine gfX1_72 M B dX1_link_9 h (fun a3 h => ?_)
    refine lv_isub M.1 M.2.1 dX1_link_12 ?_
    refine lv_iload_n M.1 M.2.1 dX1_link_13 rfl (lv_at hl 3 rfl) ?_
    refine lv_icmp_gt (tgt := 38) M.1 M.2.1 dX1_link_14 (by decide) (fun c4 => ?_) (fun c4 => ?_)
    · have h := h.1 c4
      exact g_vret M B hr hlk h (by decide) (by decide) dX1_link_38
    · have h := h.2 c4
      refine g_aload_n M dX1_link_17 rfl (lv_at hl 0 rfl) ?_
      refine gfX1_15 M B dX1_link_18 h (fun a5 h => ?_)
      refine g_aload_n M dX1_link_21 rfl (lv_at hl 0 rfl) ?_
      refine g_aload_n M dX1_link_22 rfl (lv_at hl 2 rfl) ?_
      refine gfX1_47 M B dX1_link_23 h (fun a6 h => ?_)
      obtain ⟨o1, e1, hL1, hK1, h⟩ := h
      refine g_calli (k1 := 0) (k2 := 0) B (g_runV (n := 1) (As := [.int a6]) (rm := rmX1_rootOf) M B e1 (kX1_rootOf (v0 := v0) (v1 := a6) l D cy h _) wmX1_68 wiX1_rootOf wsX1_rootOf wnX1 wcdX1_rootOf ⟨rfl, by decide, by decide, by decide +kernel⟩ ⟨Nat.le_trans (by decide) hRf, Nat.le_trans (by decide) hRl⟩ ⟨Nat.le_trans (by decide) hRc, Nat.le_trans (by decide) hRs⟩ hL1 hK1 (by decide) rfl rfl rfl hl.1 rfl (ct_r ct_0) (by decide) dX1_link_26) (by decide) (by decide) (fun a8 S7 H locs h B => ?_)
      refine g_aload_n M dX1_link_29 rfl (lv_at hl 0 rfl) ?_
      refine g_aload_n M dX1_link_30 rfl (lv_at hl 1 rfl) ?_
      refine gfX1_47 M B dX1_link_31 h (fun a9 h => ?_)
      obtain ⟨o1, e1, hL1, hK1, h⟩ := h
      refine g_calli (k1 := 0) (k2 := 0) B (g_runV (n := 1) (As := [.int a9]) (rm := rmX1_rootOf) M B e1 (kX1_rootOf (v0 := v0) (v1 := a9) l D cy h _) wmX1_68 wiX1_rootOf wsX1_rootOf wnX1 wcdX1_rootOf ⟨rfl, by decide, by decide, by decide +kernel⟩ ⟨Nat.le_trans (by decide) hRf, Nat.le_trans (by decide) hRl⟩ ⟨Nat.le_trans (by decide) hRc, Nat.le_trans (by decide) hRs⟩ hL1 hK1 (by decide) rfl rfl rfl hl.1 rfl (ct_i (ct_r ct_0)) (by decide) dX1_link_34) (by decide) (by decide) (fun a11 S10 H locs h B => ?_)
      refine g_iast M B dX1_link_37 h (fun S12 H locs h B => ?_)
      exact g_vret M B hr hlk h (by decide) (by decide) dX1_link_38
end
set_option maxRecDepth 100000 in
set_option maxHeartbeats 4000000 in
theorem kX1_link (l : Launch) (D : va_G) (cy : Nat → ClassId) {post : Pool → Prop} {v0 : Option Nat} {v1 : Option Nat} {v2 : Option Nat} {v3 : Int32} {S : Pool} (h : wX1_link post v0 v1 v2 v3 S) : MetV l yX1_link cX1_link 4 rmX1_link [va_rf v0, va_rf v1, va_rf v2, .int v3] D cy S post := by
  intro sz
  refine Met.ofW (cc := cX1_link) (maxL := 4) (ret := none) (by decide) rfl ?_
  intro p e s m args below meth c s₁ B0 hml hv
  obtain ⟨rfl, hpp⟩ := hv
  have hts := atoms_spec (ws := .code yX1_link cX1_link 4 none :: Gw) B0.pre
  obtain rfl : s.heap.size = sz := hpp.1
  have hl := lv_entry [va_rf v0, va_rf v1, va_rf v2, .int v3] (n := 4) (by rw [sl_r, sl_r, sl_r, sl_i, sl_0]; decide)
  rw [lg_entry_eq]
  rw [la_r, la_r, la_r, la_i, la_0] at hl
  exact tX1_link (l := l) (R := rmX1_link) ⟨B0.exec, B0.bytes, hml, findClass_of_methodNamed B0.named, fun w hw => hts w (List.mem_cons_of_mem _ hw)⟩ B0.returns B0.notSynchronized (Nat.le_refl _) (Nat.le_refl _) (Nat.le_refl _) (Nat.le_refl _) _ _ _ _ _ h _ _ _ hpp.pb (lv_sub hl [0, 1, 2, 3] rfl)
-- X1_join: LogHunt$Cases.join(I)V
def wX1_join_133 (K93 : Option Nat → Int32 → Pool → Prop) (post : Pool → Prop) (v0 : Option Nat) (v2 : Int32) (S : Pool) : Prop := xR S v0 1 3 fun a1 => xrc S v0 1 (wX1_rootOf (fun a3 S2 => xaI S2 a1 10 a3 fun a4 => xR S2 v0 1 1 fun a5 => xaI S2 a5 10 v2 fun a6 => xsI S2 a1 10 a3 (a4 + a6) fun S7 => K93 v0 (v2 + 1) S7) v0 v2 S)
def wX1_join_93 (post : Pool → Prop) : Nat → Option Nat → Int32 → Pool → Prop
  | 0 => fun _ _ _ => False
  | n + 1 => fun v0 v2 S => xR S v0 1 0 fun a1 => xI S a1 2 2 fun a2 => br (a2 ≤ v2) (post S) (xR S v0 1 1 fun a4 => xaI S a4 10 v2 fun a5 => br (a5 ≤ 0) (wX1_join_133 (wX1_join_93 post n) post v0 v2 S) (xR S v0 1 2 fun a7 => xaI S a7 10 v2 fun a8 => br (a8 = v2) (xI S v0 1 7 fun a10 => xpI S v0 1 7 (a10 + 1) fun S11 => wX1_join_133 (wX1_join_93 post n) post v0 v2 S11) (wX1_join_133 (wX1_join_93 post n) post v0 v2 S)))
def wX1_join_85 (K2 : Option Nat → Int32 → Int32 → Pool → Prop) (post : Pool → Prop) (v0 : Option Nat) (v1 : Int32) (v2 : Int32) (S : Pool) : Prop := K2 v0 v1 (v2 + 1) S
def wX1_join_2 (post : Pool → Prop) : Nat → Option Nat → Int32 → Int32 → Pool → Prop
  | 0 => fun _ _ _ _ => False
  | n + 1 => fun v0 v1 v2 S => xR S v0 1 0 fun a1 => xI S a1 2 2 fun a2 => br (a2 ≤ v2) (∃ n1, wX1_join_93 post n1 v0 0 S) (xR S v0 1 0 fun a4 => xR S a4 2 1 fun a5 => xaR S a5 12 v2 fun a6 => xR S v0 1 1 fun a7 => xI S a6 0 0 fun a8 => xaI S a7 10 a8 fun a9 => br (a9 ≤ 0) (wX1_join_85 (wX1_join_2 post n) post v0 v1 v2 S) (xR S v0 1 4 fun a11 => xI S a6 0 2 fun a12 => xaR S a11 12 a12 fun a13 => xrc S v0 1 (wX1_link (fun S14 => xR S14 v0 1 5 fun a15 => xI S14 a6 0 4 fun a16 => xaR S14 a15 12 a16 fun a17 => xrc S14 v0 1 (wX1_link (fun S18 => xR S18 v0 1 4 fun a19 => xI S18 a6 0 2 fun a20 => xsR S18 a19 12 0 a20 a6 fun S21 => xR S21 v0 1 5 fun a22 => xI S21 a6 0 4 fun a23 => xsR S21 a22 12 0 a23 a6 fun S24 => wX1_join_85 (wX1_join_2 post n) post v0 v1 v2 S24) v0 a17 a6 v1 S14)) v0 a13 a6 v1 S)))
def wX1_join (post : Pool → Prop) (v0 : Option Nat) (v1 : Int32) (S : Pool) : Prop := ∃ n1, wX1_join_2 post n1 v0 v1 0 S
def rmX1_join : Room := { frames := 2, cells := 0, slots := 0, locals := 46 }
section
variable {p : Program} {l : Launch} {e : Env} {R : Room} {s : State} {m : MethodId} {args : Array Value} {below : List Frame} {meth : Method} {c : Code} {D : va_G} {cy : Nat → ClassId} {A : Nat → Prop}
set_option maxRecDepth 100000 in
set_option maxHeartbeats 4000000 in
theorem tX1_join_133 {K93 : Option Nat → Int32 → Pool → Prop} {post : Pool → Prop} (M : MC p m c cX1_join 4 s args RX1) (hr : meth.sig.returnType = none) (hlk : meth.locks = false) (hRf : 2 ≤ R.frames) (hRl : 46 ≤ R.locals) (hRc : 0 ≤ R.cells) (hRs : 0 ≤ R.slots) (hK93 : ∀ (v0 : Option Nat) (v2 : Int32) (S : Pool), K93 v0 v2 S → ∀ (H : Heap) (locs : List Loc) (ls : Array Slot), PB D cy A s S H locs → lv_has ls 4 [(0, va_rf v0), (2, .int v2)] → W p l e R s m args below meth c H locs 0 0 (MQ below (va_Qv post (PQ D cy A) A) args s 0 0 A) (F0 m 93 ls [])) : ∀ (v0 : Option Nat) (v2 : Int32) (S : Pool), wX1_join_133 K93 post v0 v2 S → ∀ (H : Heap) (locs : List Loc) (ls : Array Slot), PB D cy A s S H locs → lv_has ls 4 [(0, va_rf v0), (2, .int v2)] → W p l e R s m args below meth c H locs 0 0 (MQ below (va_Qv post (PQ D cy A) A) args s 0 0 A) (F0 m 133 ls []) := by
  intro v0 v2 S h H locs ls B hl
  unfold wX1_join_133 at h
  refine g_aload_n M dX1_join_133 rfl (lv_at hl 0 rfl) ?_
  refine gfX1_18 M B dX1_join_134 h (fun a1 h => ?_)
  refine g_aload_n M dX1_join_137 rfl (lv_at hl 0 rfl) ?_
  refine lv_iload_n M.1 M.2.1 dX1_join_138 rfl (lv_at hl 1 rfl) ?_
  obtain ⟨o1, e1, hL1, hK1, h⟩ := h
  refine g_calli (k1 := 0) (k2 := 0) B (g_runV (n := 1) (As := [.int v2]) (rm := rmX1_rootOf) M B e1 (kX1_rootOf (v0 := v0) (v1 := v2) l D cy h _) wmX1_68 wiX1_rootOf wsX1_rootOf wnX1 wcdX1_rootOf ⟨rfl, by decide, by decide, by decide +kernel⟩ ⟨Nat.le_trans (by decide) hRf, Nat.le_trans (by decide) hRl⟩ ⟨Nat.le_trans (by decide) hRc, Nat.le_trans (by decide) hRs⟩ hL1 hK1 (by decide) rfl rfl rfl hl.1 rfl (ct_r ct_0) (by decide) dX1_join_139) (by decide) (by decide) (fun a3 S2 H locs h B => ?_)
  refine lv_dup2_11 M.1 M.2.1 dX1_join_142 (rfl) (rf_cat _) ?_
  refine g_iald M B dX1_join_143 h (fun a4 h => ?_)
  refine g_aload_n M dX1_join_144 rfl (lv_at hl 0 rfl) ?_
  refine gfX1_9 M B dX1_join_145 h (fun a5 h => ?_)
  refine lv_iload_n M.1 M.2.1 dX1_join_148 rfl (lv_at hl 1 rfl) ?_
  refine g_iald M B dX1_join_149 h (fun a6 h => ?_)
  refine lv_iadd M.1 M.2.1 dX1_join_150 ?_
  refine g_iast M B dX1_join_151 h (fun S7 H locs h B => ?_)
  refine lv_iinc (v := v2 + 1) (lv' := [(2, .int (v2 + 1)), (0, va_rf v0)]) M.1 M.2.1 dX1_join_152 hl (k := 1) rfl (by rfl) (by decide) (fl_e (fl_k rfl rfl (fl_d rfl fl_0))) (fun ls hl => ?_)
  refine lv_goto (tgt := 93) M.1 M.2.1 dX1_join_155 (by decide) ?_
  exact hK93 _ _ _ h _ _ _ B (lv_sub hl [1, 0] rfl)
set_option maxRecDepth 100000 in
set_option maxHeartbeats 4000000 in
theorem tX1_join_93 {post : Pool → Prop} (M : MC p m c cX1_join 4 s args RX1) (hr : meth.sig.returnType = none) (hlk : meth.locks = false) (hRf : 2 ≤ R.frames) (hRl : 46 ≤ R.locals) (hRc : 0 ≤ R.cells) (hRs : 0 ≤ R.slots) : ∀ (n : Nat) (v0 : Option Nat) (v2 : Int32) (S : Pool), wX1_join_93 post n v0 v2 S → ∀ (H : Heap) (locs : List Loc) (ls : Array Slot), PB D cy A s S H locs → lv_has ls 4 [(0, va_rf v0), (2, .int v2)] → W p l e R s m args below meth c H locs 0 0 (MQ below (va_Qv post (PQ D cy A) A) args s 0 0 A) (F0 m 93 ls []) := by
  intro n
  induction n with
  | zero => intro v0 v2 S h; exact False.elim h
  | succ n ih =>
    intro v0 v2 S h H locs ls B hl
    unfold wX1_join_93 at h
    refine lv_iload_n M.1 M.2.1 dX1_join_93 rfl (lv_at hl 1 rfl) ?_
    refine g_aload_n M dX1_join_94 rfl (lv_at hl 0 rfl) ?_
    refine gfX1_30 M B dX1_join_95 h (fun a1 h => ?_)
    refine gfX1_50 M B dX1_join_98 h (fun a2 h => ?_)
    refine lv_icmp_ge (tgt := 158) M.1 M.2.1 dX1_join_101 (by decide) (fun c3 => ?_) (fun c3 => ?_)
    · have h := h.1 c3
      exact g_vret M B hr hlk h (by decide) (by decide) dX1_join_158
    · have h := h.2 c3
      refine g_aload_n M dX1_join_104 rfl (lv_at hl 0 rfl) ?_
      refine gfX1_9 M B dX1_join_105 h (fun a4 h => ?_)
      refine lv_iload_n M.1 M.2.1 dX1_join_108 rfl (lv_at hl 1 rfl) ?_
      refine g_iald M B dX1_join_109 h (fun a5 h => ?_)
      refine lv_if_le (tgt := 133) M.1 M.2.1 dX1_join_110 (by decide) (fun c6 => ?_) (fun c6 => ?_)
      · have h := h.1 c6
        exact tX1_join_133 M hr hlk hRf hRl hRc hRs ih _ _ _ h _ _ _ B (lv_sub hl [0, 1] rfl)
      · have h := h.2 c6
        refine g_aload_n M dX1_join_113 rfl (lv_at hl 0 rfl) ?_
        refine gfX1_15 M B dX1_join_114 h (fun a7 h => ?_)
        refine lv_iload_n M.1 M.2.1 dX1_join_117 rfl (lv_at hl 1 rfl) ?_
        refine g_iald M B dX1_join_118 h (fun a8 h => ?_)
        refine lv_iload_n M.1 M.2.1 dX1_join_119 rfl (lv_at hl 1 rfl) ?_
        refine lv_icmp_ne (tgt := 133) M.1 M.2.1 dX1_join_120 (by decide) (fun c9 => ?_) (fun c9 => ?_)
        · have h := h.2 c9
          exact tX1_join_133 M hr hlk hRf hRl hRc hRs ih _ _ _ h _ _ _ B (lv_sub hl [0, 1] rfl)
        · have h := h.1 c9
          refine g_aload_n M dX1_join_123 rfl (lv_at hl 0 rfl) ?_
          refine lv_dup M.1 M.2.1 dX1_join_124 (rf_cat _) ?_
          refine gfX1_38 M B dX1_join_125 h (fun a10 h => ?_)
          refine lv_iconst (v := 1) M.1 M.2.1 dX1_join_128 (by decide) ?_
          refine lv_iadd M.1 M.2.1 dX1_join_129 ?_
          refine gpX1_38 M B dX1_join_130 h (fun S11 H locs h B => ?_)
          exact tX1_join_133 M hr hlk hRf hRl hRc hRs ih _ _ _ h _ _ _ B (lv_sub hl [0, 1] rfl)
set_option maxRecDepth 100000 in
set_option maxHeartbeats 4000000 in
theorem tX1_join_85 {K2 : Option Nat → Int32 → Int32 → Pool → Prop} {post : Pool → Prop} (M : MC p m c cX1_join 4 s args RX1) (hr : meth.sig.returnType = none) (hlk : meth.locks = false) (hRf : 2 ≤ R.frames) (hRl : 46 ≤ R.locals) (hRc : 0 ≤ R.cells) (hRs : 0 ≤ R.slots) (hK2 : ∀ (v0 : Option Nat) (v1 : Int32) (v2 : Int32) (S : Pool), K2 v0 v1 v2 S → ∀ (H : Heap) (locs : List Loc) (ls : Array Slot), PB D cy A s S H locs → lv_has ls 4 [(0, va_rf v0), (1, .int v1), (2, .int v2)] → W p l e R s m args below meth c H locs 0 0 (MQ below (va_Qv post (PQ D cy A) A) args s 0 0 A) (F0 m 2 ls [])) : ∀ (v0 : Option Nat) (v1 : Int32) (v2 : Int32) (S : Pool), wX1_join_85 K2 post v0 v1 v2 S → ∀ (H : Heap) (locs : List Loc) (ls : Array Slot), PB D cy A s S H locs → lv_has ls 4 [(0, va_rf v0), (1, .int v1), (2, .int v2)] → W p l e R s m args below meth c H locs 0 0 (MQ below (va_Qv post (PQ D cy A) A) args s 0 0 A) (F0 m 85 ls []) := by
  intro v0 v1 v2 S h H locs ls B hl
  unfold wX1_join_85 at h
  refine lv_iinc (v := v2 + 1) (lv' := [(2, .int (v2 + 1)), (0, va_rf v0), (1, .int v1)]) M.1 M.2.1 dX1_join_85 hl (k := 2) rfl (by rfl) (by decide) (fl_e (fl_k rfl rfl (fl_i rfl (fl_d rfl fl_0)))) (fun ls hl => ?_)
  refine lv_goto (tgt := 2) M.1 M.2.1 dX1_join_88 (by decide) ?_
  exact hK2 _ _ _ _ h _ _ _ B (lv_sub hl [1, 2, 0] rfl)
set_option maxRecDepth 100000 in
set_option maxHeartbeats 4000000 in
theorem tX1_join_2 {post : Pool → Prop} (M : MC p m c cX1_join 4 s args RX1) (hr : meth.sig.returnType = none) (hlk : meth.locks = false) (hRf : 2 ≤ R.frames) (hRl : 46 ≤ R.locals) (hRc : 0 ≤ R.cells) (hRs : 0 ≤ R.slots) : ∀ (n : Nat) (v0 : Option Nat) (v1 : Int32) (v2 : Int32) (S : Pool), wX1_join_2 post n v0 v1 v2 S → ∀ (H : Heap) (locs : List Loc) (ls : Array Slot), PB D cy A s S H locs → lv_has ls 4 [(0, va_rf v0), (1, .int v1), (2, .int v2)] → W p l e R s m args below meth c H locs 0 0 (MQ below (va_Qv post (PQ D cy A) A) args s 0 0 A) (F0 m 2 ls []) := by
  intro n
  induction n with
  | zero => intro v0 v1 v2 S h; exact False.elim h
  | succ n ih =>
    intro v0 v1 v2 S h H locs ls B hl
    unfold wX1_join_2 at h
    refine lv_iload_n M.1 M.2.1 dX1_join_2 rfl (lv_at hl 2 rfl) ?_
    refine g_aload_n M dX1_join_3 rfl (lv_at hl 0 rfl) ?_
    refine gfX1_30 M B dX1_join_4 h (fun a1 h => ?_)
    refine gfX1_50 M B dX1_join_7 h (fun a2 h => ?_)
    refine lv_icmp_ge (tgt := 91) M.1 M.2.1 dX1_join_10 (by decide) (fun c3 => ?_) (fun c3 => ?_)
    · have h := h.1 c3
      refine lv_iconst (v := 0) M.1 M.2.1 dX1_join_91 (by decide) ?_
      refine lv_istore_n (lv' := [(2, .int 0), (0, va_rf v0), (1, .int v1)]) M.1 M.2.1 dX1_join_92 rfl hl (by decide) (fl_e (fl_k rfl rfl (fl_i rfl (fl_d rfl fl_0)))) (fun ls hl => ?_)
      obtain ⟨n1, h⟩ := h
      exact tX1_join_93 M hr hlk hRf hRl hRc hRs n1 _ _ _ h _ _ _ B (lv_sub hl [1, 0] rfl)
    · have h := h.2 c3
      refine g_aload_n M dX1_join_13 rfl (lv_at hl 0 rfl) ?_
      refine gfX1_30 M B dX1_join_14 h (fun a4 h => ?_)
      refine gfX1_55 M B dX1_join_17 h (fun a5 h => ?_)
      refine lv_iload_n M.1 M.2.1 dX1_join_20 rfl (lv_at hl 2 rfl) ?_
      refine g_aald (kd := 12) (t0 := 2) M B ⟨by decide, by decide⟩ rfl dX1_join_21 h (fun a6 h => ?_)
      refine g_astore_n (lv' := [(3, va_rf a6), (0, va_rf v0), (1, .int v1), (2, .int v2)]) M dX1_join_22 rfl hl (by decide) (fl_e (fl_k rfl rfl (fl_k rfl rfl (fl_i rfl fl_0)))) (fun ls hl => ?_)
      refine g_aload_n M dX1_join_23 rfl (lv_at hl 1 rfl) ?_
      refine gfX1_9 M B dX1_join_24 h (fun a7 h => ?_)
      refine g_aload_n M dX1_join_27 rfl (lv_at hl 0 rfl) ?_
      refine gfX1_47 M B dX1_join_28 h (fun a8 h => ?_)
      refine g_iald M B dX1_join_31 h (fun a9 h => ?_)
      refine lv_if_le (tgt := 85) M.1 M.2.1 dX1_join_32 (by decide) (fun c10 => ?_) (fun c10 => ?_)
      · have h := h.1 c10
        exact tX1_join_85 M hr hlk hRf hRl hRc hRs ih _ _ _ _ h _ _ _ B (lv_sub hl [1, 2, 3] rfl)
      · have h := h.2 c10
        refine g_aload_n M dX1_join_35 rfl (lv_at hl 1 rfl) ?_
        refine g_aload_n M dX1_join_36 rfl (lv_at hl 1 rfl) ?_
        refine gfX1_23 M B dX1_join_37 h (fun a11 h => ?_)
        refine g_aload_n M dX1_join_40 rfl (lv_at hl 0 rfl) ?_
        refine gfX1_58 M B dX1_join_41 h (fun a12 h => ?_)
        refine g_aald (kd := 12) (t0 := 2) M B ⟨by decide, by decide⟩ rfl dX1_join_44 h (fun a13 h => ?_)
        refine g_aload_n M dX1_join_45 rfl (lv_at hl 0 rfl) ?_
        refine lv_iload_n M.1 M.2.1 dX1_join_46 rfl (lv_at hl 2 rfl) ?_
        obtain ⟨o1, e1, hL1, hK1, h⟩ := h
        refine g_callv (k1 := 0) (k2 := 0) B (g_runV (n := 3) (As := [va_rf a13, va_rf a6, .int v1]) (rm := rmX1_link) M B e1 (kX1_link (v0 := v0) (v1 := a13) (v2 := a6) (v3 := v1) l D cy h _) wmX1_61 wiX1_link wsX1_link wnX1 wcdX1_link ⟨rfl, by decide, by decide, by decide +kernel⟩ ⟨Nat.le_trans (by decide) hRf, Nat.le_trans (by decide) hRl⟩ ⟨Nat.le_trans (by decide) hRc, Nat.le_trans (by decide) hRs⟩ hL1 hK1 (by decide) rfl rfl rfl hl.1 rfl ct_0 (by decide) dX1_join_47) (by decide) (by decide) (fun S14 H locs h B => ?_)
        refine g_aload_n M dX1_join_50 rfl (lv_at hl 1 rfl) ?_
        refine g_aload_n M dX1_join_51 rfl (lv_at hl 1 rfl) ?_
        refine gfX1_27 M B dX1_join_52 h (fun a15 h => ?_)
        refine g_aload_n M dX1_join_55 rfl (lv_at hl 0 rfl) ?_
        refine gfX1_65 M B dX1_join_56 h (fun a16 h => ?_)
        refine g_aald (kd := 12) (t0 := 2) M B ⟨by decide, by decide⟩ rfl dX1_join_59 h (fun a17 h => ?_)
        refine g_aload_n M dX1_join_60 rfl (lv_at hl 0 rfl) ?_
        refine lv_iload_n M.1 M.2.1 dX1_join_61 rfl (lv_at hl 2 rfl) ?_
        obtain ⟨o1, e1, hL1, hK1, h⟩ := h
        refine g_callv (k1 := 0) (k2 := 0) B (g_runV (n := 3) (As := [va_rf a17, va_rf a6, .int v1]) (rm := rmX1_link) M B e1 (kX1_link (v0 := v0) (v1 := a17) (v2 := a6) (v3 := v1) l D cy h _) wmX1_61 wiX1_link wsX1_link wnX1 wcdX1_link ⟨rfl, by decide, by decide, by decide +kernel⟩ ⟨Nat.le_trans (by decide) hRf, Nat.le_trans (by decide) hRl⟩ ⟨Nat.le_trans (by decide) hRc, Nat.le_trans (by decide) hRs⟩ hL1 hK1 (by decide) rfl rfl rfl hl.1 rfl ct_0 (by decide) dX1_join_62) (by decide) (by decide) (fun S18 H locs h B => ?_)
        refine g_aload_n M dX1_join_65 rfl (lv_at hl 1 rfl) ?_
        refine gfX1_23 M B dX1_join_66 h (fun a19 h => ?_)
        refine g_aload_n M dX1_join_69 rfl (lv_at hl 0 rfl) ?_
        refine gfX1_58 M B dX1_join_70 h (fun a20 h => ?_)
        refine g_aload_n M dX1_join_73 rfl (lv_at hl 0 rfl) ?_
        refine g_aast (kd := 12) (kv := 0) (t0 := 2) M B ⟨by decide, by decide⟩ (by decide) rfl rfl dX1_join_74 h (fun S21 H locs h B => ?_)
        refine g_aload_n M dX1_join_75 rfl (lv_at hl 1 rfl) ?_
        refine gfX1_27 M B dX1_join_76 h (fun a22 h => ?_)
        refine g_aload_n M dX1_join_79 rfl (lv_at hl 0 rfl) ?_
        refine gfX1_65 M B dX1_join_80 h (fun a23 h => ?_)
        refine g_aload_n M dX1_join_83 rfl (lv_at hl 0 rfl) ?_
        refine g_aast (kd := 12) (kv := 0) (t0 := 2) M B ⟨by decide, by decide⟩ (by decide) rfl rfl dX1_join_84 h (fun S24 H locs h B => ?_)
        exact tX1_join_85 M hr hlk hRf hRl hRc hRs ih _ _ _ _ h _ _ _ B (lv_sub hl [1, 2, 3] rfl)
set_option maxRecDepth 100000 in
set_option maxHeartbeats 4000000 in
theorem tX1_join {post : Pool → Prop} (M : MC p m c cX1_join 4 s args RX1) (hr : meth.sig.returnType = none) (hlk : meth.locks = false) (hRf : 2 ≤ R.frames) (hRl : 46 ≤ R.locals) (hRc : 0 ≤ R.cells) (hRs : 0 ≤ R.slots) : ∀ (v0 : Option Nat) (v1 : Int32) (S : Pool), wX1_join post v0 v1 S → ∀ (H : Heap) (locs : List Loc) (ls : Array Slot), PB D cy A s S H locs → lv_has ls 4 [(0, va_rf v0), (1, .int v1)] → W p l e R s m args below meth c H locs 0 0 (MQ below (va_Qv post (PQ D cy A) A) args s 0 0 A) (F0 m 0 ls []) := by
  intro v0 v1 S h H locs ls B hl
  unfold wX1_join at h
  refine lv_iconst (v := 0) M.1 M.2.1 dX1_join_0 (by decide) ?_
  refine lv_istore_n (lv' := [(2, .int 0), (0, va_rf v0), (1, .int v1)]) M.1 M.2.1 dX1_join_1 rfl hl (by decide) (fl_e (fl_k rfl rfl (fl_i rfl fl_0))) (fun ls hl => ?_)
  obtain ⟨n1, h⟩ := h
  exact tX1_join_2 M hr hlk hRf hRl hRc hRs n1 _ _ _ _ h _ _ _ B (lv_sub hl [1, 2, 0] rfl)
end
set_option maxRecDepth 100000 in
set_option maxHeartbeats 4000000 in
theorem kX1_join (l : Launch) (D : va_G) (cy : Nat → ClassId) {post : Pool → Prop} {v0 : Option Nat} {v1 : Int32} {S : Pool} (h : wX1_join post v0 v1 S) : MetV l yX1_join cX1_join 4 rmX1_join [va_rf v0, .int v1] D cy S post := by
  intro sz
  refine Met.ofW (cc := cX1_join) (maxL := 4) (ret := none) (by decide) rfl ?_
  intro p e s m args below meth c s₁ B0 hml hv
  obtain ⟨rfl, hpp⟩ := hv
  have hts := atoms_spec (ws := .code yX1_join cX1_join 4 none :: Gw) B0.pre
  obtain rfl : s.heap.size = sz := hpp.1
  have hl := lv_entry [va_rf v0, .int v1] (n := 4) (by rw [sl_r, sl_i, sl_0]; decide)
  rw [lg_entry_eq]
  rw [la_r, la_i, la_0] at hl
  exact tX1_join (l := l) (R := rmX1_join) ⟨B0.exec, B0.bytes, hml, findClass_of_methodNamed B0.named, fun w hw => hts w (List.mem_cons_of_mem _ hw)⟩ B0.returns B0.notSynchronized (Nat.le_refl _) (Nat.le_refl _) (Nat.le_refl _) (Nat.le_refl _) _ _ _ h _ _ _ hpp.pb (lv_sub hl [0, 1] rfl)
-- X1_findsBeside: LogHunt$Cases.findsBeside(LLogHunt$Act;)I
def wX1_findsBeside (post : Int32 → Pool → Prop) (v0 : Option Nat) (v1 : Option Nat) (S : Pool) : Prop := xR S v0 1 3 fun a1 => xI S v1 0 0 fun a2 => xrc S v0 1 (wX1_rootOf (fun a4 S3 => xaI S3 a1 10 a4 fun a5 => post a5 S3) v0 a2 S)
def rmX1_findsBeside : Room := { frames := 1, cells := 0, slots := 0, locals := 23 }
section
variable {p : Program} {l : Launch} {e : Env} {R : Room} {s : State} {m : MethodId} {args : Array Value} {below : List Frame} {meth : Method} {c : Code} {D : va_G} {cy : Nat → ClassId} {A : Nat → Prop}
set_option maxRecDepth 100000 in
set_option maxHeartbeats 4000000 in
theorem tX1_findsBeside {post : Int32 → Pool → Prop} (M : MC p m c cX1_findsBeside 2 s args RX1) (hr : meth.sig.returnType = (some FieldType.int)) (hlk : meth.locks = false) (hRf : 1 ≤ R.frames) (hRl : 23 ≤ R.locals) (hRc : 0 ≤ R.cells) (hRs : 0 ≤ R.slots) : ∀ (v0 : Option Nat) (v1 : Option Nat) (S : Pool), wX1_findsBeside post v0 v1 S → ∀ (H : Heap) (locs : List Loc) (ls : Array Slot), PB D cy A s S H locs → lv_has ls 2 [(0, va_rf v0), (1, va_rf v1)] → W p l e R s m args below meth c H locs 0 0 (MQ below (va_Qi post (PQ D cy A) A) args s 0 0 A) (F0 m 0 ls []) := by
  intro v0 v1 S h H locs ls B hl
  unfold wX1_findsBeside at h
  refine g_aload_n M dX1_findsBeside_0 rfl (lv_at hl 0 rfl) ?_
  refine gfX1_18 M B dX1_findsBeside_1 h (fun a1 h => ?_)
  refine g_aload_n M dX1_findsBeside_4 rfl (lv_at hl 0 rfl) ?_
  refine g_aload_n M dX1_findsBeside_5 rfl (lv_at hl 1 rfl) ?_
  refine gfX1_47 M B dX1_findsBeside_6 h (fun a2 h => ?_)
  obtain ⟨o1, e1, hL1, hK1, h⟩ := h
  refine g_calli (k1 := 0) (k2 := 0) B (g_runV (n := 1) (As := [.int a2]) (rm := rmX1_rootOf) M B e1 (kX1_rootOf (v0 := v0) (v1 := a2) l D cy h _) wmX1_68 wiX1_rootOf wsX1_rootOf wnX1 wcdX1_rootOf ⟨rfl, by decide, by decide, by decide +kernel⟩ ⟨Nat.le_trans (by decide) hRf, Nat.le_trans (by decide) hRl⟩ ⟨Nat.le_trans (by decide) hRc, Nat.le_trans (by decide) hRs⟩ hL1 hK1 (by decide) rfl rfl rfl hl.1 rfl (ct_r ct_0) (by decide) dX1_findsBeside_9) (by decide) (by decide) (fun a4 S3 H locs h B => ?_)
  refine g_iald M B dX1_findsBeside_12 h (fun a5 h => ?_)
  exact g_iret M B hr hlk h (by decide) (by decide) dX1_findsBeside_13
end
set_option maxRecDepth 100000 in
set_option maxHeartbeats 4000000 in
theorem kX1_findsBeside (l : Launch) (D : va_G) (cy : Nat → ClassId) {post : Int32 → Pool → Prop} {v0 : Option Nat} {v1 : Option Nat} {S : Pool} (h : wX1_findsBeside post v0 v1 S) : MetI l yX1_findsBeside cX1_findsBeside 2 (some FieldType.int) rmX1_findsBeside [va_rf v0, va_rf v1] D cy S post := by
  intro sz
  refine Met.ofW (cc := cX1_findsBeside) (maxL := 2) (ret := (some FieldType.int)) (by decide) rfl ?_
  intro p e s m args below meth c s₁ B0 hml hv
  obtain ⟨rfl, hpp⟩ := hv
  have hts := atoms_spec (ws := .code yX1_findsBeside cX1_findsBeside 2 (some FieldType.int) :: Gw) B0.pre
  obtain rfl : s.heap.size = sz := hpp.1
  have hl := lv_entry [va_rf v0, va_rf v1] (n := 2) (by rw [sl_r, sl_r, sl_0]; decide)
  rw [lg_entry_eq]
  rw [la_r, la_r, la_0] at hl
  exact tX1_findsBeside (l := l) (R := rmX1_findsBeside) ⟨B0.exec, B0.bytes, hml, findClass_of_methodNamed B0.named, fun w hw => hts w (List.mem_cons_of_mem _ hw)⟩ B0.returns B0.notSynchronized (Nat.le_refl _) (Nat.le_refl _) (Nat.le_refl _) (Nat.le_refl _) _ _ _ h _ _ _ hpp.pb (lv_sub hl [0, 1] rfl)
