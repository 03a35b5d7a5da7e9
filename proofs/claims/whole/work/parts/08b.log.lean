-- X2_init: LogHunt$Log.<init>()V
def wX2_init (post : Pool → Prop) (v0 : Option Nat) (S : Pool) : Prop := xnn v0 (xna S 12 250 250 fun a1 S2 => xpR S2 v0 2 0 a1 fun S3 => xna S3 12 250 250 fun a4 S5 => xpR S5 v0 2 1 a4 fun S6 => post S6)
def rmX2_init : Room := { frames := 1, cells := 2, slots := 500, locals := 12 }
section
variable {p : Program} {l : Launch} {e : Env} {R : Room} {s : State} {m : MethodId} {args : Array Value} {below : List Frame} {meth : Method} {c : Code} {D : va_G} {cy : Nat → ClassId} {A : Nat → Prop}
set_option maxRecDepth 100000 in
set_option maxHeartbeats 4000000 in
theorem tX2_init {post : Pool → Prop} (M : MC p m c cX2_init 1 s args RX2) (hr : meth.sig.returnType = none) (hlk : meth.locks = false) (hRf : 1 ≤ R.frames) (hRl : 12 ≤ R.locals) (hRc : 2 ≤ R.cells) (hRs : 500 ≤ R.slots) (hin : meth.name = "<init>") : ∀ (v0 : Option Nat) (S : Pool), wX2_init post v0 S → ∀ (H : Heap) (locs : List Loc) (ls : Array Slot), PB D cy A s S H locs → lv_has ls 1 [(0, va_rf v0)] → W p l e R s m args below meth c H locs 0 0 (MQ below (va_Qv post (PQ D cy A) A) args s 2 500 A) (F0 m 0 ls []) := by
  intro v0 S h H locs ls B hl
  unfold wX2_init at h
  refine g_aload_n M dX2_init_0 rfl (lv_at hl 0 rfl) ?_
  obtain ⟨⟨o1, e1⟩, h⟩ := h
  refine g_objInit M e1 wmX2_3 hl.1 dX2_init_1 rfl (Nat.le_trans (by decide) hRf) (Nat.le_trans (by decide) hRl) ?_
  refine g_aload_n M dX2_init_4 rfl (lv_at hl 0 rfl) ?_
  refine lv_sipush (v := 250) M.1 M.2.1 dX2_init_5 (by decide) ?_
  refine g_newA (kd := 12) (j := 2) (N := 250) M B ⟨by decide, by decide⟩ rfl wcX2_9 B.2.2.2.2.2.2.2.2.2.2.2.2.1 (by decide) (Nat.le_trans (by decide) hRc) (Nat.le_trans (by decide) hRs) dX2_init_8 h (fun a1 S2 H locs h B => ?_)
  refine W.widen (k := 1) (n := 250) (by decide) (by decide) ?_
  refine gpX2_11 M B hin dX2_init_11 h (fun S3 H locs h B => ?_)
  refine g_aload_n M dX2_init_14 rfl (lv_at hl 0 rfl) ?_
  refine lv_sipush (v := 250) M.1 M.2.1 dX2_init_15 (by decide) ?_
  refine g_newA (kd := 12) (j := 2) (N := 250) M B ⟨by decide, by decide⟩ rfl wcX2_9 B.2.2.2.2.2.2.2.2.2.2.2.2.1 (by decide) (Nat.le_trans (by decide) hRc) (Nat.le_trans (by decide) hRs) dX2_init_18 h (fun a4 S5 H locs h B => ?_)
  refine W.widen (k := 2) (n := 500) (by decide) (by decide) ?_
  refine gpX2_17 M B hin dX2_init_21 h (fun S6 H locs h B => ?_)
  exact g_vret M B hr hlk h (by decide) (by decide) dX2_init_24
end
set_option maxRecDepth 100000 in
set_option maxHeartbeats 4000000 in
theorem kX2_init (l : Launch) (D : va_G) (cy : Nat → ClassId) {post : Pool → Prop} {v0 : Option Nat} {S : Pool} (h : wX2_init post v0 S) : MetV l yX2_init cX2_init 1 rmX2_init [va_rf v0] D cy S post := by
  intro sz
  refine Met.ofW (cc := cX2_init) (maxL := 1) (ret := none) (by decide) rfl ?_
  intro p e s m args below meth c s₁ B0 hml hv
  obtain ⟨rfl, hpp⟩ := hv
  have hts := atoms_spec (ws := .code yX2_init cX2_init 1 none :: Gw) B0.pre
  obtain rfl : s.heap.size = sz := hpp.1
  have hl := lv_entry [va_rf v0] (n := 1) (by rw [sl_r, sl_0]; decide)
  rw [lg_entry_eq]
  rw [la_r, la_0] at hl
  exact tX2_init (l := l) (R := rmX2_init) ⟨B0.exec, B0.bytes, hml, findClass_of_methodNamed B0.named, fun w hw => hts w (List.mem_cons_of_mem _ hw)⟩ B0.returns B0.notSynchronized (Nat.le_refl _) (Nat.le_refl _) (Nat.le_refl _) (Nat.le_refl _) (name_of_methodNamed B0.named B0.method).1 _ _ h _ _ _ hpp.pb (lv_sub hl [0] rfl)
-- X2_actAt: LogHunt$Log.actAt(I)LLogHunt$Act;
def wX2_actAt_21 (post : Option Nat → Pool → Prop) (S : Pool) : Prop := post none S
def wX2_actAt (post : Option Nat → Pool → Prop) (v0 : Option Nat) (v1 : Int32) (S : Pool) : Prop := br (v1 < 0) (wX2_actAt_21 post S) (xI S v0 2 2 fun a2 => br (a2 ≤ v1) (wX2_actAt_21 post S) (xR S v0 2 0 fun a4 => xaR S a4 12 v1 fun a5 => post a5 S))
def rmX2_actAt : Room := { frames := 0, cells := 0, slots := 0, locals := 0 }
section
variable {p : Program} {l : Launch} {e : Env} {R : Room} {s : State} {m : MethodId} {args : Array Value} {below : List Frame} {meth : Method} {c : Code} {D : va_G} {cy : Nat → ClassId} {A : Nat → Prop}
set_option maxRecDepth 100000 in
set_option maxHeartbeats 4000000 in
theorem tX2_actAt_21 {post : Option Nat → Pool → Prop} (M : MC p m c cX2_actAt 2 s args RX2) (hr : meth.sig.returnType = (some (FieldType.object "LogHunt$Act"))) (hlk : meth.locks = false) (hRf : 0 ≤ R.frames) (hRl : 0 ≤ R.locals) (hRc : 0 ≤ R.cells) (hRs : 0 ≤ R.slots) : ∀ (S : Pool), wX2_actAt_21 post S → ∀ (H : Heap) (locs : List Loc) (ls : Array Slot), PB D cy A s S H locs → lv_has ls 2 [] → W p l e R s m args below meth c H locs 0 0 (MQ below (va_Qq post (PQ D cy A) A) args s 0 0 A) (F0 m 21 ls []) := by
  intro S h H locs ls B hl
  unfold wX2_actAt_21 at h
  refine g_null M dX2_actAt_21 ?_
  exact g_aret M B hr hlk h (by decide) (by decide) dX2_actAt_22
set_option maxRecDepth 100000 in
set_option maxHeartbeats 4000000 in
theorem tX2_actAt {post : Option Nat → Pool → Prop} (M : MC p m c cX2_actAt 2 s args RX2) (hr : meth.sig.returnType = (some (FieldType.object "LogHunt$Act"))) (hlk : meth.locks = false) (hRf : 0 ≤ R.frames) (hRl : 0 ≤ R.locals) (hRc : 0 ≤ R.cells) (hRs : 0 ≤ R.slots) : ∀ (v0 : Option Nat) (v1 : Int32) (S : Pool), wX2_actAt post v0 v1 S → ∀ (H : Heap) (locs : List Loc) (ls : Array Slot), PB D cy A s S H locs → lv_has ls 2 [(0, va_rf v0), (1, .int v1)] → W p l e R s m args below meth c H locs 0 0 (MQ below (va_Qq post (PQ D cy A) A) args s 0 0 A) (F0 m 0 ls []) := by
  intro v0 v1 S h H locs ls B hl
  unfold wX2_actAt at h
  refine lv_iload_n M.1 M.2.1 dX2_actAt_0 rfl (lv_at hl 1 rfl) ?_
  refine lv_if_lt (tgt := 21) M.1 M.2.1 dX2_actAt_1 (by decide) (fun c1 => ?_) (fun c1 => ?_)
  · have h := h.1 c1
    exact tX2_actAt_21 M hr hlk hRf hRl hRc hRs _ h _ _ _ B (lv_sub hl [] rfl)
  · have h := h.2 c1
    refine lv_iload_n M.1 M.2.1 dX2_actAt_4 rfl (lv_at hl 1 rfl) ?_
    refine g_aload_n M dX2_actAt_5 rfl (lv_at hl 0 rfl) ?_
    refine gfX2_20 M B dX2_actAt_6 h (fun a2 h => ?_)
    refine lv_icmp_ge (tgt := 21) M.1 M.2.1 dX2_actAt_9 (by decide) (fun c3 => ?_) (fun c3 => ?_)
    · have h := h.1 c3
      exact tX2_actAt_21 M hr hlk hRf hRl hRc hRs _ h _ _ _ B (lv_sub hl [] rfl)
    · have h := h.2 c3
      refine g_aload_n M dX2_actAt_12 rfl (lv_at hl 0 rfl) ?_
      refine gfX2_11 M B dX2_actAt_13 h (fun a4 h => ?_)
      refine lv_iload_n M.1 M.2.1 dX2_actAt_16 rfl (lv_at hl 1 rfl) ?_
      refine g_aald (kd := 12) (t0 := 2) M B ⟨by decide, by decide⟩ rfl dX2_actAt_17 h (fun a5 h => ?_)
      refine lv_goto (tgt := 22) M.1 M.2.1 dX2_actAt_18 (by decide) ?_
      exact g_aret M B hr hlk h (by decide) (by decide) dX2_actAt_22
end
set_option maxRecDepth 100000 in
set_option maxHeartbeats 4000000 in
theorem kX2_actAt (l : Launch) (D : va_G) (cy : Nat → ClassId) {post : Option Nat → Pool → Prop} {v0 : Option Nat} {v1 : Int32} {S : Pool} (h : wX2_actAt post v0 v1 S) : MetR l yX2_actAt cX2_actAt 2 (some (FieldType.object "LogHunt$Act")) rmX2_actAt [va_rf v0, .int v1] D cy S post := by
  intro sz
  refine Met.ofW (cc := cX2_actAt) (maxL := 2) (ret := (some (FieldType.object "LogHunt$Act"))) (by decide) rfl ?_
  intro p e s m args below meth c s₁ B0 hml hv
  obtain ⟨rfl, hpp⟩ := hv
  have hts := atoms_spec (ws := .code yX2_actAt cX2_actAt 2 (some (FieldType.object "LogHunt$Act")) :: Gw) B0.pre
  obtain rfl : s.heap.size = sz := hpp.1
  have hl := lv_entry [va_rf v0, .int v1] (n := 2) (by rw [sl_r, sl_i, sl_0]; decide)
  rw [lg_entry_eq]
  rw [la_r, la_i, la_0] at hl
  exact tX2_actAt (l := l) (R := rmX2_actAt) ⟨B0.exec, B0.bytes, hml, findClass_of_methodNamed B0.named, fun w hw => hts w (List.mem_cons_of_mem _ hw)⟩ B0.returns B0.notSynchronized (Nat.le_refl _) (Nat.le_refl _) (Nat.le_refl _) (Nat.le_refl _) _ _ _ h _ _ _ hpp.pb (lv_sub hl [0, 1] rfl)
-- X2_tookDouble: LogHunt$Log.tookDouble(IIIII)Z
def wX2_tookDouble_91 (K3 : Option Nat → Int32 → Int32 → Int32 → Int32 → Int32 → Int32 → Pool → Prop) (post : Int32 → Pool → Prop) (v0 : Option Nat) (v1 : Int32) (v2 : Int32) (v3 : Int32) (v4 : Int32) (v5 : Int32) (v6 : Int32) (S : Pool) : Prop := K3 v0 v1 v2 v3 v4 v5 (v6 + 1) S
def wX2_tookDouble_3 (post : Int32 → Pool → Prop) : Nat → Option Nat → Int32 → Int32 → Int32 → Int32 → Int32 → Int32 → Pool → Prop
  | 0 => fun _ _ _ _ _ _ _ _ => False
  | n + 1 => fun v0 v1 v2 v3 v4 v5 v6 S => xI S v0 2 2 fun a1 => br (a1 ≤ v6) (((0 : Int32) = 0 ∨ (0 : Int32) = 1) ∧ post (0 : Int32) S) (xR S v0 2 0 fun a3 => xaR S a3 12 v6 fun a4 => xI S a4 0 5 fun a5 => br (a5 = v5) (xI S a4 0 1 fun a7 => br (a7 = v1) (xI S a4 0 2 fun a9 => br (a9 = v2) (xI S a4 0 3 fun a11 => br (a11 = v3) (xI S a4 0 4 fun a13 => br (a13 = v4) (xI S a4 0 7 fun a15 => xpI S a4 0 7 (a15 + 1) fun S16 => xI S16 v0 2 3 fun a17 => xpI S16 v0 2 3 (a17 + 1) fun S18 => ((1 : Int32) = 0 ∨ (1 : Int32) = 1) ∧ post (1 : Int32) S18) (wX2_tookDouble_91 (wX2_tookDouble_3 post n) post v0 v1 v2 v3 v4 v5 v6 S)) (wX2_tookDouble_91 (wX2_tookDouble_3 post n) post v0 v1 v2 v3 v4 v5 v6 S)) (wX2_tookDouble_91 (wX2_tookDouble_3 post n) post v0 v1 v2 v3 v4 v5 v6 S)) (wX2_tookDouble_91 (wX2_tookDouble_3 post n) post v0 v1 v2 v3 v4 v5 v6 S)) (wX2_tookDouble_91 (wX2_tookDouble_3 post n) post v0 v1 v2 v3 v4 v5 v6 S))
def wX2_tookDouble (post : Int32 → Pool → Prop) (v0 : Option Nat) (v1 : Int32) (v2 : Int32) (v3 : Int32) (v4 : Int32) (v5 : Int32) (S : Pool) : Prop := ∃ n1, wX2_tookDouble_3 post n1 v0 v1 v2 v3 v4 v5 0 S
def rmX2_tookDouble : Room := { frames := 0, cells := 0, slots := 0, locals := 0 }
section
variable {p : Program} {l : Launch} {e : Env} {R : Room} {s : State} {m : MethodId} {args : Array Value} {below : List Frame} {meth : Method} {c : Code} {D : va_G} {cy : Nat → ClassId} {A : Nat → Prop}
set_option maxRecDepth 100000 in
set_option maxHeartbeats 4000000 in
theorem tX2_tookDouble_91 {K3 : Option Nat → Int32 → Int32 → Int32 → Int32 → Int32 → Int32 → Pool → Prop} {post : Int32 → Pool → Prop} (M : MC p m c cX2_tookDouble 8 s args RX2) (hr : meth.sig.returnType = (some FieldType.boolean)) (hlk : meth.locks = false) (hRf : 0 ≤ R.frames) (hRl : 0 ≤ R.locals) (hRc : 0 ≤ R.cells) (hRs : 0 ≤ R.slots) (hK3 : ∀ (v0 : Option Nat) (v1 : Int32) (v2 : Int32) (v3 : Int32) (v4 : Int32) (v5 : Int32) (v6 : Int32) (S : Pool), K3 v0 v1 v2 v3 v4 v5 v6 S → ∀ (H : Heap) (locs : List Loc) (ls : Array Slot), PB D cy A s S H locs → lv_has ls 8 [(0, va_rf v0), (1, .int v1), (2, .int v2), (3, .int v3), (4, .int v4), (5, .int v5), (6, .int v6)] → W p l e R s m args below meth c H locs 0 0 (MQ below (va_Qi post (PQ D cy A) A) args s 0 0 A) (F0 m 3 ls [])) : ∀ (v0 : Option Nat) (v1 : Int32) (v2 : Int32) (v3 : Int32) (v4 : Int32) (v5 : Int32) (v6 : Int32) (S : Pool), wX2_tookDouble_91 K3 post v0 v1 v2 v3 v4 v5 v6 S → ∀ (H : Heap) (locs : List Loc) (ls : Array Slot), PB D cy A s S H locs → lv_has ls 8 [(0, va_rf v0), (1, .int v1), (2, .int v2), (3, .int v3), (4, .int v4), (5, .int v5), (6, .int v6)] → W p l e R s m args below meth c H locs 0 0 (MQ below (va_Qi post (PQ D cy A) A) args s 0 0 A) (F0 m 91 ls []) := by
  intro v0 v1 v2 v3 v4 v5 v6 S h H locs ls B hl
  unfold wX2_tookDouble_91 at h
  refine lv_iinc (v := v6 + 1) (lv' := [(6, .int (v6 + 1)), (0, va_rf v0), (1, .int v1), (2, .int v2), (3, .int v3), (4, .int v4), (5, .int v5)]) M.1 M.2.1 dX2_tookDouble_91 hl (k := 6) rfl (by rfl) (by decide) (fl_e (fl_k rfl rfl (fl_k rfl rfl (fl_k rfl rfl (fl_k rfl rfl (fl_k rfl rfl (fl_i rfl (fl_d rfl fl_0)))))))) (fun ls hl => ?_)
  refine lv_goto (tgt := 3) M.1 M.2.1 dX2_tookDouble_94 (by decide) ?_
  exact hK3 _ _ _ _ _ _ _ _ h _ _ _ B (lv_sub hl [1, 2, 3, 4, 5, 6, 0] rfl)
set_option maxRecDepth 100000 in
set_option maxHeartbeats 4000000 in
theorem tX2_tookDouble_3 {post : Int32 → Pool → Prop} (M : MC p m c cX2_tookDouble 8 s args RX2) (hr : meth.sig.returnType = (some FieldType.boolean)) (hlk : meth.locks = false) (hRf : 0 ≤ R.frames) (hRl : 0 ≤ R.locals) (hRc : 0 ≤ R.cells) (hRs : 0 ≤ R.slots) : ∀ (n : Nat) (v0 : Option Nat) (v1 : Int32) (v2 : Int32) (v3 : Int32) (v4 : Int32) (v5 : Int32) (v6 : Int32) (S : Pool), wX2_tookDouble_3 post n v0 v1 v2 v3 v4 v5 v6 S → ∀ (H : Heap) (locs : List Loc) (ls : Array Slot), PB D cy A s S H locs → lv_has ls 8 [(0, va_rf v0), (1, .int v1), (2, .int v2), (3, .int v3), (4, .int v4), (5, .int v5), (6, .int v6)] → W p l e R s m args below meth c H locs 0 0 (MQ below (va_Qi post (PQ D cy A) A) args s 0 0 A) (F0 m 3 ls []) := by
  intro n
  induction n with
  | zero => intro v0 v1 v2 v3 v4 v5 v6 S h; exact False.elim h
  | succ n ih =>
    intro v0 v1 v2 v3 v4 v5 v6 S h H locs ls B hl
    unfold wX2_tookDouble_3 at h
    refine lv_iload M.1 M.2.1 dX2_tookDouble_3 (lv_at hl 6 rfl) ?_
    refine g_aload_n M dX2_tookDouble_5 rfl (lv_at hl 0 rfl) ?_
    refine gfX2_20 M B dX2_tookDouble_6 h (fun a1 h => ?_)
    refine lv_icmp_ge (tgt := 97) M.1 M.2.1 dX2_tookDouble_9 (by decide) (fun c2 => ?_) (fun c2 => ?_)
    · have h := h.1 c2
      refine lv_iconst (v := 0) M.1 M.2.1 dX2_tookDouble_97 (by decide) ?_
      exact g_zret M B hr hlk h (by decide) (by decide) dX2_tookDouble_98
    · have h := h.2 c2
      refine g_aload_n M dX2_tookDouble_12 rfl (lv_at hl 0 rfl) ?_
      refine gfX2_11 M B dX2_tookDouble_13 h (fun a3 h => ?_)
      refine lv_iload M.1 M.2.1 dX2_tookDouble_16 (lv_at hl 6 rfl) ?_
      refine g_aald (kd := 12) (t0 := 2) M B ⟨by decide, by decide⟩ rfl dX2_tookDouble_18 h (fun a4 h => ?_)
      refine g_astore (lv' := [(7, va_rf a4), (0, va_rf v0), (1, .int v1), (2, .int v2), (3, .int v3), (4, .int v4), (5, .int v5), (6, .int v6)]) M dX2_tookDouble_19 hl (by decide) (fl_e (fl_k rfl rfl (fl_k rfl rfl (fl_k rfl rfl (fl_k rfl rfl (fl_k rfl rfl (fl_k rfl rfl (fl_i rfl fl_0)))))))) (fun ls hl => ?_)
      refine g_aload M dX2_tookDouble_21 (lv_at hl 0 rfl) ?_
      refine gfX2_24 M B dX2_tookDouble_23 h (fun a5 h => ?_)
      refine lv_iload M.1 M.2.1 dX2_tookDouble_26 (lv_at hl 6 rfl) ?_
      refine lv_icmp_ne (tgt := 91) M.1 M.2.1 dX2_tookDouble_28 (by decide) (fun c6 => ?_) (fun c6 => ?_)
      · have h := h.2 c6
        exact tX2_tookDouble_91 M hr hlk hRf hRl hRc hRs ih _ _ _ _ _ _ _ _ h _ _ _ B (lv_sub hl [1, 2, 3, 4, 5, 6, 7] rfl)
      · have h := h.1 c6
        refine g_aload M dX2_tookDouble_31 (lv_at hl 0 rfl) ?_
        refine gfX2_27 M B dX2_tookDouble_33 h (fun a7 h => ?_)
        refine lv_iload_n M.1 M.2.1 dX2_tookDouble_36 rfl (lv_at hl 2 rfl) ?_
        refine lv_icmp_ne (tgt := 91) M.1 M.2.1 dX2_tookDouble_37 (by decide) (fun c8 => ?_) (fun c8 => ?_)
        · have h := h.2 c8
          exact tX2_tookDouble_91 M hr hlk hRf hRl hRc hRs ih _ _ _ _ _ _ _ _ h _ _ _ B (lv_sub hl [1, 2, 3, 4, 5, 6, 7] rfl)
        · have h := h.1 c8
          refine g_aload M dX2_tookDouble_40 (lv_at hl 0 rfl) ?_
          refine gfX2_30 M B dX2_tookDouble_42 h (fun a9 h => ?_)
          refine lv_iload_n M.1 M.2.1 dX2_tookDouble_45 rfl (lv_at hl 3 rfl) ?_
          refine lv_icmp_ne (tgt := 91) M.1 M.2.1 dX2_tookDouble_46 (by decide) (fun c10 => ?_) (fun c10 => ?_)
          · have h := h.2 c10
            exact tX2_tookDouble_91 M hr hlk hRf hRl hRc hRs ih _ _ _ _ _ _ _ _ h _ _ _ B (lv_sub hl [1, 2, 3, 4, 5, 6, 7] rfl)
          · have h := h.1 c10
            refine g_aload M dX2_tookDouble_49 (lv_at hl 0 rfl) ?_
            refine gfX2_33 M B dX2_tookDouble_51 h (fun a11 h => ?_)
            refine lv_iload_n M.1 M.2.1 dX2_tookDouble_54 rfl (lv_at hl 4 rfl) ?_
            refine lv_icmp_ne (tgt := 91) M.1 M.2.1 dX2_tookDouble_55 (by decide) (fun c12 => ?_) (fun c12 => ?_)
            · have h := h.2 c12
              exact tX2_tookDouble_91 M hr hlk hRf hRl hRc hRs ih _ _ _ _ _ _ _ _ h _ _ _ B (lv_sub hl [1, 2, 3, 4, 5, 6, 7] rfl)
            · have h := h.1 c12
              refine g_aload M dX2_tookDouble_58 (lv_at hl 0 rfl) ?_
              refine gfX2_36 M B dX2_tookDouble_60 h (fun a13 h => ?_)
              refine lv_iload M.1 M.2.1 dX2_tookDouble_63 (lv_at hl 5 rfl) ?_
              refine lv_icmp_ne (tgt := 91) M.1 M.2.1 dX2_tookDouble_65 (by decide) (fun c14 => ?_) (fun c14 => ?_)
              · have h := h.2 c14
                exact tX2_tookDouble_91 M hr hlk hRf hRl hRc hRs ih _ _ _ _ _ _ _ _ h _ _ _ B (lv_sub hl [1, 2, 3, 4, 5, 6, 7] rfl)
              · have h := h.1 c14
                refine g_aload M dX2_tookDouble_68 (lv_at hl 0 rfl) ?_
                refine lv_dup M.1 M.2.1 dX2_tookDouble_70 (rf_cat _) ?_
                refine gfX2_39 M B dX2_tookDouble_71 h (fun a15 h => ?_)
                refine lv_iconst (v := 1) M.1 M.2.1 dX2_tookDouble_74 (by decide) ?_
                refine lv_iadd M.1 M.2.1 dX2_tookDouble_75 ?_
                refine gpX2_39 M B dX2_tookDouble_76 h (fun S16 H locs h B => ?_)
                refine g_aload_n M dX2_tookDouble_79 rfl (lv_at hl 1 rfl) ?_
                refine lv_dup M.1 M.2.1 dX2_tookDouble_80 (rf_cat _) ?_
                refine gfX2_42 M B dX2_tookDouble_81 h (fun a17 h => ?_)
                refine lv_iconst (v := 1) M.1 M.2.1 dX2_tookDouble_84 (by decide) ?_
                refine lv_iadd M.1 M.2.1 dX2_tookDouble_85 ?_
                refine gpX2_42 M B dX2_tookDouble_86 h (fun S18 H locs h B => ?_)
                refine lv_iconst (v := 1) M.1 M.2.1 dX2_tookDouble_89 (by decide) ?_
                exact g_zret M B hr hlk h (by decide) (by decide) dX2_tookDouble_90
set_option maxRecDepth 100000 in
set_option maxHeartbeats 4000000 in
theorem tX2_tookDouble {post : Int32 → Pool → Prop} (M : MC p m c cX2_tookDouble 8 s args RX2) (hr : meth.sig.returnType = (some FieldType.boolean)) (hlk : meth.locks = false) (hRf : 0 ≤ R.frames) (hRl : 0 ≤ R.locals) (hRc : 0 ≤ R.cells) (hRs : 0 ≤ R.slots) : ∀ (v0 : Option Nat) (v1 : Int32) (v2 : Int32) (v3 : Int32) (v4 : Int32) (v5 : Int32) (S : Pool), wX2_tookDouble post v0 v1 v2 v3 v4 v5 S → ∀ (H : Heap) (locs : List Loc) (ls : Array Slot), PB D cy A s S H locs → lv_has ls 8 [(0, va_rf v0), (1, .int v1), (2, .int v2), (3, .int v3), (4, .int v4), (5, .int v5)] → W p l e R s m args below meth c H locs 0 0 (MQ below (va_Qi post (PQ D cy A) A) args s 0 0 A) (F0 m 0 ls []) := by
  intro v0 v1 v2 v3 v4 v5 S h H locs ls B hl
  unfold wX2_tookDouble at h
  refine lv_iconst (v := 0) M.1 M.2.1 dX2_tookDouble_0 (by decide) ?_
  refine lv_istore (lv' := [(6, .int 0), (0, va_rf v0), (1, .int v1), (2, .int v2), (3, .int v3), (4, .int v4), (5, .int v5)]) M.1 M.2.1 dX2_tookDouble_1 hl (by decide) (fl_e (fl_k rfl rfl (fl_k rfl rfl (fl_k rfl rfl (fl_k rfl rfl (fl_k rfl rfl (fl_i rfl fl_0))))))) (fun ls hl => ?_)
  obtain ⟨n1, h⟩ := h
  exact tX2_tookDouble_3 M hr hlk hRf hRl hRc hRs n1 _ _ _ _ _ _ _ _ h _ _ _ B (lv_sub hl [1, 2, 3, 4, 5, 6, 0] rfl)
end
set_option maxRecDepth 100000 in
set_option maxHeartbeats 4000000 in
theorem kX2_tookDouble (l : Launch) (D : va_G) (cy : Nat → ClassId) {post : Int32 → Pool → Prop} {v0 : Option Nat} {v1 : Int32} {v2 : Int32} {v3 : Int32} {v4 : Int32} {v5 : Int32} {S : Pool} (h : wX2_tookDouble post v0 v1 v2 v3 v4 v5 S) : MetI l yX2_tookDouble cX2_tookDouble 8 (some FieldType.boolean) rmX2_tookDouble [va_rf v0, .int v1, .int v2, .int v3, .int v4, .int v5] D cy S post := by
  intro sz
  refine Met.ofW (cc := cX2_tookDouble) (maxL := 8) (ret := (some FieldType.boolean)) (by decide) rfl ?_
  intro p e s m args below meth c s₁ B0 hml hv
  obtain ⟨rfl, hpp⟩ := hv
  have hts := atoms_spec (ws := .code yX2_tookDouble cX2_tookDouble 8 (some FieldType.boolean) :: Gw) B0.pre
  obtain rfl : s.heap.size = sz := hpp.1
  have hl := lv_entry [va_rf v0, .int v1, .int v2, .int v3, .int v4, .int v5] (n := 8) (by rw [sl_r, sl_i, sl_i, sl_i, sl_i, sl_i, sl_0]; decide)
  rw [lg_entry_eq]
  rw [la_r, la_i, la_i, la_i, la_i, la_i, la_0] at hl
  exact tX2_tookDouble (l := l) (R := rmX2_tookDouble) ⟨B0.exec, B0.bytes, hml, findClass_of_methodNamed B0.named, fun w hw => hts w (List.mem_cons_of_mem _ hw)⟩ B0.returns B0.notSynchronized (Nat.le_refl _) (Nat.le_refl _) (Nat.le_refl _) (Nat.le_refl _) _ _ _ _ _ _ _ h _ _ _ hpp.pb (lv_sub hl [0, 1, 2, 3, 4, 5] rfl)
-- X2_familyOf: LogHunt$Log.familyOf(LLogHunt$Act;)I
def wX2_familyOf_2 (post : Int32 → Pool → Prop) : Nat → Option Nat → Option Nat → Int32 → Pool → Prop
  | 0 => fun _ _ _ _ => False
  | n + 1 => fun v0 v1 v2 S => xI S v0 2 2 fun a1 => br (a1 ≤ v2) (xI S v1 0 0 fun a3 => post a3 S) (xR S v0 2 0 fun a4 => xaR S a4 12 v2 fun a5 => xrc S a5 0 (wX0_isAlike (fun a7 S6 => br (a7 = 0) (wX2_familyOf_2 post n v0 v1 (v2 + 1) S6) (post v2 S6)) a5 v1 S))
def wX2_familyOf (post : Int32 → Pool → Prop) (v0 : Option Nat) (v1 : Option Nat) (S : Pool) : Prop := ∃ n1, wX2_familyOf_2 post n1 v0 v1 0 S
def rmX2_familyOf : Room := { frames := 1, cells := 0, slots := 0, locals := 21 }
section
variable {p : Program} {l : Launch} {e : Env} {R : Room} {s : State} {m : MethodId} {args : Array Value} {below : List Frame} {meth : Method} {c : Code} {D : va_G} {cy : Nat → ClassId} {A : Nat → Prop}
set_option maxRecDepth 100000 in
set_option maxHeartbeats 4000000 in
theorem tX2_familyOf_2 {post : Int32 → Pool → Prop} (M : MC p m c cX2_familyOf 3 s args RX2) (hr : meth.sig.returnType = (some FieldType.int)) (hlk : meth.locks = false) (hRf : 1 ≤ R.frames) (hRl : 21 ≤ R.locals) (hRc : 0 ≤ R.cells) (hRs : 0 ≤ R.slots) : ∀ (n : Nat) (v0 : Option Nat) (v1 : Option Nat) (v2 : Int32) (S : Pool), wX2_familyOf_2 post n v0 v1 v2 S → ∀ (H : Heap) (locs : List Loc) (ls : Array Slot), PB D cy A s S H locs → lv_has ls 3 [(0, va_rf v0), (1, va_rf v1), (2, .int v2)] → W p l e R s m args below meth c H locs 0 0 (MQ below (va_Qi post (PQ D cy A) A) args s 0 0 A) (F0 m 2 ls []) := by
  intro n
  induction n with
  | zero => intro v0 v1 v2 S h; exact False.elim h
  | succ n ih =>
    intro v0 v1 v2 S h H locs ls B hl
    unfold wX2_familyOf_2 at h
    refine lv_iload_n M.1 M.2.1 dX2_familyOf_2 rfl (lv_at hl 2 rfl) ?_
    refine g_aload_n M dX2_familyOf_3 rfl (lv_at hl 0 rfl) ?_
    refine gfX2_20 M B dX2_familyOf_4 h (fun a1 h => ?_)
    refine lv_icmp_ge (tgt := 31) M.1 M.2.1 dX2_familyOf_7 (by decide) (fun c2 => ?_) (fun c2 => ?_)
    · have h := h.1 c2
      refine g_aload_n M dX2_familyOf_31 rfl (lv_at hl 1 rfl) ?_
      refine gfX2_60 M B dX2_familyOf_32 h (fun a3 h => ?_)
      exact g_iret M B hr hlk h (by decide) (by decide) dX2_familyOf_35
    · have h := h.2 c2
      refine g_aload_n M dX2_familyOf_10 rfl (lv_at hl 0 rfl) ?_
      refine gfX2_11 M B dX2_familyOf_11 h (fun a4 h => ?_)
      refine lv_iload_n M.1 M.2.1 dX2_familyOf_14 rfl (lv_at hl 2 rfl) ?_
      refine g_aald (kd := 12) (t0 := 2) M B ⟨by decide, by decide⟩ rfl dX2_familyOf_15 h (fun a5 h => ?_)
      refine g_aload_n M dX2_familyOf_16 rfl (lv_at hl 1 rfl) ?_
      obtain ⟨o1, e1, hL1, hK1, h⟩ := h
      refine g_calli (k1 := 0) (k2 := 0) B (g_runV (n := 1) (As := [va_rf v1]) (rm := rmX0_isAlike) M B e1 (kX0_isAlike (v0 := a5) (v1 := v1) l D cy h _) wmX2_56 wiX0_isAlike wsX0_isAlike wnX0 wcdX0_isAlike ⟨rfl, by decide, by decide, by decide +kernel⟩ ⟨Nat.le_trans (by decide) hRf, Nat.le_trans (by decide) hRl⟩ ⟨Nat.le_trans (by decide) hRc, Nat.le_trans (by decide) hRs⟩ hL1 hK1 (by decide) rfl rfl rfl hl.1 rfl ct_0 (by decide) dX2_familyOf_17) (by decide) (by decide) (fun a7 S6 H locs h B => ?_)
      refine lv_if_eq (tgt := 25) M.1 M.2.1 dX2_familyOf_20 (by decide) (fun c8 => ?_) (fun c8 => ?_)
      · have h := h.1 c8
        refine lv_iinc (v := v2 + 1) (lv' := [(2, .int (v2 + 1)), (0, va_rf v0), (1, va_rf v1)]) M.1 M.2.1 dX2_familyOf_25 hl (k := 2) rfl (by rfl) (by decide) (fl_e (fl_k rfl rfl (fl_r rfl (fl_d rfl fl_0)))) (fun ls hl => ?_)
        refine lv_goto (tgt := 2) M.1 M.2.1 dX2_familyOf_28 (by decide) ?_
        exact ih _ _ _ _ h _ _ _ B (lv_sub hl [1, 2, 0] rfl)
      · have h := h.2 c8
        refine lv_iload_n M.1 M.2.1 dX2_familyOf_23 rfl (lv_at hl 2 rfl) ?_
        exact g_iret M B hr hlk h (by decide) (by decide) dX2_familyOf_24
set_option maxRecDepth 100000 in
set_option maxHeartbeats 4000000 in
theorem tX2_familyOf {post : Int32 → Pool → Prop} (M : MC p m c cX2_familyOf 3 s args RX2) (hr : meth.sig.returnType = (some FieldType.int)) (hlk : meth.locks = false) (hRf : 1 ≤ R.frames) (hRl : 21 ≤ R.locals) (hRc : 0 ≤ R.cells) (hRs : 0 ≤ R.slots) : ∀ (v0 : Option Nat) (v1 : Option Nat) (S : Pool), wX2_familyOf post v0 v1 S → ∀ (H : Heap) (locs : List Loc) (ls : Array Slot), PB D cy A s S H locs → lv_has ls 3 [(0, va_rf v0), (1, va_rf v1)] → W p l e R s m args below meth c H locs 0 0 (MQ below (va_Qi post (PQ D cy A) A) args s 0 0 A) (F0 m 0 ls []) := by
  intro v0 v1 S h H locs ls B hl
  unfold wX2_familyOf at h
  refine lv_iconst (v := 0) M.1 M.2.1 dX2_familyOf_0 (by decide) ?_
  refine lv_istore_n (lv' := [(2, .int 0), (0, va_rf v0), (1, va_rf v1)]) M.1 M.2.1 dX2_familyOf_1 rfl hl (by decide) (fl_e (fl_k rfl rfl (fl_r rfl fl_0))) (fun ls hl => ?_)
  obtain ⟨n1, h⟩ := h
  exact tX2_familyOf_2 M hr hlk hRf hRl hRc hRs n1 _ _ _ _ h _ _ _ B (lv_sub hl [1, 2, 0] rfl)
end
set_option maxRecDepth 100000 in
set_option maxHeartbeats 4000000 in
theorem kX2_familyOf (l : Launch) (D : va_G) (cy : Nat → ClassId) {post : Int32 → Pool → Prop} {v0 : Option Nat} {v1 : Option Nat} {S : Pool} (h : wX2_familyOf post v0 v1 S) : MetI l yX2_familyOf cX2_familyOf 3 (some FieldType.int) rmX2_familyOf [va_rf v0, va_rf v1] D cy S post := by
  intro sz
  refine Met.ofW (cc := cX2_familyOf) (maxL := 3) (ret := (some FieldType.int)) (by decide) rfl ?_
  intro p e s m args below meth c s₁ B0 hml hv
  obtain ⟨rfl, hpp⟩ := hv
  have hts := atoms_spec (ws := .code yX2_familyOf cX2_familyOf 3 (some FieldType.int) :: Gw) B0.pre
  obtain rfl : s.heap.size = sz := hpp.1
  have hl := lv_entry [va_rf v0, va_rf v1] (n := 3) (by rw [sl_r, sl_r, sl_0]; decide)
  rw [lg_entry_eq]
  rw [la_r, la_r, la_0] at hl
  exact tX2_familyOf (l := l) (R := rmX2_familyOf) ⟨B0.exec, B0.bytes, hml, findClass_of_methodNamed B0.named, fun w hw => hts w (List.mem_cons_of_mem _ hw)⟩ B0.returns B0.notSynchronized (Nat.le_refl _) (Nat.le_refl _) (Nat.le_refl _) (Nat.le_refl _) _ _ _ h _ _ _ hpp.pb (lv_sub hl [0, 1] rfl)
-- X2_add: LogHunt$Log.add(LLogHunt$Act;)V
def wX2_add_98 (post : Pool → Prop) (v0 : Option Nat) (v1 : Option Nat) (v2 : Int32) (S : Pool) : Prop := xR S v0 2 1 fun a1 => xsR S a1 12 0 v2 v1 fun S2 => xI S2 v0 2 2 fun a3 => xpI S2 v0 2 2 (a3 + 1) fun S4 => post S4
def wX2_add_56 (post : Pool → Prop) : Nat → Option Nat → Option Nat → Int32 → Pool → Prop
  | 0 => fun _ _ _ _ => False
  | n + 1 => fun v0 v1 v2 S => br (v2 ≤ 0) (wX2_add_98 post v0 v1 v2 S) (xR S v0 2 1 fun a2 => xaR S a2 12 (v2 - 1) fun a3 => xI S a3 0 5 fun a4 => xI S v1 0 5 fun a5 => br (a4 ≤ a5) (wX2_add_98 post v0 v1 v2 S) (xR S v0 2 1 fun a7 => xR S v0 2 1 fun a8 => xaR S a8 12 (v2 - 1) fun a9 => xsR S a7 12 0 v2 a9 fun S10 => wX2_add_56 post n v0 v1 (v2 + (-1)) S10))
def wX2_add_41 (post : Pool → Prop) (v0 : Option Nat) (v1 : Option Nat) (S : Pool) : Prop := xR S v0 2 0 fun a1 => xI S v0 2 2 fun a2 => xsR S a1 12 0 a2 v1 fun S3 => xI S3 v0 2 2 fun a4 => ∃ n1, wX2_add_56 post n1 v0 v1 a4 S3
def wX2_add (post : Pool → Prop) (v0 : Option Nat) (v1 : Option Nat) (S : Pool) : Prop := xI S v0 2 2 fun a1 => br (a1 < 250) (xrc S v0 2 (wX2_familyOf (fun a4 S3 => xpI S3 v1 0 8 a4 fun S5 => xI S5 v1 0 6 fun a6 => xI S5 v1 0 5 fun a7 => br (a6 ≤ a7) (wX2_add_41 post v0 v1 S5) (xI S5 v0 2 4 fun a9 => xpI S5 v0 2 4 (a9 + 1) fun S10 => wX2_add_41 post v0 v1 S10)) v0 v1 S)) (post S)
def rmX2_add : Room := { frames := 2, cells := 0, slots := 0, locals := 43 }
section
variable {p : Program} {l : Launch} {e : Env} {R : Room} {s : State} {m : MethodId} {args : Array Value} {below : List Frame} {meth : Method} {c : Code} {D : va_G} {cy : Nat → ClassId} {A : Nat → Prop}
set_option maxRecDepth 100000 in
set_option maxHeartbeats 4000000 in
theorem tX2_add_98 {post : Pool → Prop} (M : MC p m c cX2_add 3 s args RX2) (hr : meth.sig.returnType = none) (hlk : meth.locks = false) (hRf : 2 ≤ R.frames) (hRl : 43 ≤ R.locals) (hRc : 0 ≤ R.cells) (hRs : 0 ≤ R.slots) : ∀ (v0 : Option Nat) (v1 : Option Nat) (v2 : Int32) (S : Pool), wX2_add_98 post v0 v1 v2 S → ∀ (H : Heap) (locs : List Loc) (ls : Array Slot), PB D cy A s S H locs → lv_has ls 3 [(0, va_rf v0), (1, va_rf v1), (2, .int v2)] → W p l e R s m args below meth c H locs 0 0 (MQ below (va_Qv post (PQ D cy A) A) args s 0 0 A) (F0 m 98 ls []) := by
  intro v0 v1 v2 S h H locs ls B hl
  unfold wX2_add_98 at h
  refine g_aload_n M dX2_add_98 rfl (lv_at hl 0 rfl) ?_
  refine gfX2_17 M B dX2_add_99 h (fun a1 h => ?_)
  refine lv_iload_n M.1 M.2.1 dX2_add_102 rfl (lv_at hl 2 rfl) ?_
  refine g_aload_n M dX2_add_103 rfl (lv_at hl 1 rfl) ?_
  refine g_aast (kd := 12) (kv := 0) (t0 := 2) M B ⟨by decide, by decide⟩ (by decide) rfl rfl dX2_add_104 h (fun S2 H locs h B => ?_)
  refine g_aload_n M dX2_add_105 rfl (lv_at hl 0 rfl) ?_
  refine lv_dup M.1 M.2.1 dX2_add_106 (rf_cat _) ?_
  refine gfX2_20 M B dX2_add_107 h (fun a3 h => ?_)
  refine lv_iconst (v := 1) M.1 M.2.1 dX2_add_110 (by decide) ?_
  refine lv_iadd M.1 M.2.1 dX2_add_111 ?_
  refine gpX2_20 M B dX2_add_112 h (fun S4 H locs h B => ?_)
  exact g_vret M B hr hlk h (by decide) (by decide) dX2_add_115
set_option maxRecDepth 100000 in
set_option maxHeartbeats 4000000 in
theorem tX2_add_56 {post : Pool → Prop} (M : MC p m c cX2_add 3 s args RX2) (hr : meth.sig.returnType = none) (hlk : meth.locks = false) (hRf : 2 ≤ R.frames) (hRl : 43 ≤ R.locals) (hRc : 0 ≤ R.cells) (hRs : 0 ≤ R.slots) : ∀ (n : Nat) (v0 : Option Nat) (v1 : Option Nat) (v2 : Int32) (S : Pool), wX2_add_56 post n v0 v1 v2 S → ∀ (H : Heap) (locs : List Loc) (ls : Array Slot), PB D cy A s S H locs → lv_has ls 3 [(0, va_rf v0), (1, va_rf v1), (2, .int v2)] → W p l e R s m args below meth c H locs 0 0 (MQ below (va_Qv post (PQ D cy A) A) args s 0 0 A) (F0 m 56 ls []) := by
  intro n
  induction n with
  | zero => intro v0 v1 v2 S h; exact False.elim h
  | succ n ih =>
    intro v0 v1 v2 S h H locs ls B hl
    unfold wX2_add_56 at h
    refine lv_iload_n M.1 M.2.1 dX2_add_56 rfl (lv_at hl 2 rfl) ?_
    refine lv_if_le (tgt := 98) M.1 M.2.1 dX2_add_57 (by decide) (fun c1 => ?_) (fun c1 => ?_)
    · have h := h.1 c1
      exact tX2_add_98 M hr hlk hRf hRl hRc hRs _ _ _ _ h _ _ _ B (lv_sub hl [0, 1, 2] rfl)
    · have h := h.2 c1
      refine g_aload_n M dX2_add_60 rfl (lv_at hl 0 rfl) ?_
      refine gfX2_17 M B dX2_add_61 h (fun a2 h => ?_)
      refine lv_iload_n M.1 M.2.1 dX2_add_64 rfl (lv_at hl 2 rfl) ?_
      refine lv_iconst (v := 1) M.1 M.2.1 dX2_add_65 (by decide) ?_
      refine lv_isub M.1 M.2.1 dX2_add_66 ?_
      refine g_aald (kd := 12) (t0 := 2) M B ⟨by decide, by decide⟩ rfl dX2_add_67 h (fun a3 h => ?_)
      refine gfX2_24 M B dX2_add_68 h (fun a4 h => ?_)
      refine g_aload_n M dX2_add_71 rfl (lv_at hl 1 rfl) ?_
      refine gfX2_24 M B dX2_add_72 h (fun a5 h => ?_)
      refine lv_icmp_le (tgt := 98) M.1 M.2.1 dX2_add_75 (by decide) (fun c6 => ?_) (fun c6 => ?_)
      · have h := h.1 c6
        exact tX2_add_98 M hr hlk hRf hRl hRc hRs _ _ _ _ h _ _ _ B (lv_sub hl [0, 1, 2] rfl)
      · have h := h.2 c6
        refine g_aload_n M dX2_add_78 rfl (lv_at hl 0 rfl) ?_
        refine gfX2_17 M B dX2_add_79 h (fun a7 h => ?_)
        refine lv_iload_n M.1 M.2.1 dX2_add_82 rfl (lv_at hl 2 rfl) ?_
        refine g_aload_n M dX2_add_83 rfl (lv_at hl 0 rfl) ?_
        refine gfX2_17 M B dX2_add_84 h (fun a8 h => ?_)
        refine lv_iload_n M.1 M.2.1 dX2_add_87 rfl (lv_at hl 2 rfl) ?_
        refine lv_iconst (v := 1) M.1 M.2.1 dX2_add_88 (by decide) ?_
        refine lv_isub M.1 M.2.1 dX2_add_89 ?_
        refine g_aald (kd := 12) (t0 := 2) M B ⟨by decide, by decide⟩ rfl dX2_add_90 h (fun a9 h => ?_)
        refine g_aast (kd := 12) (kv := 0) (t0 := 2) M B ⟨by decide, by decide⟩ (by decide) rfl rfl dX2_add_91 h (fun S10 H locs h B => ?_)
        refine lv_iinc (v := v2 + (-1)) (lv' := [(2, .int (v2 + (-1))), (0, va_rf v0), (1, va_rf v1)]) M.1 M.2.1 dX2_add_92 hl (k := 2) rfl (by rfl) (by decide) (fl_e (fl_k rfl rfl (fl_r rfl (fl_d rfl fl_0)))) (fun ls hl => ?_)
        refine lv_goto (tgt := 56) M.1 M.2.1 dX2_add_95 (by decide) ?_
        exact ih _ _ _ _ h _ _ _ B (lv_sub hl [1, 2, 0] rfl)
set_option maxRecDepth 100000 in
set_option maxHeartbeats 4000000 in
theorem tX2_add_41 {post : Pool → Prop} (M : MC p m c cX2_add 3 s args RX2) (hr : meth.sig.returnType = none) (hlk : meth.locks = false) (hRf : 2 ≤ R.frames) (hRl : 43 ≤ R.locals) (hRc : 0 ≤ R.cells) (hRs : 0 ≤ R.slots) : ∀ (v0 : Option Nat) (v1 : Option Nat) (S : Pool), wX2_add_41 post v0 v1 S → ∀ (H : Heap) (locs : List Loc) (ls : Array Slot), PB D cy A s S H locs → lv_has ls 3 [(0, va_rf v0), (1, va_rf v1)] → W p l e R s m args below meth c H locs 0 0 (MQ below (va_Qv post (PQ D cy A) A) args s 0 0 A) (F0 m 41 ls []) := by
  intro v0 v1 S h H locs ls B hl
  unfold wX2_add_41 at h
  refine g_aload_n M dX2_add_41 rfl (lv_at hl 0 rfl) ?_
  refine gfX2_11 M B dX2_add_42 h (fun a1 h => ?_)
  refine g_aload_n M dX2_add_45 rfl (lv_at hl 0 rfl) ?_
  refine gfX2_20 M B dX2_add_46 h (fun a2 h => ?_)
  refine g_aload_n M dX2_add_49 rfl (lv_at hl 1 rfl) ?_
  refine g_aast (kd := 12) (kv := 0) (t0 := 2) M B ⟨by decide, by decide⟩ (by decide) rfl rfl dX2_add_50 h (fun S3 H locs h B => ?_)
  refine g_aload_n M dX2_add_51 rfl (lv_at hl 0 rfl) ?_
  refine gfX2_20 M B dX2_add_52 h (fun a4 h => ?_)
  refine lv_istore_n (lv' := [(2, .int a4), (0, va_rf v0), (1, va_rf v1)]) M.1 M.2.1 dX2_add_55 rfl hl (by decide) (fl_e (fl_k rfl rfl (fl_r rfl fl_0))) (fun ls hl => ?_)
  obtain ⟨n1, h⟩ := h
  exact tX2_add_56 M hr hlk hRf hRl hRc hRs n1 _ _ _ _ h _ _ _ B (lv_sub hl [1, 2, 0] rfl)
set_option maxRecDepth 100000 in
set_option maxHeartbeats 4000000 in
theorem tX2_add {post : Pool → Prop} (M : MC p m c cX2_add 3 s args RX2) (hr : meth.sig.returnType = none) (hlk : meth.locks = false) (hRf : 2 ≤ R.frames) (hRl : 43 ≤ R.locals) (hRc : 0 ≤ R.cells) (hRs : 0 ≤ R.slots) : ∀ (v0 : Option Nat) (v1 : Option Nat) (S : Pool), wX2_add post v0 v1 S → ∀ (H : Heap) (locs : List Loc) (ls : Array Slot), PB D cy A s S H locs → lv_has ls 3 [(0, va_rf v0), (1, va_rf v1)] → W p l e R s m args below meth c H locs 0 0 (MQ below (va_Qv post (PQ D cy A) A) args s 0 0 A) (F0 m 0 ls []) := by
  intro v0 v1 S h H locs ls B hl
  unfold wX2_add at h
  refine g_aload_n M dX2_add_0 rfl (lv_at hl 0 rfl) ?_
  refine gfX2_20 M B dX2_add_1 h (fun a1 h => ?_)
  refine lv_sipush (v := 250) M.1 M.2.1 dX2_add_4 (by decide) ?_
  refine lv_icmp_lt (tgt := 11) M.1 M.2.1 dX2_add_7 (by decide) (fun c2 => ?_) (fun c2 => ?_)
  · have h := h.1 c2
    refine g_aload_n M dX2_add_11 rfl (lv_at hl 1 rfl) ?_
    refine g_aload_n M dX2_add_12 rfl (lv_at hl 0 rfl) ?_
    refine g_aload_n M dX2_add_13 rfl (lv_at hl 1 rfl) ?_
    obtain ⟨o1, e1, hL1, hK1, h⟩ := h
    refine g_calli (k1 := 0) (k2 := 0) B (g_runV (n := 1) (As := [va_rf v1]) (rm := rmX2_familyOf) M B e1 (kX2_familyOf (v0 := v0) (v1 := v1) l D cy h _) wmX2_43 wiX2_familyOf wsX2_familyOf wnX2 wcdX2_familyOf ⟨rfl, by decide, by decide, by decide +kernel⟩ ⟨Nat.le_trans (by decide) hRf, Nat.le_trans (by decide) hRl⟩ ⟨Nat.le_trans (by decide) hRc, Nat.le_trans (by decide) hRs⟩ hL1 hK1 (by decide) rfl rfl rfl hl.1 rfl (ct_r ct_0) (by decide) dX2_add_14) (by decide) (by decide) (fun a4 S3 H locs h B => ?_)
    refine gpX2_47 M B dX2_add_17 h (fun S5 H locs h B => ?_)
    refine g_aload_n M dX2_add_20 rfl (lv_at hl 1 rfl) ?_
    refine gfX2_50 M B dX2_add_21 h (fun a6 h => ?_)
    refine g_aload_n M dX2_add_24 rfl (lv_at hl 1 rfl) ?_
    refine gfX2_24 M B dX2_add_25 h (fun a7 h => ?_)
    refine lv_icmp_le (tgt := 41) M.1 M.2.1 dX2_add_28 (by decide) (fun c8 => ?_) (fun c8 => ?_)
    · have h := h.1 c8
      exact tX2_add_41 M hr hlk hRf hRl hRc hRs _ _ _ h _ _ _ B (lv_sub hl [0, 1] rfl)
    · have h := h.2 c8
      refine g_aload_n M dX2_add_31 rfl (lv_at hl 0 rfl) ?_
      refine lv_dup M.1 M.2.1 dX2_add_32 (rf_cat _) ?_
      refine gfX2_53 M B dX2_add_33 h (fun a9 h => ?_)
      refine lv_iconst (v := 1) M.1 M.2.1 dX2_add_36 (by decide) ?_
      refine lv_iadd M.1 M.2.1 dX2_add_37 ?_
      refine gpX2_53 M B dX2_add_38 h (fun S10 H locs h B => ?_)
      exact tX2_add_41 M hr hlk hRf hRl hRc hRs _ _ _ h _ _ _ B (lv_sub hl [0, 1] rfl)
  · have h := h.2 c2
    exact g_vret M B hr hlk h (by decide) (by decide) dX2_add_10
end
set_option maxRecDepth 100000 in
set_option maxHeartbeats 4000000 in
theorem kX2_add (l : Launch) (D : va_G) (cy : Nat → ClassId) {post : Pool → Prop} {v0 : Option Nat} {v1 : Option Nat} {S : Pool} (h : wX2_add post v0 v1 S) : MetV l yX2_add cX2_add 3 rmX2_add [va_rf v0, va_rf v1] D cy S post := by
  intro sz
  refine Met.ofW (cc := cX2_add) (maxL := 3) (ret := none) (by decide) rfl ?_
  intro p e s m args below meth c s₁ B0 hml hv
  obtain ⟨rfl, hpp⟩ := hv
  have hts := atoms_spec (ws := .code yX2_add cX2_add 3 none :: Gw) B0.pre
  obtain rfl : s.heap.size = sz := hpp.1
  have hl := lv_entry [va_rf v0, va_rf v1] (n := 3) (by rw [sl_r, sl_r, sl_0]; decide)
  rw [lg_entry_eq]
  rw [la_r, la_r, la_0] at hl
  exact tX2_add (l := l) (R := rmX2_add) ⟨B0.exec, B0.bytes, hml, findClass_of_methodNamed B0.named, fun w hw => hts w (List.mem_cons_of_mem _ hw)⟩ B0.returns B0.notSynchronized (Nat.le_refl _) (Nat.le_refl _) (Nat.le_refl _) (Nat.le_refl _) _ _ _ h _ _ _ hpp.pb (lv_sub hl [0, 1] rfl)
-- X2_knownAt: LogHunt$Log.knownAt(I)I
def wX2_knownAt_5 (post : Int32 → Pool → Prop) : Nat → Option Nat → Int32 → Int32 → Pool → Prop
  | 0 => fun _ _ _ _ => False
  | n + 1 => fun v0 v1 v2 S => br (v2 ≤ 0) (post v2 S) (xR S v0 2 0 fun a2 => xaR S a2 12 (v2 - 1) fun a3 => xI S a3 0 6 fun a4 => br (a4 ≤ v1) (post v2 S) (wX2_knownAt_5 post n v0 v1 (v2 + (-1)) S))
def wX2_knownAt (post : Int32 → Pool → Prop) (v0 : Option Nat) (v1 : Int32) (S : Pool) : Prop := xI S v0 2 2 fun a1 => ∃ n1, wX2_knownAt_5 post n1 v0 v1 a1 S
def rmX2_knownAt : Room := { frames := 0, cells := 0, slots := 0, locals := 0 }
section
variable {p : Program} {l : Launch} {e : Env} {R : Room} {s : State} {m : MethodId} {args : Array Value} {below : List Frame} {meth : Method} {c : Code} {D : va_G} {cy : Nat → ClassId} {A : Nat → Prop}
set_option maxRecDepth 100000 in
set_option maxHeartbeats 4000000 in
theorem tX2_knownAt_5 {post : Int32 → Pool → Prop} (M : MC p m c cX2_knownAt 3 s args RX2) (hr : meth.sig.returnType = (some FieldType.int)) (hlk : meth.locks = false) (hRf : 0 ≤ R.frames) (hRl : 0 ≤ R.locals) (hRc : 0 ≤ R.cells) (hRs : 0 ≤ R.slots) : ∀ (n : Nat) (v0 : Option Nat) (v1 : Int32) (v2 : Int32) (S : Pool), wX2_knownAt_5 post n v0 v1 v2 S → ∀ (H : Heap) (locs : List Loc) (ls : Array Slot), PB D cy A s S H locs → lv_has ls 3 [(0, va_rf v0), (1, .int v1), (2, .int v2)] → W p l e R s m args below meth c H locs 0 0 (MQ below (va_Qi post (PQ D cy A) A) args s 0 0 A) (F0 m 5 ls []) := by
  intro n
  induction n with
  | zero => intro v0 v1 v2 S h; exact False.elim h
  | succ n ih =>
    intro v0 v1 v2 S h H locs ls B hl
    unfold wX2_knownAt_5 at h
    refine lv_iload_n M.1 M.2.1 dX2_knownAt_5 rfl (lv_at hl 2 rfl) ?_
    refine lv_if_le (tgt := 30) M.1 M.2.1 dX2_knownAt_6 (by decide) (fun c1 => ?_) (fun c1 => ?_)
    · have h := h.1 c1
      refine lv_iload_n M.1 M.2.1 dX2_knownAt_30 rfl (lv_at hl 2 rfl) ?_
      exact g_iret M B hr hlk h (by decide) (by decide) dX2_knownAt_31
    · have h := h.2 c1
      refine g_aload_n M dX2_knownAt_9 rfl (lv_at hl 0 rfl) ?_
      refine gfX2_11 M B dX2_knownAt_10 h (fun a2 h => ?_)
      refine lv_iload_n M.1 M.2.1 dX2_knownAt_13 rfl (lv_at hl 2 rfl) ?_
      refine lv_iconst (v := 1) M.1 M.2.1 dX2_knownAt_14 (by decide) ?_
      refine lv_isub M.1 M.2.1 dX2_knownAt_15 ?_
      refine g_aald (kd := 12) (t0 := 2) M B ⟨by decide, by decide⟩ rfl dX2_knownAt_16 h (fun a3 h => ?_)
      refine gfX2_50 M B dX2_knownAt_17 h (fun a4 h => ?_)
      refine lv_iload_n M.1 M.2.1 dX2_knownAt_20 rfl (lv_at hl 1 rfl) ?_
      refine lv_icmp_le (tgt := 30) M.1 M.2.1 dX2_knownAt_21 (by decide) (fun c5 => ?_) (fun c5 => ?_)
      · have h := h.1 c5
        refine lv_iload_n M.1 M.2.1 dX2_knownAt_30 rfl (lv_at hl 2 rfl) ?_
        exact g_iret M B hr hlk h (by decide) (by decide) dX2_knownAt_31
      · have h := h.2 c5
        refine lv_iinc (v := v2 + (-1)) (lv' := [(2, .int (v2 + (-1))), (0, va_rf v0), (1, .int v1)]) M.1 M.2.1 dX2_knownAt_24 hl (k := 2) rfl (by rfl) (by decide) (fl_e (fl_k rfl rfl (fl_i rfl (fl_d rfl fl_0)))) (fun ls hl => ?_)
        refine lv_goto (tgt := 5) M.1 M.2.1 dX2_knownAt_27 (by decide) ?_
        exact ih _ _ _ _ h _ _ _ B (lv_sub hl [1, 2, 0] rfl)
set_option maxRecDepth 100000 in
set_option maxHeartbeats 4000000 in
theorem tX2_knownAt {post : Int32 → Pool → Prop} (M : MC p m c cX2_knownAt 3 s args RX2) (hr : meth.sig.returnType = (some FieldType.int)) (hlk : meth.locks = false) (hRf : 0 ≤ R.frames) (hRl : 0 ≤ R.locals) (hRc : 0 ≤ R.cells) (hRs : 0 ≤ R.slots) : ∀ (v0 : Option Nat) (v1 : Int32) (S : Pool), wX2_knownAt post v0 v1 S → ∀ (H : Heap) (locs : List Loc) (ls : Array Slot), PB D cy A s S H locs → lv_has ls 3 [(0, va_rf v0), (1, .int v1)] → W p l e R s m args below meth c H locs 0 0 (MQ below (va_Qi post (PQ D cy A) A) args s 0 0 A) (F0 m 0 ls []) := by
  intro v0 v1 S h H locs ls B hl
  unfold wX2_knownAt at h
  refine g_aload_n M dX2_knownAt_0 rfl (lv_at hl 0 rfl) ?_
  refine gfX2_20 M B dX2_knownAt_1 h (fun a1 h => ?_)
  refine lv_istore_n (lv' := [(2, .int a1), (0, va_rf v0), (1, .int v1)]) M.1 M.2.1 dX2_knownAt_4 rfl hl (by decide) (fl_e (fl_k rfl rfl (fl_i rfl fl_0))) (fun ls hl => ?_)
  obtain ⟨n1, h⟩ := h
  exact tX2_knownAt_5 M hr hlk hRf hRl hRc hRs n1 _ _ _ _ h _ _ _ B (lv_sub hl [1, 2, 0] rfl)
end
set_option maxRecDepth 100000 in
set_option maxHeartbeats 4000000 in
theorem kX2_knownAt (l : Launch) (D : va_G) (cy : Nat → ClassId) {post : Int32 → Pool → Prop} {v0 : Option Nat} {v1 : Int32} {S : Pool} (h : wX2_knownAt post v0 v1 S) : MetI l yX2_knownAt cX2_knownAt 3 (some FieldType.int) rmX2_knownAt [va_rf v0, .int v1] D cy S post := by
  intro sz
  refine Met.ofW (cc := cX2_knownAt) (maxL := 3) (ret := (some FieldType.int)) (by decide) rfl ?_
  intro p e s m args below meth c s₁ B0 hml hv
  obtain ⟨rfl, hpp⟩ := hv
  have hts := atoms_spec (ws := .code yX2_knownAt cX2_knownAt 3 (some FieldType.int) :: Gw) B0.pre
  obtain rfl : s.heap.size = sz := hpp.1
  have hl := lv_entry [va_rf v0, .int v1] (n := 3) (by rw [sl_r, sl_i, sl_0]; decide)
  rw [lg_entry_eq]
  rw [la_r, la_i, la_0] at hl
  exact tX2_knownAt (l := l) (R := rmX2_knownAt) ⟨B0.exec, B0.bytes, hml, findClass_of_methodNamed B0.named, fun w hw => hts w (List.mem_cons_of_mem _ hw)⟩ B0.returns B0.notSynchronized (Nat.le_refl _) (Nat.le_refl _) (Nat.le_refl _) (Nat.le_refl _) _ _ _ h _ _ _ hpp.pb (lv_sub hl [0, 1] rfl)
