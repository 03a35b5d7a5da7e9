-- X6_init: LogHunt$Sweep.<init>(LLogHunt$Log;)V
def wX6_init (post : Pool → Prop) (v0 : Option Nat) (v1 : Option Nat) (S : Pool) : Prop := xnn v0 (xna S 12 250 250 fun a1 S2 => xpR S2 v0 6 1 a1 fun S3 => xmn S3 6 250 6 250 fun a4 S5 => xpR S5 v0 6 2 a4 fun S6 => xna S6 10 6 6 fun a7 S8 => xpR S8 v0 6 3 a7 fun S9 => xmn S9 6 31 6 31 fun a10 S11 => xpR S11 v0 6 4 a10 fun S12 => xmn S12 6 31 6 31 fun a13 S14 => xpR S14 v0 6 5 a13 fun S15 => xmn S15 6 31 6 31 fun a16 S17 => xpR S17 v0 6 6 a16 fun S18 => xmn S18 6 31 6 31 fun a19 S20 => xpR S20 v0 6 7 a19 fun S21 => xmn S21 31 31 31 31 fun a22 S23 => xpR S23 v0 6 8 a22 fun S24 => xna S24 10 250 250 fun a25 S26 => xpR S26 v0 6 9 a25 fun S27 => xnw S27 3 fun a28 S29 => xnn a28 (wX3_init (fun S30 => xpR S30 v0 6 10 a28 fun S31 => xpI S31 v0 6 11 ((-1)) fun S32 => xpR S32 v0 6 0 v1 fun S33 => post S33) a28 S29))
def rmX6_init : Room := { frames := 3, cells := 78, slots := 3834, locals := 53 }
section
variable {p : Program} {l : Launch} {e : Env} {R : Room} {s : State} {m : MethodId} {args : Array Value} {below : List Frame} {meth : Method} {c : Code} {D : va_G} {cy : Nat → ClassId} {A : Nat → Prop}
set_option maxRecDepth 100000 in
set_option maxHeartbeats 4000000 in
theorem tX6_init {post : Pool → Prop} (M : MC p m c cX6_init 2 s args RX6) (hr : meth.sig.returnType = none) (hlk : meth.locks = false) (hRf : 3 ≤ R.frames) (hRl : 53 ≤ R.locals) (hRc : 78 ≤ R.cells) (hRs : 3834 ≤ R.slots) (hin : meth.name = "<init>") : ∀ (v0 : Option Nat) (v1 : Option Nat) (S : Pool), wX6_init post v0 v1 S → ∀ (H : Heap) (locs : List Loc) (ls : Array Slot), PB D cy A s S H locs → lv_has ls 2 [(0, va_rf v0), (1, va_rf v1)] → W p l e R s m args below meth c H locs 0 0 (MQ below (va_Qv post (PQ D cy A) A) args s 78 3834 A) (F0 m 0 ls []) := by
  intro v0 v1 S h H locs ls B hl
  unfold wX6_init at h
  refine g_aload_n M dX6_init_0 rfl (lv_at hl 0 rfl) ?_
  obtain ⟨⟨o1, e1⟩, h⟩ := h
  refine g_objInit M e1 wmX6_3 hl.1 dX6_init_1 rfl (Nat.le_trans (by decide) hRf) (Nat.le_trans (by decide) hRl) ?_
  refine g_aload_n M dX6_init_4 rfl (lv_at hl 0 rfl) ?_
  refine lv_sipush (v := 250) M.1 M.2.1 dX6_init_5 (by decide) ?_
  refine g_newA (kd := 12) (j := 2) (N := 250) M B ⟨by decide, by decide⟩ rfl wcX6_9 B.2.2.2.2.2.2.2.2.2.2.2.2.1 (by decide) (Nat.le_trans (by decide) hRc) (Nat.le_trans (by decide) hRs) dX6_init_8 h (fun a1 S2 H locs h B => ?_)
  refine W.widen (k := 1) (n := 250) (by decide) (by decide) ?_
  refine gpX6_11 M B hin dX6_init_11 h (fun S3 H locs h B => ?_)
  refine g_aload_n M dX6_init_14 rfl (lv_at hl 0 rfl) ?_
  refine lv_bipush (v := 6) M.1 M.2.1 dX6_init_15 (by decide) ?_
  refine lv_sipush (v := 250) M.1 M.2.1 dX6_init_17 (by decide) ?_
  refine g_newM (N := 6) (K9 := 250) M B wcX6_17 (by decide) (by decide) (Nat.le_trans (by decide) hRc) (Nat.le_trans (by decide) hRs) dX6_init_20 h (fun a4 S5 H locs h B => ?_)
  refine W.widen (k := 8) (n := 1756) (by decide) (by decide) ?_
  refine gpX6_19 M B hin dX6_init_24 h (fun S6 H locs h B => ?_)
  refine g_aload_n M dX6_init_27 rfl (lv_at hl 0 rfl) ?_
  refine lv_bipush (v := 6) M.1 M.2.1 dX6_init_28 (by decide) ?_
  refine g_newI (N := 6) M B (by decide) (Nat.le_trans (by decide) hRc) (Nat.le_trans (by decide) hRs) dX6_init_30 h (fun a7 S8 H locs h B => ?_)
  refine W.widen (k := 9) (n := 1762) (by decide) (by decide) ?_
  refine gpX6_22 M B hin dX6_init_32 h (fun S9 H locs h B => ?_)
  refine g_aload_n M dX6_init_35 rfl (lv_at hl 0 rfl) ?_
  refine lv_bipush (v := 6) M.1 M.2.1 dX6_init_36 (by decide) ?_
  refine lv_bipush (v := 31) M.1 M.2.1 dX6_init_38 (by decide) ?_
  refine g_newM (N := 6) (K9 := 31) M B wcX6_17 (by decide) (by decide) (Nat.le_trans (by decide) hRc) (Nat.le_trans (by decide) hRs) dX6_init_40 h (fun a10 S11 H locs h B => ?_)
  refine W.widen (k := 16) (n := 1954) (by decide) (by decide) ?_
  refine gpX6_26 M B hin dX6_init_44 h (fun S12 H locs h B => ?_)
  refine g_aload_n M dX6_init_47 rfl (lv_at hl 0 rfl) ?_
  refine lv_bipush (v := 6) M.1 M.2.1 dX6_init_48 (by decide) ?_
  refine lv_bipush (v := 31) M.1 M.2.1 dX6_init_50 (by decide) ?_
  refine g_newM (N := 6) (K9 := 31) M B wcX6_17 (by decide) (by decide) (Nat.le_trans (by decide) hRc) (Nat.le_trans (by decide) hRs) dX6_init_52 h (fun a13 S14 H locs h B => ?_)
  refine W.widen (k := 23) (n := 2146) (by decide) (by decide) ?_
  refine gpX6_29 M B hin dX6_init_56 h (fun S15 H locs h B => ?_)
  refine g_aload_n M dX6_init_59 rfl (lv_at hl 0 rfl) ?_
  refine lv_bipush (v := 6) M.1 M.2.1 dX6_init_60 (by decide) ?_
  refine lv_bipush (v := 31) M.1 M.2.1 dX6_init_62 (by decide) ?_
  refine g_newM (N := 6) (K9 := 31) M B wcX6_17 (by decide) (by decide) (Nat.le_trans (by decide) hRc) (Nat.le_trans (by decide) hRs) dX6_init_64 h (fun a16 S17 H locs h B => ?_)
  refine W.widen (k := 30) (n := 2338) (by decide) (by decide) ?_
  refine gpX6_32 M B hin dX6_init_68 h (fun S18 H locs h B => ?_)
  refine g_aload_n M dX6_init_71 rfl (lv_at hl 0 rfl) ?_
  refine lv_bipush (v := 6) M.1 M.2.1 dX6_init_72 (by decide) ?_
  refine lv_bipush (v := 31) M.1 M.2.1 dX6_init_74 (by decide) ?_
  refine g_newM (N := 6) (K9 := 31) M B wcX6_17 (by decide) (by decide) (Nat.le_trans (by decide) hRc) (Nat.le_trans (by decide) hRs) dX6_init_76 h (fun a19 S20 H locs h B => ?_)
  refine W.widen (k := 37) (n := 2530) (by decide) (by decide) ?_
  refine gpX6_35 M B hin dX6_init_80 h (fun S21 H locs h B => ?_)
  refine g_aload_n M dX6_init_83 rfl (lv_at hl 0 rfl) ?_
  refine lv_bipush (v := 31) M.1 M.2.1 dX6_init_84 (by decide) ?_
  refine lv_bipush (v := 31) M.1 M.2.1 dX6_init_86 (by decide) ?_
  refine g_newM (N := 31) (K9 := 31) M B wcX6_17 (by decide) (by decide) (Nat.le_trans (by decide) hRc) (Nat.le_trans (by decide) hRs) dX6_init_88 h (fun a22 S23 H locs h B => ?_)
  refine W.widen (k := 69) (n := 3522) (by decide) (by decide) ?_
  refine gpX6_38 M B hin dX6_init_92 h (fun S24 H locs h B => ?_)
  refine g_aload_n M dX6_init_95 rfl (lv_at hl 0 rfl) ?_
  refine lv_sipush (v := 250) M.1 M.2.1 dX6_init_96 (by decide) ?_
  refine g_newI (N := 250) M B (by decide) (Nat.le_trans (by decide) hRc) (Nat.le_trans (by decide) hRs) dX6_init_99 h (fun a25 S26 H locs h B => ?_)
  refine W.widen (k := 70) (n := 3772) (by decide) (by decide) ?_
  refine gpX6_41 M B hin dX6_init_101 h (fun S27 H locs h B => ?_)
  refine g_aload_n M dX6_init_104 rfl (lv_at hl 0 rfl) ?_
  refine gnX6_44 M B (Nat.le_trans (by decide) hRc) (Nat.le_trans (by decide) hRs) dX6_init_105 h (fun a28 S29 H locs h B => ?_)
  refine W.widen (k := 71) (n := 3780) (by decide) (by decide) ?_
  refine lv_dup M.1 M.2.1 dX6_init_108 (rf_cat _) ?_
  obtain ⟨⟨o1, e1⟩, h⟩ := h
  refine g_callv (k1 := 78) (k2 := 3834) B (g_runI (n := 0) (As := []) (rm := rmX3_init) M B e1 (kX3_init (v0 := a28) l D cy h _) wmX6_46 wiX3_init wnX3 wcdX3_init rfl ⟨by decide, by decide, by decide +kernel⟩ ⟨Nat.le_trans (by decide) hRf, Nat.le_trans (by decide) hRl⟩ ⟨Nat.le_trans (by decide) hRc, Nat.le_trans (by decide) hRs⟩ rfl hl.1 rfl (ct_r (ct_r ct_0)) (by decide) dX6_init_109) (by decide) (by decide) (fun S30 H locs h B => ?_)
  refine gpX6_47 M B dX6_init_112 h (fun S31 H locs h B => ?_)
  refine g_aload_n M dX6_init_115 rfl (lv_at hl 0 rfl) ?_
  refine lv_iconst (v := (-1)) M.1 M.2.1 dX6_init_116 (by decide) ?_
  refine gpX6_51 M B dX6_init_117 h (fun S32 H locs h B => ?_)
  refine g_aload_n M dX6_init_120 rfl (lv_at hl 0 rfl) ?_
  refine g_aload_n M dX6_init_121 rfl (lv_at hl 1 rfl) ?_
  refine gpX6_55 M B hin dX6_init_122 h (fun S33 H locs h B => ?_)
  exact g_vret M B hr hlk h (by decide) (by decide) dX6_init_125
end
set_option maxRecDepth 100000 in
set_option maxHeartbeats 4000000 in
theorem kX6_init (l : Launch) (D : va_G) (cy : Nat → ClassId) {post : Pool → Prop} {v0 : Option Nat} {v1 : Option Nat} {S : Pool} (h : wX6_init post v0 v1 S) : MetV l yX6_init cX6_init 2 rmX6_init [va_rf v0, va_rf v1] D cy S post := by
  intro sz
  refine Met.ofW (cc := cX6_init) (maxL := 2) (ret := none) (by decide) rfl ?_
  intro p e s m args below meth c s₁ B0 hml hv
  obtain ⟨rfl, hpp⟩ := hv
  have hts := atoms_spec (ws := .code yX6_init cX6_init 2 none :: Gw) B0.pre
  obtain rfl : s.heap.size = sz := hpp.1
  have hl := lv_entry [va_rf v0, va_rf v1] (n := 2) (by rw [sl_r, sl_r, sl_0]; decide)
  rw [lg_entry_eq]
  rw [la_r, la_r, la_0] at hl
  exact tX6_init (l := l) (R := rmX6_init) ⟨B0.exec, B0.bytes, hml, findClass_of_methodNamed B0.named, fun w hw => hts w (List.mem_cons_of_mem _ hw)⟩ B0.returns B0.notSynchronized (Nat.le_refl _) (Nat.le_refl _) (Nat.le_refl _) (Nat.le_refl _) (name_of_methodNamed B0.named B0.method).1 _ _ _ h _ _ _ hpp.pb (lv_sub hl [0, 1] rfl)
-- X6_clear: LogHunt$Sweep.clear()V
def wX6_clear_78 (post : Pool → Prop) : Nat → Option Nat → Int32 → Pool → Prop
  | 0 => fun _ _ _ => False
  | n + 1 => fun v0 v1 S => br (31 ≤ v1) (post S) (xR S v0 6 10 fun a2 => xI S a2 3 4 fun a3 => br (a3 = ((-1))) (post S) (xR S v0 6 8 fun a5 => xaR S a5 15 v1 fun a6 => wJ7_fill_53178 (fun S7 => wX6_clear_78 post n v0 (v1 + 1) S7) a6 ((-1000000)) S))
def wX6_clear_23 (post : Pool → Prop) : Nat → Option Nat → Int32 → Pool → Prop
  | 0 => fun _ _ _ => False
  | n + 1 => fun v0 v1 S => br (6 ≤ v1) (∃ n1, wX6_clear_78 post n1 v0 0 S) (xR S v0 6 4 fun a2 => xaR S a2 15 v1 fun a3 => wJ7_fill_53178 (fun S4 => xR S4 v0 6 5 fun a5 => xaR S4 a5 15 v1 fun a6 => wJ7_fill_53178 (fun S7 => xR S7 v0 6 6 fun a8 => xaR S7 a8 15 v1 fun a9 => wJ7_fill_53178 (fun S10 => xR S10 v0 6 7 fun a11 => xaR S10 a11 15 v1 fun a12 => wJ7_fill_53178 (fun S13 => wX6_clear_23 post n v0 (v1 + 1) S13) a12 2000000 S10) a9 ((-1)) S7) a6 ((-1)) S4) a3 ((-1)) S)
def wX6_clear (post : Pool → Prop) (v0 : Option Nat) (S : Pool) : Prop := xpI S v0 6 15 0 fun S1 => xR S1 v0 6 3 fun a2 => wJ7_fill_53178 (fun S3 => xR S3 v0 6 9 fun a4 => wJ7_fill_53178 (fun S5 => ∃ n1, wX6_clear_23 post n1 v0 0 S5) a4 ((-1)) S3) a2 0 S1
def rmX6_clear : Room := { frames := 1, cells := 0, slots := 0, locals := 23 }
section
variable {p : Program} {l : Launch} {e : Env} {R : Room} {s : State} {m : MethodId} {args : Array Value} {below : List Frame} {meth : Method} {c : Code} {D : va_G} {cy : Nat → ClassId} {A : Nat → Prop}
set_option maxRecDepth 100000 in
set_option maxHeartbeats 4000000 in
theorem tX6_clear_78 {post : Pool → Prop} (M : MC p m c cX6_clear 2 s args RX6) (hr : meth.sig.returnType = none) (hlk : meth.locks = false) (hRf : 1 ≤ R.frames) (hRl : 23 ≤ R.locals) (hRc : 0 ≤ R.cells) (hRs : 0 ≤ R.slots) : ∀ (n : Nat) (v0 : Option Nat) (v1 : Int32) (S : Pool), wX6_clear_78 post n v0 v1 S → ∀ (H : Heap) (locs : List Loc) (ls : Array Slot), PB D cy A s S H locs → lv_has ls 2 [(0, va_rf v0), (1, .int v1)] → W p l e R s m args below meth c H locs 0 0 (MQ below (va_Qv post (PQ D cy A) A) args s 0 0 A) (F0 m 78 ls []) := by
  intro n
  induction n with
  | zero => intro v0 v1 S h; exact False.elim h
  | succ n ih =>
    intro v0 v1 S h H locs ls B hl
    unfold wX6_clear_78 at h
    refine lv_iload_n M.1 M.2.1 dX6_clear_78 rfl (lv_at hl 1 rfl) ?_
    refine lv_bipush (v := 31) M.1 M.2.1 dX6_clear_79 (by decide) ?_
    refine lv_icmp_ge (tgt := 112) M.1 M.2.1 dX6_clear_81 (by decide) (fun c1 => ?_) (fun c1 => ?_)
    · have h := h.1 c1
      exact g_vret M B hr hlk h (by decide) (by decide) dX6_clear_112
    · have h := h.2 c1
      refine g_aload_n M dX6_clear_84 rfl (lv_at hl 0 rfl) ?_
      refine gfX6_47 M B dX6_clear_85 h (fun a2 h => ?_)
      refine gfX6_110 M B dX6_clear_88 h (fun a3 h => ?_)
      refine lv_iconst (v := (-1)) M.1 M.2.1 dX6_clear_91 (by decide) ?_
      refine lv_icmp_eq (tgt := 112) M.1 M.2.1 dX6_clear_92 (by decide) (fun c4 => ?_) (fun c4 => ?_)
      · have h := h.1 c4
        exact g_vret M B hr hlk h (by decide) (by decide) dX6_clear_112
      · have h := h.2 c4
        refine g_aload_n M dX6_clear_95 rfl (lv_at hl 0 rfl) ?_
        refine gfX6_38 M B dX6_clear_96 h (fun a5 h => ?_)
        refine lv_iload_n M.1 M.2.1 dX6_clear_99 rfl (lv_at hl 1 rfl) ?_
        refine g_aaldA M B dX6_clear_100 h (fun a6 h => ?_)
        refine lv_ldc (v := (-1000000)) M.1 M.2.1 M.2.2.2.1 (M.2.2.2.2 _ wkX6_113) dX6_clear_101 ?_
        refine g_callv (k1 := 0) (k2 := 0) B (g_runS (n := 2) (As := [va_rf a6, .int ((-1000000))]) (rm := rmJ7_fill_53178) M B (kJ7_fill_53178 (v0 := a6) (v1 := (-1000000)) l D cy h _) wmX6_103 wstJ7_fill_53178 wnJ7 wcdJ7_fill_53178 ⟨by decide, by decide, by decide +kernel⟩ ⟨Nat.le_trans (by decide) hRf, Nat.le_trans (by decide) hRl⟩ ⟨Nat.le_trans (by decide) hRc, Nat.le_trans (by decide) hRs⟩ rfl hl.1 rfl ct_0 (by decide) dX6_clear_103) (by decide) (by decide) (fun S7 H locs h B => ?_)
        refine lv_iinc (v := v1 + 1) (lv' := [(1, .int (v1 + 1)), (0, va_rf v0)]) M.1 M.2.1 dX6_clear_106 hl (k := 1) rfl (by rfl) (by decide) (fl_e (fl_r rfl (fl_d rfl fl_0))) (fun ls hl => ?_)
        refine lv_goto (tgt := 78) M.1 M.2.1 dX6_clear_109 (by decide) ?_
        exact ih _ _ _ h _ _ _ B (lv_sub hl [1, 0] rfl)
set_option maxRecDepth 100000 in
set_option maxHeartbeats 4000000 in
theorem tX6_clear_23 {post : Pool → Prop} (M : MC p m c cX6_clear 2 s args RX6) (hr : meth.sig.returnType = none) (hlk : meth.locks = false) (hRf : 1 ≤ R.frames) (hRl : 23 ≤ R.locals) (hRc : 0 ≤ R.cells) (hRs : 0 ≤ R.slots) : ∀ (n : Nat) (v0 : Option Nat) (v1 : Int32) (S : Pool), wX6_clear_23 post n v0 v1 S → ∀ (H : Heap) (locs : List Loc) (ls : Array Slot), PB D cy A s S H locs → lv_has ls 2 [(0, va_rf v0), (1, .int v1)] → W p l e R s m args below meth c H locs 0 0 (MQ below (va_Qv post (PQ D cy A) A) args s 0 0 A) (F0 m 23 ls []) := by
  intro n
  induction n with
  | zero => intro v0 v1 S h; exact False.elim h
  | succ n ih =>
    intro v0 v1 S h H locs ls B hl
    unfold wX6_clear_23 at h
    refine lv_iload_n M.1 M.2.1 dX6_clear_23 rfl (lv_at hl 1 rfl) ?_
    refine lv_bipush (v := 6) M.1 M.2.1 dX6_clear_24 (by decide) ?_
    refine lv_icmp_ge (tgt := 76) M.1 M.2.1 dX6_clear_26 (by decide) (fun c1 => ?_) (fun c1 => ?_)
    · have h := h.1 c1
      refine lv_iconst (v := 0) M.1 M.2.1 dX6_clear_76 (by decide) ?_
      refine lv_istore_n (lv' := [(1, .int 0), (0, va_rf v0)]) M.1 M.2.1 dX6_clear_77 rfl hl (by decide) (fl_e (fl_r rfl (fl_d rfl fl_0))) (fun ls hl => ?_)
      obtain ⟨n1, h⟩ := h
      exact tX6_clear_78 M hr hlk hRf hRl hRc hRs n1 _ _ _ h _ _ _ B (lv_sub hl [1, 0] rfl)
    · have h := h.2 c1
      refine g_aload_n M dX6_clear_29 rfl (lv_at hl 0 rfl) ?_
      refine gfX6_26 M B dX6_clear_30 h (fun a2 h => ?_)
      refine lv_iload_n M.1 M.2.1 dX6_clear_33 rfl (lv_at hl 1 rfl) ?_
      refine g_aaldA M B dX6_clear_34 h (fun a3 h => ?_)
      refine lv_iconst (v := (-1)) M.1 M.2.1 dX6_clear_35 (by decide) ?_
      refine g_callv (k1 := 0) (k2 := 0) B (g_runS (n := 2) (As := [va_rf a3, .int ((-1))]) (rm := rmJ7_fill_53178) M B (kJ7_fill_53178 (v0 := a3) (v1 := (-1)) l D cy h _) wmX6_103 wstJ7_fill_53178 wnJ7 wcdJ7_fill_53178 ⟨by decide, by decide, by decide +kernel⟩ ⟨Nat.le_trans (by decide) hRf, Nat.le_trans (by decide) hRl⟩ ⟨Nat.le_trans (by decide) hRc, Nat.le_trans (by decide) hRs⟩ rfl hl.1 rfl ct_0 (by decide) dX6_clear_36) (by decide) (by decide) (fun S4 H locs h B => ?_)
      refine g_aload_n M dX6_clear_39 rfl (lv_at hl 0 rfl) ?_
      refine gfX6_29 M B dX6_clear_40 h (fun a5 h => ?_)
      refine lv_iload_n M.1 M.2.1 dX6_clear_43 rfl (lv_at hl 1 rfl) ?_
      refine g_aaldA M B dX6_clear_44 h (fun a6 h => ?_)
      refine lv_iconst (v := (-1)) M.1 M.2.1 dX6_clear_45 (by decide) ?_
      refine g_callv (k1 := 0) (k2 := 0) B (g_runS (n := 2) (As := [va_rf a6, .int ((-1))]) (rm := rmJ7_fill_53178) M B (kJ7_fill_53178 (v0 := a6) (v1 := (-1)) l D cy h _) wmX6_103 wstJ7_fill_53178 wnJ7 wcdJ7_fill_53178 ⟨by decide, by decide, by decide +kernel⟩ ⟨Nat.le_trans (by decide) hRf, Nat.le_trans (by decide) hRl⟩ ⟨Nat.le_trans (by decide) hRc, Nat.le_trans (by decide) hRs⟩ rfl hl.1 rfl ct_0 (by decide) dX6_clear_46) (by decide) (by decide) (fun S7 H locs h B => ?_)
      refine g_aload_n M dX6_clear_49 rfl (lv_at hl 0 rfl) ?_
      refine gfX6_32 M B dX6_clear_50 h (fun a8 h => ?_)
      refine lv_iload_n M.1 M.2.1 dX6_clear_53 rfl (lv_at hl 1 rfl) ?_
      refine g_aaldA M B dX6_clear_54 h (fun a9 h => ?_)
      refine lv_iconst (v := (-1)) M.1 M.2.1 dX6_clear_55 (by decide) ?_
      refine g_callv (k1 := 0) (k2 := 0) B (g_runS (n := 2) (As := [va_rf a9, .int ((-1))]) (rm := rmJ7_fill_53178) M B (kJ7_fill_53178 (v0 := a9) (v1 := (-1)) l D cy h _) wmX6_103 wstJ7_fill_53178 wnJ7 wcdJ7_fill_53178 ⟨by decide, by decide, by decide +kernel⟩ ⟨Nat.le_trans (by decide) hRf, Nat.le_trans (by decide) hRl⟩ ⟨Nat.le_trans (by decide) hRc, Nat.le_trans (by decide) hRs⟩ rfl hl.1 rfl ct_0 (by decide) dX6_clear_56) (by decide) (by decide) (fun S10 H locs h B => ?_)
      refine g_aload_n M dX6_clear_59 rfl (lv_at hl 0 rfl) ?_
      refine gfX6_35 M B dX6_clear_60 h (fun a11 h => ?_)
      refine lv_iload_n M.1 M.2.1 dX6_clear_63 rfl (lv_at hl 1 rfl) ?_
      refine g_aaldA M B dX6_clear_64 h (fun a12 h => ?_)
      refine lv_ldc (v := 2000000) M.1 M.2.1 M.2.2.2.1 (M.2.2.2.2 _ wkX6_109) dX6_clear_65 ?_
      refine g_callv (k1 := 0) (k2 := 0) B (g_runS (n := 2) (As := [va_rf a12, .int 2000000]) (rm := rmJ7_fill_53178) M B (kJ7_fill_53178 (v0 := a12) (v1 := 2000000) l D cy h _) wmX6_103 wstJ7_fill_53178 wnJ7 wcdJ7_fill_53178 ⟨by decide, by decide, by decide +kernel⟩ ⟨Nat.le_trans (by decide) hRf, Nat.le_trans (by decide) hRl⟩ ⟨Nat.le_trans (by decide) hRc, Nat.le_trans (by decide) hRs⟩ rfl hl.1 rfl ct_0 (by decide) dX6_clear_67) (by decide) (by decide) (fun S13 H locs h B => ?_)
      refine lv_iinc (v := v1 + 1) (lv' := [(1, .int (v1 + 1)), (0, va_rf v0)]) M.1 M.2.1 dX6_clear_70 hl (k := 1) rfl (by rfl) (by decide) (fl_e (fl_r rfl (fl_d rfl fl_0))) (fun ls hl => ?_)
      refine lv_goto (tgt := 23) M.1 M.2.1 dX6_clear_73 (by decide) ?_
      exact ih _ _ _ h _ _ _ B (lv_sub hl [1, 0] rfl)
set_option maxRecDepth 100000 in
set_option maxHeartbeats 4000000 in
theorem tX6_clear {post : Pool → Prop} (M : MC p m c cX6_clear 2 s args RX6) (hr : meth.sig.returnType = none) (hlk : meth.locks = false) (hRf : 1 ≤ R.frames) (hRl : 23 ≤ R.locals) (hRc : 0 ≤ R.cells) (hRs : 0 ≤ R.slots) : ∀ (v0 : Option Nat) (S : Pool), wX6_clear post v0 S → ∀ (H : Heap) (locs : List Loc) (ls : Array Slot), PB D cy A s S H locs → lv_has ls 2 [(0, va_rf v0)] → W p l e R s m args below meth c H locs 0 0 (MQ below (va_Qv post (PQ D cy A) A) args s 0 0 A) (F0 m 0 ls []) := by
  intro v0 S h H locs ls B hl
  unfold wX6_clear at h
  refine g_aload_n M dX6_clear_0 rfl (lv_at hl 0 rfl) ?_
  refine lv_iconst (v := 0) M.1 M.2.1 dX6_clear_1 (by decide) ?_
  refine gpX6_100 M B dX6_clear_2 h (fun S1 H locs h B => ?_)
  refine g_aload_n M dX6_clear_5 rfl (lv_at hl 0 rfl) ?_
  refine gfX6_22 M B dX6_clear_6 h (fun a2 h => ?_)
  refine lv_iconst (v := 0) M.1 M.2.1 dX6_clear_9 (by decide) ?_
  refine g_callv (k1 := 0) (k2 := 0) B (g_runS (n := 2) (As := [va_rf a2, .int 0]) (rm := rmJ7_fill_53178) M B (kJ7_fill_53178 (v0 := a2) (v1 := 0) l D cy h _) wmX6_103 wstJ7_fill_53178 wnJ7 wcdJ7_fill_53178 ⟨by decide, by decide, by decide +kernel⟩ ⟨Nat.le_trans (by decide) hRf, Nat.le_trans (by decide) hRl⟩ ⟨Nat.le_trans (by decide) hRc, Nat.le_trans (by decide) hRs⟩ rfl hl.1 rfl ct_0 (by decide) dX6_clear_10) (by decide) (by decide) (fun S3 H locs h B => ?_)
  refine g_aload_n M dX6_clear_13 rfl (lv_at hl 0 rfl) ?_
  refine gfX6_41 M B dX6_clear_14 h (fun a4 h => ?_)
  refine lv_iconst (v := (-1)) M.1 M.2.1 dX6_clear_17 (by decide) ?_
  refine g_callv (k1 := 0) (k2 := 0) B (g_runS (n := 2) (As := [va_rf a4, .int ((-1))]) (rm := rmJ7_fill_53178) M B (kJ7_fill_53178 (v0 := a4) (v1 := (-1)) l D cy h _) wmX6_103 wstJ7_fill_53178 wnJ7 wcdJ7_fill_53178 ⟨by decide, by decide, by decide +kernel⟩ ⟨Nat.le_trans (by decide) hRf, Nat.le_trans (by decide) hRl⟩ ⟨Nat.le_trans (by decide) hRc, Nat.le_trans (by decide) hRs⟩ rfl hl.1 rfl ct_0 (by decide) dX6_clear_18) (by decide) (by decide) (fun S5 H locs h B => ?_)
  refine lv_iconst (v := 0) M.1 M.2.1 dX6_clear_21 (by decide) ?_
  refine lv_istore_n (lv' := [(1, .int 0), (0, va_rf v0)]) M.1 M.2.1 dX6_clear_22 rfl hl (by decide) (fl_e (fl_r rfl fl_0)) (fun ls hl => ?_)
  obtain ⟨n1, h⟩ := h
  exact tX6_clear_23 M hr hlk hRf hRl hRc hRs n1 _ _ _ h _ _ _ B (lv_sub hl [1, 0] rfl)
end
set_option maxRecDepth 100000 in
set_option maxHeartbeats 4000000 in
theorem kX6_clear (l : Launch) (D : va_G) (cy : Nat → ClassId) {post : Pool → Prop} {v0 : Option Nat} {S : Pool} (h : wX6_clear post v0 S) : MetV l yX6_clear cX6_clear 2 rmX6_clear [va_rf v0] D cy S post := by
  intro sz
  refine Met.ofW (cc := cX6_clear) (maxL := 2) (ret := none) (by decide) rfl ?_
  intro p e s m args below meth c s₁ B0 hml hv
  obtain ⟨rfl, hpp⟩ := hv
  have hts := atoms_spec (ws := .code yX6_clear cX6_clear 2 none :: Gw) B0.pre
  obtain rfl : s.heap.size = sz := hpp.1
  have hl := lv_entry [va_rf v0] (n := 2) (by rw [sl_r, sl_0]; decide)
  rw [lg_entry_eq]
  rw [la_r, la_0] at hl
  exact tX6_clear (l := l) (R := rmX6_clear) ⟨B0.exec, B0.bytes, hml, findClass_of_methodNamed B0.named, fun w hw => hts w (List.mem_cons_of_mem _ hw)⟩ B0.returns B0.notSynchronized (Nat.le_refl _) (Nat.le_refl _) (Nat.le_refl _) (Nat.le_refl _) _ _ h _ _ _ hpp.pb (lv_sub hl [0] rfl)
-- X6_actAhead: LogHunt$Sweep.actAhead(LLogHunt$Step;II)I
def wX6_actAhead_64 (post : Int32 → Pool → Prop) (v0 : Option Nat) (v1 : Option Nat) (v3 : Int32) (z0 : Int32) (S : Pool) : Prop := br (z0 = 0) (xR S v0 6 4 fun a2 => xI S v1 5 7 fun a3 => xaR S a2 15 (a3 - 1) fun a4 => xaI S a4 10 v3 fun a5 => post a5 S) (post ((-2)) S)
def wX6_actAhead_63 (post : Int32 → Pool → Prop) (v0 : Option Nat) (v1 : Option Nat) (v3 : Int32) (S : Pool) : Prop := wX6_actAhead_64 post v0 v1 v3 0 S
def wX6_actAhead_37 (post : Int32 → Pool → Prop) (S : Pool) : Prop := post ((-2)) S
def wX6_actAhead (post : Int32 → Pool → Prop) (v0 : Option Nat) (v1 : Option Nat) (v2 : Int32) (v3 : Int32) (S : Pool) : Prop := xR S v0 6 5 fun a1 => xI S v1 5 7 fun a2 => xaR S a1 15 (a2 - 1) fun a3 => xaI S a3 10 v3 fun a4 => br (a4 = ((-1))) (wX6_actAhead_37 post S) (xR S v0 6 6 fun a6 => xI S v1 5 7 fun a7 => xaR S a6 15 a7 fun a8 => xaI S a8 10 v3 fun a9 => br (a9 ≤ a4) (xI S v1 5 6 fun a11 => br (a11 = ((-1))) (wX6_actAhead_63 post v0 v1 v3 S) (xI S v1 5 6 fun a13 => br ((v2 - a4) ≤ a13) (wX6_actAhead_63 post v0 v1 v3 S) (wX6_actAhead_64 post v0 v1 v3 1 S))) (wX6_actAhead_37 post S))
def rmX6_actAhead : Room := { frames := 0, cells := 0, slots := 0, locals := 0 }
section
variable {p : Program} {l : Launch} {e : Env} {R : Room} {s : State} {m : MethodId} {args : Array Value} {below : List Frame} {meth : Method} {c : Code} {D : va_G} {cy : Nat → ClassId} {A : Nat → Prop}
set_option maxRecDepth 100000 in
set_option maxHeartbeats 4000000 in
theorem tX6_actAhead_64 {post : Int32 → Pool → Prop} (M : MC p m c cX6_actAhead 6 s args RX6) (hr : meth.sig.returnType = (some FieldType.int)) (hlk : meth.locks = false) (hRf : 0 ≤ R.frames) (hRl : 0 ≤ R.locals) (hRc : 0 ≤ R.cells) (hRs : 0 ≤ R.slots) : ∀ (v0 : Option Nat) (v1 : Option Nat) (v3 : Int32) (z0 : Int32) (S : Pool), wX6_actAhead_64 post v0 v1 v3 z0 S → ∀ (H : Heap) (locs : List Loc) (ls : Array Slot), PB D cy A s S H locs → lv_has ls 6 [(0, va_rf v0), (1, va_rf v1), (3, .int v3)] → W p l e R s m args below meth c H locs 0 0 (MQ below (va_Qi post (PQ D cy A) A) args s 0 0 A) (F0 m 64 ls [.int z0]) := by
  intro v0 v1 v3 z0 S h H locs ls B hl
  unfold wX6_actAhead_64 at h
  refine lv_istore (lv' := [(5, .int z0), (0, va_rf v0), (1, va_rf v1), (3, .int v3)]) M.1 M.2.1 dX6_actAhead_64 hl (by decide) (fl_e (fl_k rfl rfl (fl_k rfl rfl (fl_k rfl rfl fl_0)))) (fun ls hl => ?_)
  refine lv_iload M.1 M.2.1 dX6_actAhead_66 (lv_at hl 0 rfl) ?_
  refine lv_if_eq (tgt := 76) M.1 M.2.1 dX6_actAhead_68 (by decide) (fun c1 => ?_) (fun c1 => ?_)
  · have h := h.1 c1
    refine g_aload_n M dX6_actAhead_76 rfl (lv_at hl 1 rfl) ?_
    refine gfX6_26 M B dX6_actAhead_77 h (fun a2 h => ?_)
    refine g_aload_n M dX6_actAhead_80 rfl (lv_at hl 2 rfl) ?_
    refine gfX6_130 M B dX6_actAhead_81 h (fun a3 h => ?_)
    refine lv_iconst (v := 1) M.1 M.2.1 dX6_actAhead_84 (by decide) ?_
    refine lv_isub M.1 M.2.1 dX6_actAhead_85 ?_
    refine g_aaldA M B dX6_actAhead_86 h (fun a4 h => ?_)
    refine lv_iload_n M.1 M.2.1 dX6_actAhead_87 rfl (lv_at hl 3 rfl) ?_
    refine g_iald M B dX6_actAhead_88 h (fun a5 h => ?_)
    exact g_iret M B hr hlk h (by decide) (by decide) dX6_actAhead_89
  · have h := h.2 c1
    refine lv_bipush (v := (-2)) M.1 M.2.1 dX6_actAhead_71 (by decide) ?_
    refine lv_goto (tgt := 89) M.1 M.2.1 dX6_actAhead_73 (by decide) ?_
    exact g_iret M B hr hlk h (by decide) (by decide) dX6_actAhead_89
set_option maxRecDepth 100000 in
set_option maxHeartbeats 4000000 in
theorem tX6_actAhead_63 {post : Int32 → Pool → Prop} (M : MC p m c cX6_actAhead 6 s args RX6) (hr : meth.sig.returnType = (some FieldType.int)) (hlk : meth.locks = false) (hRf : 0 ≤ R.frames) (hRl : 0 ≤ R.locals) (hRc : 0 ≤ R.cells) (hRs : 0 ≤ R.slots) : ∀ (v0 : Option Nat) (v1 : Option Nat) (v3 : Int32) (S : Pool), wX6_actAhead_63 post v0 v1 v3 S → ∀ (H : Heap) (locs : List Loc) (ls : Array Slot), PB D cy A s S H locs → lv_has ls 6 [(0, va_rf v0), (1, va_rf v1), (3, .int v3)] → W p l e R s m args below meth c H locs 0 0 (MQ below (va_Qi post (PQ D cy A) A) args s 0 0 A) (F0 m 63 ls []) := by
  intro v0 v1 v3 S h H locs ls B hl
  unfold wX6_actAhead_63 at h
  refine lv_iconst (v := 0) M.1 M.2.1 dX6_actAhead_63 (by decide) ?_
  exact tX6_actAhead_64 M hr hlk hRf hRl hRc hRs _ _ _ _ _ h _ _ _ B (lv_sub hl [0, 1, 2] rfl)
set_option maxRecDepth 100000 in
set_option maxHeartbeats 4000000 in
theorem tX6_actAhead_37 {post : Int32 → Pool → Prop} (M : MC p m c cX6_actAhead 6 s args RX6) (hr : meth.sig.returnType = (some FieldType.int)) (hlk : meth.locks = false) (hRf : 0 ≤ R.frames) (hRl : 0 ≤ R.locals) (hRc : 0 ≤ R.cells) (hRs : 0 ≤ R.slots) : ∀ (S : Pool), wX6_actAhead_37 post S → ∀ (H : Heap) (locs : List Loc) (ls : Array Slot), PB D cy A s S H locs → lv_has ls 6 [] → W p l e R s m args below meth c H locs 0 0 (MQ below (va_Qi post (PQ D cy A) A) args s 0 0 A) (F0 m 37 ls []) := by
  intro S h H locs ls B hl
  unfold wX6_actAhead_37 at h
  refine lv_bipush (v := (-2)) M.1 M.2.1 dX6_actAhead_37 (by decide) ?_
  exact g_iret M B hr hlk h (by decide) (by decide) dX6_actAhead_39
set_option maxRecDepth 100000 in
set_option maxHeartbeats 4000000 in
theorem tX6_actAhead {post : Int32 → Pool → Prop} (M : MC p m c cX6_actAhead 6 s args RX6) (hr : meth.sig.returnType = (some FieldType.int)) (hlk : meth.locks = false) (hRf : 0 ≤ R.frames) (hRl : 0 ≤ R.locals) (hRc : 0 ≤ R.cells) (hRs : 0 ≤ R.slots) : ∀ (v0 : Option Nat) (v1 : Option Nat) (v2 : Int32) (v3 : Int32) (S : Pool), wX6_actAhead post v0 v1 v2 v3 S → ∀ (H : Heap) (locs : List Loc) (ls : Array Slot), PB D cy A s S H locs → lv_has ls 6 [(0, va_rf v0), (1, va_rf v1), (2, .int v2), (3, .int v3)] → W p l e R s m args below meth c H locs 0 0 (MQ below (va_Qi post (PQ D cy A) A) args s 0 0 A) (F0 m 0 ls []) := by
  intro v0 v1 v2 v3 S h H locs ls B hl
  unfold wX6_actAhead at h
  refine g_aload_n M dX6_actAhead_0 rfl (lv_at hl 0 rfl) ?_
  refine gfX6_29 M B dX6_actAhead_1 h (fun a1 h => ?_)
  refine g_aload_n M dX6_actAhead_4 rfl (lv_at hl 1 rfl) ?_
  refine gfX6_130 M B dX6_actAhead_5 h (fun a2 h => ?_)
  refine lv_iconst (v := 1) M.1 M.2.1 dX6_actAhead_8 (by decide) ?_
  refine lv_isub M.1 M.2.1 dX6_actAhead_9 ?_
  refine g_aaldA M B dX6_actAhead_10 h (fun a3 h => ?_)
  refine lv_iload_n M.1 M.2.1 dX6_actAhead_11 rfl (lv_at hl 3 rfl) ?_
  refine g_iald M B dX6_actAhead_12 h (fun a4 h => ?_)
  refine lv_istore (lv' := [(4, .int a4), (0, va_rf v0), (1, va_rf v1), (2, .int v2), (3, .int v3)]) M.1 M.2.1 dX6_actAhead_13 hl (by decide) (fl_e (fl_k rfl rfl (fl_k rfl rfl (fl_k rfl rfl (fl_i rfl fl_0))))) (fun ls hl => ?_)
  refine lv_iload M.1 M.2.1 dX6_actAhead_15 (lv_at hl 0 rfl) ?_
  refine lv_iconst (v := (-1)) M.1 M.2.1 dX6_actAhead_17 (by decide) ?_
  refine lv_icmp_eq (tgt := 37) M.1 M.2.1 dX6_actAhead_18 (by decide) (fun c5 => ?_) (fun c5 => ?_)
  · have h := h.1 c5
    exact tX6_actAhead_37 M hr hlk hRf hRl hRc hRs _ h _ _ _ B (lv_sub hl [] rfl)
  · have h := h.2 c5
    refine g_aload_n M dX6_actAhead_21 rfl (lv_at hl 1 rfl) ?_
    refine gfX6_32 M B dX6_actAhead_22 h (fun a6 h => ?_)
    refine g_aload_n M dX6_actAhead_25 rfl (lv_at hl 2 rfl) ?_
    refine gfX6_130 M B dX6_actAhead_26 h (fun a7 h => ?_)
    refine g_aaldA M B dX6_actAhead_29 h (fun a8 h => ?_)
    refine lv_iload_n M.1 M.2.1 dX6_actAhead_30 rfl (lv_at hl 4 rfl) ?_
    refine g_iald M B dX6_actAhead_31 h (fun a9 h => ?_)
    refine lv_iload M.1 M.2.1 dX6_actAhead_32 (lv_at hl 0 rfl) ?_
    refine lv_icmp_le (tgt := 40) M.1 M.2.1 dX6_actAhead_34 (by decide) (fun c10 => ?_) (fun c10 => ?_)
    · have h := h.1 c10
      refine g_aload_n M dX6_actAhead_40 rfl (lv_at hl 2 rfl) ?_
      refine gfX6_157 M B dX6_actAhead_41 h (fun a11 h => ?_)
      refine lv_iconst (v := (-1)) M.1 M.2.1 dX6_actAhead_44 (by decide) ?_
      refine lv_icmp_eq (tgt := 63) M.1 M.2.1 dX6_actAhead_45 (by decide) (fun c12 => ?_) (fun c12 => ?_)
      · have h := h.1 c12
        exact tX6_actAhead_63 M hr hlk hRf hRl hRc hRs _ _ _ _ h _ _ _ B (lv_sub hl [1, 2, 4] rfl)
      · have h := h.2 c12
        refine lv_iload_n M.1 M.2.1 dX6_actAhead_48 rfl (lv_at hl 3 rfl) ?_
        refine lv_iload M.1 M.2.1 dX6_actAhead_49 (lv_at hl 0 rfl) ?_
        refine lv_isub M.1 M.2.1 dX6_actAhead_51 ?_
        refine g_aload_n M dX6_actAhead_52 rfl (lv_at hl 2 rfl) ?_
        refine gfX6_157 M B dX6_actAhead_53 h (fun a13 h => ?_)
        refine lv_icmp_le (tgt := 63) M.1 M.2.1 dX6_actAhead_56 (by decide) (fun c14 => ?_) (fun c14 => ?_)
        · have h := h.1 c14
          exact tX6_actAhead_63 M hr hlk hRf hRl hRc hRs _ _ _ _ h _ _ _ B (lv_sub hl [1, 2, 4] rfl)
        · have h := h.2 c14
          refine lv_iconst (v := 1) M.1 M.2.1 dX6_actAhead_59 (by decide) ?_
          refine lv_goto (tgt := 64) M.1 M.2.1 dX6_actAhead_60 (by decide) ?_
          exact tX6_actAhead_64 M hr hlk hRf hRl hRc hRs _ _ _ _ _ h _ _ _ B (lv_sub hl [1, 2, 4] rfl)
    · have h := h.2 c10
      exact tX6_actAhead_37 M hr hlk hRf hRl hRc hRs _ h _ _ _ B (lv_sub hl [] rfl)
end
set_option maxRecDepth 100000 in
set_option maxHeartbeats 4000000 in
theorem kX6_actAhead (l : Launch) (D : va_G) (cy : Nat → ClassId) {post : Int32 → Pool → Prop} {v0 : Option Nat} {v1 : Option Nat} {v2 : Int32} {v3 : Int32} {S : Pool} (h : wX6_actAhead post v0 v1 v2 v3 S) : MetI l yX6_actAhead cX6_actAhead 6 (some FieldType.int) rmX6_actAhead [va_rf v0, va_rf v1, .int v2, .int v3] D cy S post := by
  intro sz
  refine Met.ofW (cc := cX6_actAhead) (maxL := 6) (ret := (some FieldType.int)) (by decide) rfl ?_
  intro p e s m args below meth c s₁ B0 hml hv
  obtain ⟨rfl, hpp⟩ := hv
  have hts := atoms_spec (ws := .code yX6_actAhead cX6_actAhead 6 (some FieldType.int) :: Gw) B0.pre
  obtain rfl : s.heap.size = sz := hpp.1
  have hl := lv_entry [va_rf v0, va_rf v1, .int v2, .int v3] (n := 6) (by rw [sl_r, sl_r, sl_i, sl_i, sl_0]; decide)
  rw [lg_entry_eq]
  rw [la_r, la_r, la_i, la_i, la_0] at hl
  exact tX6_actAhead (l := l) (R := rmX6_actAhead) ⟨B0.exec, B0.bytes, hml, findClass_of_methodNamed B0.named, fun w hw => hts w (List.mem_cons_of_mem _ hw)⟩ B0.returns B0.notSynchronized (Nat.le_refl _) (Nat.le_refl _) (Nat.le_refl _) (Nat.le_refl _) _ _ _ _ _ h _ _ _ hpp.pb (lv_sub hl [0, 1, 2, 3] rfl)
-- X6_reachAt: LogHunt$Sweep.reachAt(LLogHunt$Step;LLogHunt$Act;)I
def wX6_reachAt_108 (post : Int32 → Pool → Prop) (v0 : Option Nat) (v1 : Option Nat) (v2 : Option Nat) (v3 : Int32) (S : Pool) : Prop := xI S v1 5 7 fun a1 => br (a1 = 0) (post ((-1)) S) (xI S v2 0 5 fun a3 => xrc S v0 6 (wX6_actAhead (fun a5 S4 => post a5 S4) v0 v1 a3 v3 S))
def wX6_reachAt_34 (post : Int32 → Pool → Prop) (v0 : Option Nat) (v1 : Option Nat) (v2 : Option Nat) (S : Pool) : Prop := xR S v0 6 3 fun a1 => xI S v1 5 7 fun a2 => xaI S a1 10 a2 fun a3 => xsI S a1 10 a2 (a3 + 1) fun S4 => xR S4 v0 6 10 fun a5 => xI S4 a5 3 3 fun a6 => xrc S4 v2 0 (wX0_valueIn (fun a8 S7 => xI S7 v1 5 7 fun a9 => xR S7 v0 6 10 fun a10 => xI S7 a10 3 2 fun a11 => br (a9 = (a11 - 1)) (xR S7 v0 6 10 fun a13 => xI S7 a13 3 4 fun a14 => br (a14 = ((-1))) (wX6_reachAt_108 post v0 v1 v2 a8 S7) (xR S7 v0 6 8 fun a16 => xaR S7 a16 15 a8 fun a17 => xR S7 v0 6 10 fun a18 => xI S7 a18 3 4 fun a19 => xrc S7 v2 0 (wX0_valueIn (fun a21 S20 => xI S20 v2 0 5 fun a22 => xsI S20 a17 10 a21 a22 fun S23 => wX6_reachAt_108 post v0 v1 v2 a8 S23) v2 a19 S7))) (wX6_reachAt_108 post v0 v1 v2 a8 S7)) v2 a6 S4)
def wX6_reachAt_31 (post : Int32 → Pool → Prop) (S : Pool) : Prop := post ((-2)) S
def wX6_reachAt (post : Int32 → Pool → Prop) (v0 : Option Nat) (v1 : Option Nat) (v2 : Option Nat) (S : Pool) : Prop := xrc S v1 5 (wX5_admits (fun a2 S1 => br (a2 = 0) (wX6_reachAt_31 post S1) (xI S1 v1 5 5 fun a4 => br (a4 = 0) (wX6_reachAt_34 post v0 v1 v2 S1) (xR S1 v0 6 9 fun a6 => xI S1 v2 0 8 fun a7 => xaI S1 a6 10 a7 fun a8 => xI S1 v2 0 5 fun a9 => br (a9 ≤ a8) (wX6_reachAt_34 post v0 v1 v2 S1) (wX6_reachAt_31 post S1)))) v1 v2 S)
def rmX6_reachAt : Room := { frames := 1, cells := 0, slots := 0, locals := 25 }
section
variable {p : Program} {l : Launch} {e : Env} {R : Room} {s : State} {m : MethodId} {args : Array Value} {below : List Frame} {meth : Method} {c : Code} {D : va_G} {cy : Nat → ClassId} {A : Nat → Prop}
set_option maxRecDepth 100000 in
set_option maxHeartbeats 4000000 in
theorem tX6_reachAt_108 {post : Int32 → Pool → Prop} (M : MC p m c cX6_reachAt 4 s args RX6) (hr : meth.sig.returnType = (some FieldType.int)) (hlk : meth.locks = false) (hRf : 1 ≤ R.frames) (hRl : 25 ≤ R.locals) (hRc : 0 ≤ R.cells) (hRs : 0 ≤ R.slots) : ∀ (v0 : Option Nat) (v1 : Option Nat) (v2 : Option Nat) (v3 : Int32) (S : Pool), wX6_reachAt_108 post v0 v1 v2 v3 S → ∀ (H : Heap) (locs : List Loc) (ls : Array Slot), PB D cy A s S H locs → lv_has ls 4 [(0, va_rf v0), (1, va_rf v1), (2, va_rf v2), (3, .int v3)] → W p l e R s m args below meth c H locs 0 0 (MQ below (va_Qi post (PQ D cy A) A) args s 0 0 A) (F0 m 108 ls []) := by
  intro v0 v1 v2 v3 S h H locs ls B hl
  unfold wX6_reachAt_108 at h
  refine g_aload_n M dX6_reachAt_108 rfl (lv_at hl 1 rfl) ?_
  refine gfX6_130 M B dX6_reachAt_109 h (fun a1 h => ?_)
  refine lv_if_ne (tgt := 119) M.1 M.2.1 dX6_reachAt_112 (by decide) (fun c2 => ?_) (fun c2 => ?_)
  · have h := h.2 c2
    refine g_aload_n M dX6_reachAt_119 rfl (lv_at hl 0 rfl) ?_
    refine g_aload_n M dX6_reachAt_120 rfl (lv_at hl 1 rfl) ?_
    refine g_aload_n M dX6_reachAt_121 rfl (lv_at hl 2 rfl) ?_
    refine gfX6_83 M B dX6_reachAt_122 h (fun a3 h => ?_)
    refine lv_iload_n M.1 M.2.1 dX6_reachAt_125 rfl (lv_at hl 3 rfl) ?_
    obtain ⟨o1, e1, hL1, hK1, h⟩ := h
    refine g_calli (k1 := 0) (k2 := 0) B (g_runV (n := 3) (As := [va_rf v1, .int a3, .int v3]) (rm := rmX6_actAhead) M B e1 (kX6_actAhead (v0 := v0) (v1 := v1) (v2 := a3) (v3 := v3) l D cy h _) wmX6_153 wiX6_actAhead wsX6_actAhead wnX6 wcdX6_actAhead ⟨rfl, by decide, by decide, by decide +kernel⟩ ⟨Nat.le_trans (by decide) hRf, Nat.le_trans (by decide) hRl⟩ ⟨Nat.le_trans (by decide) hRc, Nat.le_trans (by decide) hRs⟩ hL1 hK1 (by decide) rfl rfl rfl hl.1 rfl ct_0 (by decide) dX6_reachAt_126) (by decide) (by decide) (fun a5 S4 H locs h B => ?_)
    exact g_iret M B hr hlk h (by decide) (by decide) dX6_reachAt_129
  · have h := h.1 c2
    refine lv_iconst (v := (-1)) M.1 M.2.1 dX6_reachAt_115 (by decide) ?_
    refine lv_goto (tgt := 129) M.1 M.2.1 dX6_reachAt_116 (by decide) ?_
    exact g_iret M B hr hlk h (by decide) (by decide) dX6_reachAt_129
set_option maxRecDepth 100000 in
set_option maxHeartbeats 4000000 in
theorem tX6_reachAt_34 {post : Int32 → Pool → Prop} (M : MC p m c cX6_reachAt 4 s args RX6) (hr : meth.sig.returnType = (some FieldType.int)) (hlk : meth.locks = false) (hRf : 1 ≤ R.frames) (hRl : 25 ≤ R.locals) (hRc : 0 ≤ R.cells) (hRs : 0 ≤ R.slots) : ∀ (v0 : Option Nat) (v1 : Option Nat) (v2 : Option Nat) (S : Pool), wX6_reachAt_34 post v0 v1 v2 S → ∀ (H : Heap) (locs : List Loc) (ls : Array Slot), PB D cy A s S H locs → lv_has ls 4 [(0, va_rf v0), (1, va_rf v1), (2, va_rf v2)] → W p l e R s m args below meth c H locs 0 0 (MQ below (va_Qi post (PQ D cy A) A) args s 0 0 A) (F0 m 34 ls []) := by
  intro v0 v1 v2 S h H locs ls B hl
  unfold wX6_reachAt_34 at h
  refine g_aload_n M dX6_reachAt_34 rfl (lv_at hl 0 rfl) ?_
  refine gfX6_22 M B dX6_reachAt_35 h (fun a1 h => ?_)
  refine g_aload_n M dX6_reachAt_38 rfl (lv_at hl 1 rfl) ?_
  refine gfX6_130 M B dX6_reachAt_39 h (fun a2 h => ?_)
  refine lv_dup2_11 M.1 M.2.1 dX6_reachAt_42 (rfl) (rf_cat _) ?_
  refine g_iald M B dX6_reachAt_43 h (fun a3 h => ?_)
  refine lv_iconst (v := 1) M.1 M.2.1 dX6_reachAt_44 (by decide) ?_
  refine lv_iadd M.1 M.2.1 dX6_reachAt_45 ?_
  refine g_iast M B dX6_reachAt_46 h (fun S4 H locs h B => ?_)
  refine g_aload_n M dX6_reachAt_47 rfl (lv_at hl 2 rfl) ?_
  refine g_aload_n M dX6_reachAt_48 rfl (lv_at hl 0 rfl) ?_
  refine gfX6_47 M B dX6_reachAt_49 h (fun a5 h => ?_)
  refine gfX6_144 M B dX6_reachAt_52 h (fun a6 h => ?_)
  obtain ⟨o1, e1, hL1, hK1, h⟩ := h
  refine g_calli (k1 := 0) (k2 := 0) B (g_runV (n := 1) (As := [.int a6]) (rm := rmX0_valueIn) M B e1 (kX0_valueIn (v0 := v2) (v1 := a6) l D cy h _) wmX6_147 wiX0_valueIn wsX0_valueIn wnX0 wcdX0_valueIn ⟨rfl, by decide, by decide, by decide +kernel⟩ ⟨Nat.le_trans (by decide) hRf, Nat.le_trans (by decide) hRl⟩ ⟨Nat.le_trans (by decide) hRc, Nat.le_trans (by decide) hRs⟩ hL1 hK1 (by decide) rfl rfl rfl hl.1 rfl ct_0 (by decide) dX6_reachAt_55) (by decide) (by decide) (fun a8 S7 H locs h B => ?_)
  refine lv_istore_n (lv' := [(3, .int a8), (0, va_rf v0), (1, va_rf v1), (2, va_rf v2)]) M.1 M.2.1 dX6_reachAt_58 rfl hl (by decide) (fl_e (fl_k rfl rfl (fl_k rfl rfl (fl_r rfl fl_0)))) (fun ls hl => ?_)
  refine g_aload_n M dX6_reachAt_59 rfl (lv_at hl 2 rfl) ?_
  refine gfX6_130 M B dX6_reachAt_60 h (fun a9 h => ?_)
  refine g_aload_n M dX6_reachAt_63 rfl (lv_at hl 1 rfl) ?_
  refine gfX6_47 M B dX6_reachAt_64 h (fun a10 h => ?_)
  refine gfX6_150 M B dX6_reachAt_67 h (fun a11 h => ?_)
  refine lv_iconst (v := 1) M.1 M.2.1 dX6_reachAt_70 (by decide) ?_
  refine lv_isub M.1 M.2.1 dX6_reachAt_71 ?_
  refine lv_icmp_ne (tgt := 108) M.1 M.2.1 dX6_reachAt_72 (by decide) (fun c12 => ?_) (fun c12 => ?_)
  · have h := h.2 c12
    exact tX6_reachAt_108 M hr hlk hRf hRl hRc hRs _ _ _ _ _ h _ _ _ B (lv_sub hl [1, 2, 3, 0] rfl)
  · have h := h.1 c12
    refine g_aload_n M dX6_reachAt_75 rfl (lv_at hl 1 rfl) ?_
    refine gfX6_47 M B dX6_reachAt_76 h (fun a13 h => ?_)
    refine gfX6_110 M B dX6_reachAt_79 h (fun a14 h => ?_)
    refine lv_iconst (v := (-1)) M.1 M.2.1 dX6_reachAt_82 (by decide) ?_
    refine lv_icmp_eq (tgt := 108) M.1 M.2.1 dX6_reachAt_83 (by decide) (fun c15 => ?_) (fun c15 => ?_)
    · have h := h.1 c15
      exact tX6_reachAt_108 M hr hlk hRf hRl hRc hRs _ _ _ _ _ h _ _ _ B (lv_sub hl [1, 2, 3, 0] rfl)
    · have h := h.2 c15
      refine g_aload_n M dX6_reachAt_86 rfl (lv_at hl 1 rfl) ?_
      refine gfX6_38 M B dX6_reachAt_87 h (fun a16 h => ?_)
      refine lv_iload_n M.1 M.2.1 dX6_reachAt_90 rfl (lv_at hl 0 rfl) ?_
      refine g_aaldA M B dX6_reachAt_91 h (fun a17 h => ?_)
      refine g_aload_n M dX6_reachAt_92 rfl (lv_at hl 3 rfl) ?_
      refine g_aload_n M dX6_reachAt_93 rfl (lv_at hl 1 rfl) ?_
      refine gfX6_47 M B dX6_reachAt_94 h (fun a18 h => ?_)
      refine gfX6_110 M B dX6_reachAt_97 h (fun a19 h => ?_)
      obtain ⟨o1, e1, hL1, hK1, h⟩ := h
      refine g_calli (k1 := 0) (k2 := 0) B (g_runV (n := 1) (As := [.int a19]) (rm := rmX0_valueIn) M B e1 (kX0_valueIn (v0 := v2) (v1 := a19) l D cy h _) wmX6_147 wiX0_valueIn wsX0_valueIn wnX0 wcdX0_valueIn ⟨rfl, by decide, by decide, by decide +kernel⟩ ⟨Nat.le_trans (by decide) hRf, Nat.le_trans (by decide) hRl⟩ ⟨Nat.le_trans (by decide) hRc, Nat.le_trans (by decide) hRs⟩ hL1 hK1 (by decide) rfl rfl rfl hl.1 rfl (ct_r ct_0) (by decide) dX6_reachAt_100) (by decide) (by decide) (fun a21 S20 H locs h B => ?_)
      refine g_aload_n M dX6_reachAt_103 rfl (lv_at hl 3 rfl) ?_
      refine gfX6_83 M B dX6_reachAt_104 h (fun a22 h => ?_)
      refine g_iast M B dX6_reachAt_107 h (fun S23 H locs h B => ?_)
      exact tX6_reachAt_108 M hr hlk hRf hRl hRc hRs _ _ _ _ _ h _ _ _ B (lv_sub hl [1, 2, 3, 0] rfl)
set_option maxRecDepth 100000 in
set_option maxHeartbeats 4000000 in
theorem tX6_reachAt_31 {post : Int32 → Pool → Prop} (M : MC p m c cX6_reachAt 4 s args RX6) (hr : meth.sig.returnType = (some FieldType.int)) (hlk : meth.locks = false) (hRf : 1 ≤ R.frames) (hRl : 25 ≤ R.locals) (hRc : 0 ≤ R.cells) (hRs : 0 ≤ R.slots) : ∀ (S : Pool), wX6_reachAt_31 post S → ∀ (H : Heap) (locs : List Loc) (ls : Array Slot), PB D cy A s S H locs → lv_has ls 4 [] → W p l e R s m args below meth c H locs 0 0 (MQ below (va_Qi post (PQ D cy A) A) args s 0 0 A) (F0 m 31 ls []) := by
  intro S h H locs ls B hl
  unfold wX6_reachAt_31 at h
  refine lv_bipush (v := (-2)) M.1 M.2.1 dX6_reachAt_31 (by decide) ?_
  exact g_iret M B hr hlk h (by decide) (by decide) dX6_reachAt_33
set_option maxRecDepth 100000 in
set_option maxHeartbeats 4000000 in
theorem tX6_reachAt {post : Int32 → Pool → Prop} (M : MC p m c cX6_reachAt 4 s args RX6) (hr : meth.sig.returnType = (some FieldType.int)) (hlk : meth.locks = false) (hRf : 1 ≤ R.frames) (hRl : 25 ≤ R.locals) (hRc : 0 ≤ R.cells) (hRs : 0 ≤ R.slots) : ∀ (v0 : Option Nat) (v1 : Option Nat) (v2 : Option Nat) (S : Pool), wX6_reachAt post v0 v1 v2 S → ∀ (H : Heap) (locs : List Loc) (ls : Array Slot), PB D cy A s S H locs → lv_has ls 4 [(0, va_rf v0), (1, va_rf v1), (2, va_rf v2)] → W p l e R s m args below meth c H locs 0 0 (MQ below (va_Qi post (PQ D cy A) A) args s 0 0 A) (F0 m 0 ls []) := by
  intro v0 v1 v2 S h H locs ls B hl
  unfold wX6_reachAt at h
  refine g_aload_n M dX6_reachAt_0 rfl (lv_at hl 1 rfl) ?_
  refine g_aload_n M dX6_reachAt_1 rfl (lv_at hl 2 rfl) ?_
  obtain ⟨o1, e1, hL1, hK1, h⟩ := h
  refine g_calli (k1 := 0) (k2 := 0) B (g_runV (n := 1) (As := [va_rf v2]) (rm := rmX5_admits) M B e1 (kX5_admits (v0 := v1) (v1 := v2) l D cy h _) wmX6_137 wiX5_admits wsX5_admits wnX5 wcdX5_admits ⟨rfl, by decide, by decide, by decide +kernel⟩ ⟨Nat.le_trans (by decide) hRf, Nat.le_trans (by decide) hRl⟩ ⟨Nat.le_trans (by decide) hRc, Nat.le_trans (by decide) hRs⟩ hL1 hK1 (by decide) rfl rfl rfl hl.1 rfl ct_0 (by decide) dX6_reachAt_2) (by decide) (by decide) (fun a2 S1 H locs h B => ?_)
  refine lv_if_eq (tgt := 31) M.1 M.2.1 dX6_reachAt_5 (by decide) (fun c3 => ?_) (fun c3 => ?_)
  · have h := h.1 c3
    exact tX6_reachAt_31 M hr hlk hRf hRl hRc hRs _ h _ _ _ B (lv_sub hl [] rfl)
  · have h := h.2 c3
    refine g_aload_n M dX6_reachAt_8 rfl (lv_at hl 1 rfl) ?_
    refine gfX6_141 M B dX6_reachAt_9 h (fun a4 h => ?_)
    refine lv_if_eq (tgt := 34) M.1 M.2.1 dX6_reachAt_12 (by decide) (fun c5 => ?_) (fun c5 => ?_)
    · have h := h.1 c5
      exact tX6_reachAt_34 M hr hlk hRf hRl hRc hRs _ _ _ _ h _ _ _ B (lv_sub hl [0, 1, 2] rfl)
    · have h := h.2 c5
      refine g_aload_n M dX6_reachAt_15 rfl (lv_at hl 0 rfl) ?_
      refine gfX6_41 M B dX6_reachAt_16 h (fun a6 h => ?_)
      refine g_aload_n M dX6_reachAt_19 rfl (lv_at hl 2 rfl) ?_
      refine gfX6_114 M B dX6_reachAt_20 h (fun a7 h => ?_)
      refine g_iald M B dX6_reachAt_23 h (fun a8 h => ?_)
      refine g_aload_n M dX6_reachAt_24 rfl (lv_at hl 2 rfl) ?_
      refine gfX6_83 M B dX6_reachAt_25 h (fun a9 h => ?_)
      refine lv_icmp_ge (tgt := 34) M.1 M.2.1 dX6_reachAt_28 (by decide) (fun c10 => ?_) (fun c10 => ?_)
      · have h := h.1 c10
        exact tX6_reachAt_34 M hr hlk hRf hRl hRc hRs _ _ _ _ h _ _ _ B (lv_sub hl [0, 1, 2] rfl)
      · have h := h.2 c10
        exact tX6_reachAt_31 M hr hlk hRf hRl hRc hRs _ h _ _ _ B (lv_sub hl [] rfl)
end
set_option maxRecDepth 100000 in
set_option maxHeartbeats 4000000 in
theorem kX6_reachAt (l : Launch) (D : va_G) (cy : Nat → ClassId) {post : Int32 → Pool → Prop} {v0 : Option Nat} {v1 : Option Nat} {v2 : Option Nat} {S : Pool} (h : wX6_reachAt post v0 v1 v2 S) : MetI l yX6_reachAt cX6_reachAt 4 (some FieldType.int) rmX6_reachAt [va_rf v0, va_rf v1, va_rf v2] D cy S post := by
  intro sz
  refine Met.ofW (cc := cX6_reachAt) (maxL := 4) (ret := (some FieldType.int)) (by decide) rfl ?_
  intro p e s m args below meth c s₁ B0 hml hv
  obtain ⟨rfl, hpp⟩ := hv
  have hts := atoms_spec (ws := .code yX6_reachAt cX6_reachAt 4 (some FieldType.int) :: Gw) B0.pre
  obtain rfl : s.heap.size = sz := hpp.1
  have hl := lv_entry [va_rf v0, va_rf v1, va_rf v2] (n := 4) (by rw [sl_r, sl_r, sl_r, sl_0]; decide)
  rw [lg_entry_eq]
  rw [la_r, la_r, la_r, la_0] at hl
  exact tX6_reachAt (l := l) (R := rmX6_reachAt) ⟨B0.exec, B0.bytes, hml, findClass_of_methodNamed B0.named, fun w hw => hts w (List.mem_cons_of_mem _ hw)⟩ B0.returns B0.notSynchronized (Nat.le_refl _) (Nat.le_refl _) (Nat.le_refl _) (Nat.le_refl _) _ _ _ _ h _ _ _ hpp.pb (lv_sub hl [0, 1, 2] rfl)
-- X6_reach: LogHunt$Sweep.reach(LLogHunt$Act;)V
def wX6_reach_76 (K28 : Option Nat → Option Nat → Int32 → Pool → Prop) (post : Pool → Prop) (v0 : Option Nat) (v1 : Option Nat) (v2 : Int32) (S : Pool) : Prop := K28 v0 v1 (v2 + 1) S
def wX6_reach_28 (post : Pool → Prop) : Nat → Option Nat → Option Nat → Int32 → Pool → Prop
  | 0 => fun _ _ _ _ => False
  | n + 1 => fun v0 v1 v2 S => xR S v0 6 10 fun a1 => xI S a1 3 1 fun a2 => br (a2 ≤ v2) (post S) (xR S v0 6 10 fun a4 => xR S a4 3 0 fun a5 => xaR S a5 14 v2 fun a6 => xI S a6 5 4 fun a7 => br (a7 = 0) (xR S v0 6 2 fun a9 => xI S a6 5 7 fun a10 => xaR S a9 15 a10 fun a11 => xI S v1 0 0 fun a12 => xrc S v0 6 (wX6_reachAt (fun a14 S13 => xsI S13 a11 10 a12 a14 fun S15 => wX6_reach_76 (wX6_reach_28 post n) post v0 v1 v2 S15) v0 a6 v1 S)) (wX6_reach_76 (wX6_reach_28 post n) post v0 v1 v2 S))
def wX6_reach_26 (post : Pool → Prop) (v0 : Option Nat) (v1 : Option Nat) (S : Pool) : Prop := ∃ n1, wX6_reach_28 post n1 v0 v1 0 S
def wX6_reach (post : Pool → Prop) (v0 : Option Nat) (v1 : Option Nat) (S : Pool) : Prop := xR S v0 6 9 fun a1 => xI S v1 0 8 fun a2 => xaI S a1 10 a2 fun a3 => br (a3 = ((-1))) (xR S v0 6 9 fun a5 => xI S v1 0 8 fun a6 => xI S v1 0 5 fun a7 => xsI S a5 10 a6 a7 fun S8 => wX6_reach_26 post v0 v1 S8) (wX6_reach_26 post v0 v1 S)
def rmX6_reach : Room := { frames := 2, cells := 0, slots := 0, locals := 48 }
section
variable {p : Program} {l : Launch} {e : Env} {R : Room} {s : State} {m : MethodId} {args : Array Value} {below : List Frame} {meth : Method} {c : Code} {D : va_G} {cy : Nat → ClassId} {A : Nat → Prop}
set_option maxRecDepth 100000 in
set_option maxHeartbeats 4000000 in
theorem tX6_reach_76 {K28 : Option Nat → Option Nat → Int32 → Pool → Prop} {post : Pool → Prop} (M : MC p m c cX6_reach 4 s args RX6) (hr : meth.sig.returnType = none) (hlk : meth.locks = false) (hRf : 2 ≤ R.frames) (hRl : 48 ≤ R.locals) (hRc : 0 ≤ R.cells) (hRs : 0 ≤ R.slots) (hK28 : ∀ (v0 : Option Nat) (v1 : Option Nat) (v2 : Int32) (S : Pool), K28 v0 v1 v2 S → ∀ (H : Heap) (locs : List Loc) (ls : Array Slot), PB D cy A s S H locs → lv_has ls 4 [(0, va_rf v0), (1, va_rf v1), (2, .int v2)] → W p l e R s m args below meth c H locs 0 0 (MQ below (va_Qv post (PQ D cy A) A) args s 0 0 A) (F0 m 28 ls [])) : ∀ (v0 : Option Nat) (v1 : Option Nat) (v2 : Int32) (S : Pool), wX6_reach_76 K28 post v0 v1 v2 S → ∀ (H : Heap) (locs : List Loc) (ls : Array Slot), PB D cy A s S H locs → lv_has ls 4 [(0, va_rf v0), (1, va_rf v1), (2, .int v2)] → W p l e R s m args below meth c H locs 0 0 (MQ below (va_Qv post (PQ D cy A) A) args s 0 0 A) (F0 m 76 ls []) := by
  intro v0 v1 v2 S h H locs ls B hl
  unfold wX6_reach_76 at h
  refine lv_iinc (v := v2 + 1) (lv' := [(2, .int (v2 + 1)), (0, va_rf v0), (1, va_rf v1)]) M.1 M.2.1 dX6_reach_76 hl (k := 2) rfl (by rfl) (by decide) (fl_e (fl_k rfl rfl (fl_r rfl (fl_d rfl fl_0)))) (fun ls hl => ?_)
  refine lv_goto (tgt := 28) M.1 M.2.1 dX6_reach_79 (by decide) ?_
  exact hK28 _ _ _ _ h _ _ _ B (lv_sub hl [1, 2, 0] rfl)
set_option maxRecDepth 100000 in
set_option maxHeartbeats 4000000 in
theorem tX6_reach_28 {post : Pool → Prop} (M : MC p m c cX6_reach 4 s args RX6) (hr : meth.sig.returnType = none) (hlk : meth.locks = false) (hRf : 2 ≤ R.frames) (hRl : 48 ≤ R.locals) (hRc : 0 ≤ R.cells) (hRs : 0 ≤ R.slots) : ∀ (n : Nat) (v0 : Option Nat) (v1 : Option Nat) (v2 : Int32) (S : Pool), wX6_reach_28 post n v0 v1 v2 S → ∀ (H : Heap) (locs : List Loc) (ls : Array Slot), PB D cy A s S H locs → lv_has ls 4 [(0, va_rf v0), (1, va_rf v1), (2, .int v2)] → W p l e R s m args below meth c H locs 0 0 (MQ below (va_Qv post (PQ D cy A) A) args s 0 0 A) (F0 m 28 ls []) := by
  intro n
  induction n with
  | zero => intro v0 v1 v2 S h; exact False.elim h
  | succ n ih =>
    intro v0 v1 v2 S h H locs ls B hl
    unfold wX6_reach_28 at h
    refine lv_iload_n M.1 M.2.1 dX6_reach_28 rfl (lv_at hl 2 rfl) ?_
    refine g_aload_n M dX6_reach_29 rfl (lv_at hl 0 rfl) ?_
    refine gfX6_47 M B dX6_reach_30 h (fun a1 h => ?_)
    refine gfX6_117 M B dX6_reach_33 h (fun a2 h => ?_)
    refine lv_icmp_ge (tgt := 82) M.1 M.2.1 dX6_reach_36 (by decide) (fun c3 => ?_) (fun c3 => ?_)
    · have h := h.1 c3
      exact g_vret M B hr hlk h (by decide) (by decide) dX6_reach_82
    · have h := h.2 c3
      refine g_aload_n M dX6_reach_39 rfl (lv_at hl 0 rfl) ?_
      refine gfX6_47 M B dX6_reach_40 h (fun a4 h => ?_)
      refine gfX6_120 M B dX6_reach_43 h (fun a5 h => ?_)
      refine lv_iload_n M.1 M.2.1 dX6_reach_46 rfl (lv_at hl 2 rfl) ?_
      refine g_aald (kd := 14) (t0 := 4) M B ⟨by decide, by decide⟩ rfl dX6_reach_47 h (fun a6 h => ?_)
      refine g_astore_n (lv' := [(3, va_rf a6), (0, va_rf v0), (1, va_rf v1), (2, .int v2)]) M dX6_reach_48 rfl hl (by decide) (fl_e (fl_k rfl rfl (fl_k rfl rfl (fl_i rfl fl_0)))) (fun ls hl => ?_)
      refine g_aload_n M dX6_reach_49 rfl (lv_at hl 0 rfl) ?_
      refine gfX6_124 M B dX6_reach_50 h (fun a7 h => ?_)
      refine lv_if_ne (tgt := 76) M.1 M.2.1 dX6_reach_53 (by decide) (fun c8 => ?_) (fun c8 => ?_)
      · have h := h.2 c8
        exact tX6_reach_76 M hr hlk hRf hRl hRc hRs ih _ _ _ _ h _ _ _ B (lv_sub hl [1, 2, 3] rfl)
      · have h := h.1 c8
        refine g_aload_n M dX6_reach_56 rfl (lv_at hl 1 rfl) ?_
        refine gfX6_19 M B dX6_reach_57 h (fun a9 h => ?_)
        refine g_aload_n M dX6_reach_60 rfl (lv_at hl 0 rfl) ?_
        refine gfX6_130 M B dX6_reach_61 h (fun a10 h => ?_)
        refine g_aaldA M B dX6_reach_64 h (fun a11 h => ?_)
        refine g_aload_n M dX6_reach_65 rfl (lv_at hl 2 rfl) ?_
        refine gfX6_90 M B dX6_reach_66 h (fun a12 h => ?_)
        refine g_aload_n M dX6_reach_69 rfl (lv_at hl 1 rfl) ?_
        refine g_aload_n M dX6_reach_70 rfl (lv_at hl 0 rfl) ?_
        refine g_aload_n M dX6_reach_71 rfl (lv_at hl 2 rfl) ?_
        obtain ⟨o1, e1, hL1, hK1, h⟩ := h
        refine g_calli (k1 := 0) (k2 := 0) B (g_runV (n := 2) (As := [va_rf a6, va_rf v1]) (rm := rmX6_reachAt) M B e1 (kX6_reachAt (v0 := v0) (v1 := a6) (v2 := v1) l D cy h _) wmX6_133 wiX6_reachAt wsX6_reachAt wnX6 wcdX6_reachAt ⟨rfl, by decide, by decide, by decide +kernel⟩ ⟨Nat.le_trans (by decide) hRf, Nat.le_trans (by decide) hRl⟩ ⟨Nat.le_trans (by decide) hRc, Nat.le_trans (by decide) hRs⟩ hL1 hK1 (by decide) rfl rfl rfl hl.1 rfl (ct_i (ct_r ct_0)) (by decide) dX6_reach_72) (by decide) (by decide) (fun a14 S13 H locs h B => ?_)
        refine g_iast M B dX6_reach_75 h (fun S15 H locs h B => ?_)
        exact tX6_reach_76 M hr hlk hRf hRl hRc hRs ih _ _ _ _ h _ _ _ B (lv_sub hl [1, 2, 3] rfl)
set_option maxRecDepth 100000 in
set_option maxHeartbeats 4000000 in
theorem tX6_reach_26 {post : Pool → Prop} (M : MC p m c cX6_reach 4 s args RX6) (hr : meth.sig.returnType = none) (hlk : meth.locks = false) (hRf : 2 ≤ R.frames) (hRl : 48 ≤ R.locals) (hRc : 0 ≤ R.cells) (hRs : 0 ≤ R.slots) : ∀ (v0 : Option Nat) (v1 : Option Nat) (S : Pool), wX6_reach_26 post v0 v1 S → ∀ (H : Heap) (locs : List Loc) (ls : Array Slot), PB D cy A s S H locs → lv_has ls 4 [(0, va_rf v0), (1, va_rf v1)] → W p l e R s m args below meth c H locs 0 0 (MQ below (va_Qv post (PQ D cy A) A) args s 0 0 A) (F0 m 26 ls []) := by
  intro v0 v1 S h H locs ls B hl
  unfold wX6_reach_26 at h
  refine lv_iconst (v := 0) M.1 M.2.1 dX6_reach_26 (by decide) ?_
  refine lv_istore_n (lv' := [(2, .int 0), (0, va_rf v0), (1, va_rf v1)]) M.1 M.2.1 dX6_reach_27 rfl hl (by decide) (fl_e (fl_k rfl rfl (fl_r rfl fl_0))) (fun ls hl => ?_)
  obtain ⟨n1, h⟩ := h
  exact tX6_reach_28 M hr hlk hRf hRl hRc hRs n1 _ _ _ _ h _ _ _ B (lv_sub hl [1, 2, 0] rfl)
set_option maxRecDepth 100000 in
set_option maxHeartbeats 4000000 in
theorem tX6_reach {post : Pool → Prop} (M : MC p m c cX6_reach 4 s args RX6) (hr : meth.sig.returnType = none) (hlk : meth.locks = false) (hRf : 2 ≤ R.frames) (hRl : 48 ≤ R.locals) (hRc : 0 ≤ R.cells) (hRs : 0 ≤ R.slots) : ∀ (v0 : Option Nat) (v1 : Option Nat) (S : Pool), wX6_reach post v0 v1 S → ∀ (H : Heap) (locs : List Loc) (ls : Array Slot), PB D cy A s S H locs → lv_has ls 4 [(0, va_rf v0), (1, va_rf v1)] → W p l e R s m args below meth c H locs 0 0 (MQ below (va_Qv post (PQ D cy A) A) args s 0 0 A) (F0 m 0 ls []) := by
  intro v0 v1 S h H locs ls B hl
  unfold wX6_reach at h
  refine g_aload_n M dX6_reach_0 rfl (lv_at hl 0 rfl) ?_
  refine gfX6_41 M B dX6_reach_1 h (fun a1 h => ?_)
  refine g_aload_n M dX6_reach_4 rfl (lv_at hl 1 rfl) ?_
  refine gfX6_114 M B dX6_reach_5 h (fun a2 h => ?_)
  refine g_iald M B dX6_reach_8 h (fun a3 h => ?_)
  refine lv_iconst (v := (-1)) M.1 M.2.1 dX6_reach_9 (by decide) ?_
  refine lv_icmp_ne (tgt := 26) M.1 M.2.1 dX6_reach_10 (by decide) (fun c4 => ?_) (fun c4 => ?_)
  · have h := h.2 c4
    exact tX6_reach_26 M hr hlk hRf hRl hRc hRs _ _ _ h _ _ _ B (lv_sub hl [0, 1] rfl)
  · have h := h.1 c4
    refine g_aload_n M dX6_reach_13 rfl (lv_at hl 0 rfl) ?_
    refine gfX6_41 M B dX6_reach_14 h (fun a5 h => ?_)
    refine g_aload_n M dX6_reach_17 rfl (lv_at hl 1 rfl) ?_
    refine gfX6_114 M B dX6_reach_18 h (fun a6 h => ?_)
    refine g_aload_n M dX6_reach_21 rfl (lv_at hl 1 rfl) ?_
    refine gfX6_83 M B dX6_reach_22 h (fun a7 h => ?_)
    refine g_iast M B dX6_reach_25 h (fun S8 H locs h B => ?_)
    exact tX6_reach_26 M hr hlk hRf hRl hRc hRs _ _ _ h _ _ _ B (lv_sub hl [0, 1] rfl)
end
set_option maxRecDepth 100000 in
set_option maxHeartbeats 4000000 in
theorem kX6_reach (l : Launch) (D : va_G) (cy : Nat → ClassId) {post : Pool → Prop} {v0 : Option Nat} {v1 : Option Nat} {S : Pool} (h : wX6_reach post v0 v1 S) : MetV l yX6_reach cX6_reach 4 rmX6_reach [va_rf v0, va_rf v1] D cy S post := by
  intro sz
  refine Met.ofW (cc := cX6_reach) (maxL := 4) (ret := none) (by decide) rfl ?_
  intro p e s m args below meth c s₁ B0 hml hv
  obtain ⟨rfl, hpp⟩ := hv
  have hts := atoms_spec (ws := .code yX6_reach cX6_reach 4 none :: Gw) B0.pre
  obtain rfl : s.heap.size = sz := hpp.1
  have hl := lv_entry [va_rf v0, va_rf v1] (n := 4) (by rw [sl_r, sl_r, sl_0]; decide)
  rw [lg_entry_eq]
  rw [la_r, la_r, la_0] at hl
  exact tX6_reach (l := l) (R := rmX6_reach) ⟨B0.exec, B0.bytes, hml, findClass_of_methodNamed B0.named, fun w hw => hts w (List.mem_cons_of_mem _ hw)⟩ B0.returns B0.notSynchronized (Nat.le_refl _) (Nat.le_refl _) (Nat.le_refl _) (Nat.le_refl _) _ _ _ h _ _ _ hpp.pb (lv_sub hl [0, 1] rfl)
-- X6_settleSteps: LogHunt$Sweep.settleSteps(LLogHunt$Act;)V
def wX6_settleSteps_124 (K14 : Option Nat → Option Nat → Int32 → Int32 → Pool → Prop) (post : Pool → Prop) (v0 : Option Nat) (v1 : Option Nat) (v2 : Int32) (v3 : Int32) (S : Pool) : Prop := K14 v0 v1 v2 (v3 + 1) S
def wX6_settleSteps_14 (post : Pool → Prop) : Nat → Option Nat → Option Nat → Int32 → Int32 → Pool → Prop
  | 0 => fun _ _ _ _ _ => False
  | n + 1 => fun v0 v1 v2 v3 S => xR S v0 6 10 fun a1 => xI S a1 3 1 fun a2 => br (a2 ≤ v3) (post S) (xR S v0 6 10 fun a4 => xR S a4 3 0 fun a5 => xaR S a5 14 v3 fun a6 => xI S a6 5 4 fun a7 => br (a7 = 0) (xR S v0 6 2 fun a9 => xI S a6 5 7 fun a10 => xaR S a9 15 a10 fun a11 => xI S v1 0 0 fun a12 => xaI S a11 10 a12 fun a13 => br (a13 = ((-2))) (wX6_settleSteps_124 (wX6_settleSteps_14 post n) post v0 v1 v2 v3 S) (xR S v0 6 4 fun a15 => xI S a6 5 7 fun a16 => xaR S a15 15 a16 fun a17 => xI S v1 0 0 fun a18 => xsI S a17 10 v2 a18 fun S19 => xR S19 v0 6 5 fun a20 => xI S19 a6 5 7 fun a21 => xaR S19 a20 15 a21 fun a22 => xI S19 v1 0 5 fun a23 => xsI S19 a22 10 v2 a23 fun S24 => wX6_settleSteps_124 (wX6_settleSteps_14 post n) post v0 v1 v2 v3 S24)) (xrc S a6 5 (wX5_admits (fun a26 S25 => br (a26 = 0) (wX6_settleSteps_124 (wX6_settleSteps_14 post n) post v0 v1 v2 v3 S25) (xR S25 v0 6 6 fun a28 => xI S25 a6 5 7 fun a29 => xaR S25 a28 15 a29 fun a30 => xI S25 v1 0 5 fun a31 => xsI S25 a30 10 v2 a31 fun S32 => wX6_settleSteps_124 (wX6_settleSteps_14 post n) post v0 v1 v2 v3 S32)) a6 v1 S)))
def wX6_settleSteps (post : Pool → Prop) (v0 : Option Nat) (v1 : Option Nat) (S : Pool) : Prop := xR S v0 6 10 fun a1 => xI S a1 3 3 fun a2 => xrc S v1 0 (wX0_valueIn (fun a4 S3 => ∃ n1, wX6_settleSteps_14 post n1 v0 v1 a4 0 S3) v1 a2 S)
def rmX6_settleSteps : Room := { frames := 1, cells := 0, slots := 0, locals := 21 }
section
variable {p : Program} {l : Launch} {e : Env} {R : Room} {s : State} {m : MethodId} {args : Array Value} {below : List Frame} {meth : Method} {c : Code} {D : va_G} {cy : Nat → ClassId} {A : Nat → Prop}
set_option maxRecDepth 100000 in
set_option maxHeartbeats 4000000 in
theorem tX6_settleSteps_124 {K14 : Option Nat → Option Nat → Int32 → Int32 → Pool → Prop} {post : Pool → Prop} (M : MC p m c cX6_settleSteps 5 s args RX6) (hr : meth.sig.returnType = none) (hlk : meth.locks = false) (hRf : 1 ≤ R.frames) (hRl : 21 ≤ R.locals) (hRc : 0 ≤ R.cells) (hRs : 0 ≤ R.slots) (hK14 : ∀ (v0 : Option Nat) (v1 : Option Nat) (v2 : Int32) (v3 : Int32) (S : Pool), K14 v0 v1 v2 v3 S → ∀ (H : Heap) (locs : List Loc) (ls : Array Slot), PB D cy A s S H locs → lv_has ls 5 [(0, va_rf v0), (1, va_rf v1), (2, .int v2), (3, .int v3)] → W p l e R s m args below meth c H locs 0 0 (MQ below (va_Qv post (PQ D cy A) A) args s 0 0 A) (F0 m 14 ls [])) : ∀ (v0 : Option Nat) (v1 : Option Nat) (v2 : Int32) (v3 : Int32) (S : Pool), wX6_settleSteps_124 K14 post v0 v1 v2 v3 S → ∀ (H : Heap) (locs : List Loc) (ls : Array Slot), PB D cy A s S H locs → lv_has ls 5 [(0, va_rf v0), (1, va_rf v1), (2, .int v2), (3, .int v3)] → W p l e R s m args below meth c H locs 0 0 (MQ below (va_Qv post (PQ D cy A) A) args s 0 0 A) (F0 m 124 ls []) := by
  intro v0 v1 v2 v3 S h H locs ls B hl
  unfold wX6_settleSteps_124 at h
  refine lv_iinc (v := v3 + 1) (lv' := [(3, .int (v3 + 1)), (0, va_rf v0), (1, va_rf v1), (2, .int v2)]) M.1 M.2.1 dX6_settleSteps_124 hl (k := 3) rfl (by rfl) (by decide) (fl_e (fl_k rfl rfl (fl_k rfl rfl (fl_i rfl (fl_d rfl fl_0))))) (fun ls hl => ?_)
  refine lv_goto (tgt := 14) M.1 M.2.1 dX6_settleSteps_127 (by decide) ?_
  exact hK14 _ _ _ _ _ h _ _ _ B (lv_sub hl [1, 2, 3, 0] rfl)
set_option maxRecDepth 100000 in
set_option maxHeartbeats 4000000 in
theorem tX6_settleSteps_14 {post : Pool → Prop} (M : MC p m c cX6_settleSteps 5 s args RX6) (hr : meth.sig.returnType = none) (hlk : meth.locks = false) (hRf : 1 ≤ R.frames) (hRl : 21 ≤ R.locals) (hRc : 0 ≤ R.cells) (hRs : 0 ≤ R.slots) : ∀ (n : Nat) (v0 : Option Nat) (v1 : Option Nat) (v2 : Int32) (v3 : Int32) (S : Pool), wX6_settleSteps_14 post n v0 v1 v2 v3 S → ∀ (H : Heap) (locs : List Loc) (ls : Array Slot), PB D cy A s S H locs → lv_has ls 5 [(0, va_rf v0), (1, va_rf v1), (2, .int v2), (3, .int v3)] → W p l e R s m args below meth c H locs 0 0 (MQ below (va_Qv post (PQ D cy A) A) args s 0 0 A) (F0 m 14 ls []) := by
  intro n
  induction n with
  | zero => intro v0 v1 v2 v3 S h; exact False.elim h
  | succ n ih =>
    intro v0 v1 v2 v3 S h H locs ls B hl
    unfold wX6_settleSteps_14 at h
    refine lv_iload_n M.1 M.2.1 dX6_settleSteps_14 rfl (lv_at hl 3 rfl) ?_
    refine g_aload_n M dX6_settleSteps_15 rfl (lv_at hl 0 rfl) ?_
    refine gfX6_47 M B dX6_settleSteps_16 h (fun a1 h => ?_)
    refine gfX6_117 M B dX6_settleSteps_19 h (fun a2 h => ?_)
    refine lv_icmp_ge (tgt := 130) M.1 M.2.1 dX6_settleSteps_22 (by decide) (fun c3 => ?_) (fun c3 => ?_)
    · have h := h.1 c3
      exact g_vret M B hr hlk h (by decide) (by decide) dX6_settleSteps_130
    · have h := h.2 c3
      refine g_aload_n M dX6_settleSteps_25 rfl (lv_at hl 0 rfl) ?_
      refine gfX6_47 M B dX6_settleSteps_26 h (fun a4 h => ?_)
      refine gfX6_120 M B dX6_settleSteps_29 h (fun a5 h => ?_)
      refine lv_iload_n M.1 M.2.1 dX6_settleSteps_32 rfl (lv_at hl 3 rfl) ?_
      refine g_aald (kd := 14) (t0 := 4) M B ⟨by decide, by decide⟩ rfl dX6_settleSteps_33 h (fun a6 h => ?_)
      refine g_astore (lv' := [(4, va_rf a6), (0, va_rf v0), (1, va_rf v1), (2, .int v2), (3, .int v3)]) M dX6_settleSteps_34 hl (by decide) (fl_e (fl_k rfl rfl (fl_k rfl rfl (fl_k rfl rfl (fl_i rfl fl_0))))) (fun ls hl => ?_)
      refine g_aload M dX6_settleSteps_36 (lv_at hl 0 rfl) ?_
      refine gfX6_124 M B dX6_settleSteps_38 h (fun a7 h => ?_)
      refine lv_if_eq (tgt := 72) M.1 M.2.1 dX6_settleSteps_41 (by decide) (fun c8 => ?_) (fun c8 => ?_)
      · have h := h.1 c8
        refine g_aload_n M dX6_settleSteps_72 rfl (lv_at hl 1 rfl) ?_
        refine gfX6_19 M B dX6_settleSteps_73 h (fun a9 h => ?_)
        refine g_aload M dX6_settleSteps_76 (lv_at hl 0 rfl) ?_
        refine gfX6_130 M B dX6_settleSteps_78 h (fun a10 h => ?_)
        refine g_aaldA M B dX6_settleSteps_81 h (fun a11 h => ?_)
        refine g_aload_n M dX6_settleSteps_82 rfl (lv_at hl 2 rfl) ?_
        refine gfX6_90 M B dX6_settleSteps_83 h (fun a12 h => ?_)
        refine g_iald M B dX6_settleSteps_86 h (fun a13 h => ?_)
        refine lv_bipush (v := (-2)) M.1 M.2.1 dX6_settleSteps_87 (by decide) ?_
        refine lv_icmp_eq (tgt := 124) M.1 M.2.1 dX6_settleSteps_89 (by decide) (fun c14 => ?_) (fun c14 => ?_)
        · have h := h.1 c14
          exact tX6_settleSteps_124 M hr hlk hRf hRl hRc hRs ih _ _ _ _ _ h _ _ _ B (lv_sub hl [1, 2, 3, 4] rfl)
        · have h := h.2 c14
          refine g_aload_n M dX6_settleSteps_92 rfl (lv_at hl 1 rfl) ?_
          refine gfX6_26 M B dX6_settleSteps_93 h (fun a15 h => ?_)
          refine g_aload M dX6_settleSteps_96 (lv_at hl 0 rfl) ?_
          refine gfX6_130 M B dX6_settleSteps_98 h (fun a16 h => ?_)
          refine g_aaldA M B dX6_settleSteps_101 h (fun a17 h => ?_)
          refine lv_iload_n M.1 M.2.1 dX6_settleSteps_102 rfl (lv_at hl 3 rfl) ?_
          refine g_aload_n M dX6_settleSteps_103 rfl (lv_at hl 2 rfl) ?_
          refine gfX6_90 M B dX6_settleSteps_104 h (fun a18 h => ?_)
          refine g_iast M B dX6_settleSteps_107 h (fun S19 H locs h B => ?_)
          refine g_aload_n M dX6_settleSteps_108 rfl (lv_at hl 1 rfl) ?_
          refine gfX6_29 M B dX6_settleSteps_109 h (fun a20 h => ?_)
          refine g_aload M dX6_settleSteps_112 (lv_at hl 0 rfl) ?_
          refine gfX6_130 M B dX6_settleSteps_114 h (fun a21 h => ?_)
          refine g_aaldA M B dX6_settleSteps_117 h (fun a22 h => ?_)
          refine lv_iload_n M.1 M.2.1 dX6_settleSteps_118 rfl (lv_at hl 3 rfl) ?_
          refine g_aload_n M dX6_settleSteps_119 rfl (lv_at hl 2 rfl) ?_
          refine gfX6_83 M B dX6_settleSteps_120 h (fun a23 h => ?_)
          refine g_iast M B dX6_settleSteps_123 h (fun S24 H locs h B => ?_)
          exact tX6_settleSteps_124 M hr hlk hRf hRl hRc hRs ih _ _ _ _ _ h _ _ _ B (lv_sub hl [1, 2, 3, 4] rfl)
      · have h := h.2 c8
        refine g_aload M dX6_settleSteps_44 (lv_at hl 0 rfl) ?_
        refine g_aload_n M dX6_settleSteps_46 rfl (lv_at hl 2 rfl) ?_
        obtain ⟨o1, e1, hL1, hK1, h⟩ := h
        refine g_calli (k1 := 0) (k2 := 0) B (g_runV (n := 1) (As := [va_rf v1]) (rm := rmX5_admits) M B e1 (kX5_admits (v0 := a6) (v1 := v1) l D cy h _) wmX6_137 wiX5_admits wsX5_admits wnX5 wcdX5_admits ⟨rfl, by decide, by decide, by decide +kernel⟩ ⟨Nat.le_trans (by decide) hRf, Nat.le_trans (by decide) hRl⟩ ⟨Nat.le_trans (by decide) hRc, Nat.le_trans (by decide) hRs⟩ hL1 hK1 (by decide) rfl rfl rfl hl.1 rfl ct_0 (by decide) dX6_settleSteps_47) (by decide) (by decide) (fun a26 S25 H locs h B => ?_)
        refine lv_if_eq (tgt := 124) M.1 M.2.1 dX6_settleSteps_50 (by decide) (fun c27 => ?_) (fun c27 => ?_)
        · have h := h.1 c27
          exact tX6_settleSteps_124 M hr hlk hRf hRl hRc hRs ih _ _ _ _ _ h _ _ _ B (lv_sub hl [1, 2, 3, 4] rfl)
        · have h := h.2 c27
          refine g_aload_n M dX6_settleSteps_53 rfl (lv_at hl 1 rfl) ?_
          refine gfX6_32 M B dX6_settleSteps_54 h (fun a28 h => ?_)
          refine g_aload M dX6_settleSteps_57 (lv_at hl 0 rfl) ?_
          refine gfX6_130 M B dX6_settleSteps_59 h (fun a29 h => ?_)
          refine g_aaldA M B dX6_settleSteps_62 h (fun a30 h => ?_)
          refine lv_iload_n M.1 M.2.1 dX6_settleSteps_63 rfl (lv_at hl 3 rfl) ?_
          refine g_aload_n M dX6_settleSteps_64 rfl (lv_at hl 2 rfl) ?_
          refine gfX6_83 M B dX6_settleSteps_65 h (fun a31 h => ?_)
          refine g_iast M B dX6_settleSteps_68 h (fun S32 H locs h B => ?_)
          refine lv_goto (tgt := 124) M.1 M.2.1 dX6_settleSteps_69 (by decide) ?_
          exact tX6_settleSteps_124 M hr hlk hRf hRl hRc hRs ih _ _ _ _ _ h _ _ _ B (lv_sub hl [1, 2, 3, 4] rfl)
set_option maxRecDepth 100000 in
set_option maxHeartbeats 4000000 in
theorem tX6_settleSteps {post : Pool → Prop} (M : MC p m c cX6_settleSteps 5 s args RX6) (hr : meth.sig.returnType = none) (hlk : meth.locks = false) (hRf : 1 ≤ R.frames) (hRl : 21 ≤ R.locals) (hRc : 0 ≤ R.cells) (hRs : 0 ≤ R.slots) : ∀ (v0 : Option Nat) (v1 : Option Nat) (S : Pool), wX6_settleSteps post v0 v1 S → ∀ (H : Heap) (locs : List Loc) (ls : Array Slot), PB D cy A s S H locs → lv_has ls 5 [(0, va_rf v0), (1, va_rf v1)] → W p l e R s m args below meth c H locs 0 0 (MQ below (va_Qv post (PQ D cy A) A) args s 0 0 A) (F0 m 0 ls []) := by
  intro v0 v1 S h H locs ls B hl
  unfold wX6_settleSteps at h
  refine g_aload_n M dX6_settleSteps_0 rfl (lv_at hl 1 rfl) ?_
  refine g_aload_n M dX6_settleSteps_1 rfl (lv_at hl 0 rfl) ?_
  refine gfX6_47 M B dX6_settleSteps_2 h (fun a1 h => ?_)
  refine gfX6_144 M B dX6_settleSteps_5 h (fun a2 h => ?_)
  obtain ⟨o1, e1, hL1, hK1, h⟩ := h
  refine g_calli (k1 := 0) (k2 := 0) B (g_runV (n := 1) (As := [.int a2]) (rm := rmX0_valueIn) M B e1 (kX0_valueIn (v0 := v1) (v1 := a2) l D cy h _) wmX6_147 wiX0_valueIn wsX0_valueIn wnX0 wcdX0_valueIn ⟨rfl, by decide, by decide, by decide +kernel⟩ ⟨Nat.le_trans (by decide) hRf, Nat.le_trans (by decide) hRl⟩ ⟨Nat.le_trans (by decide) hRc, Nat.le_trans (by decide) hRs⟩ hL1 hK1 (by decide) rfl rfl rfl hl.1 rfl ct_0 (by decide) dX6_settleSteps_8) (by decide) (by decide) (fun a4 S3 H locs h B => ?_)
  refine lv_istore_n (lv' := [(2, .int a4), (0, va_rf v0), (1, va_rf v1)]) M.1 M.2.1 dX6_settleSteps_11 rfl hl (by decide) (fl_e (fl_k rfl rfl (fl_r rfl fl_0))) (fun ls hl => ?_)
  refine lv_iconst (v := 0) M.1 M.2.1 dX6_settleSteps_12 (by decide) ?_
  refine lv_istore_n (lv' := [(3, .int 0), (2, .int a4), (0, va_rf v0), (1, va_rf v1)]) M.1 M.2.1 dX6_settleSteps_13 rfl hl (by decide) (fl_e (fl_i rfl (fl_k rfl rfl (fl_k rfl rfl fl_0)))) (fun ls hl => ?_)
  obtain ⟨n1, h⟩ := h
  exact tX6_settleSteps_14 M hr hlk hRf hRl hRc hRs n1 _ _ _ _ _ h _ _ _ B (lv_sub hl [2, 3, 1, 0] rfl)
end
set_option maxRecDepth 100000 in
set_option maxHeartbeats 4000000 in
theorem kX6_settleSteps (l : Launch) (D : va_G) (cy : Nat → ClassId) {post : Pool → Prop} {v0 : Option Nat} {v1 : Option Nat} {S : Pool} (h : wX6_settleSteps post v0 v1 S) : MetV l yX6_settleSteps cX6_settleSteps 5 rmX6_settleSteps [va_rf v0, va_rf v1] D cy S post := by
  intro sz
  refine Met.ofW (cc := cX6_settleSteps) (maxL := 5) (ret := none) (by decide) rfl ?_
  intro p e s m args below meth c s₁ B0 hml hv
  obtain ⟨rfl, hpp⟩ := hv
  have hts := atoms_spec (ws := .code yX6_settleSteps cX6_settleSteps 5 none :: Gw) B0.pre
  obtain rfl : s.heap.size = sz := hpp.1
  have hl := lv_entry [va_rf v0, va_rf v1] (n := 5) (by rw [sl_r, sl_r, sl_0]; decide)
  rw [lg_entry_eq]
  rw [la_r, la_r, la_0] at hl
  exact tX6_settleSteps (l := l) (R := rmX6_settleSteps) ⟨B0.exec, B0.bytes, hml, findClass_of_methodNamed B0.named, fun w hw => hts w (List.mem_cons_of_mem _ hw)⟩ B0.returns B0.notSynchronized (Nat.le_refl _) (Nat.le_refl _) (Nat.le_refl _) (Nat.le_refl _) _ _ _ h _ _ _ hpp.pb (lv_sub hl [0, 1] rfl)
-- X6_isSpread: LogHunt$Sweep.isSpread(II)Z
def wX6_isSpread_49 (K18 : Option Nat → Int32 → Int32 → Int32 → Int32 → Pool → Prop) (post : Int32 → Pool → Prop) (v0 : Option Nat) (v1 : Int32) (v2 : Int32) (v3 : Int32) (v4 : Int32) (S : Pool) : Prop := K18 v0 v1 v2 v3 (v4 + 1) S
def wX6_isSpread_18 (post : Int32 → Pool → Prop) : Nat → Option Nat → Int32 → Int32 → Int32 → Int32 → Pool → Prop
  | 0 => fun _ _ _ _ _ _ => False
  | n + 1 => fun v0 v1 v2 v3 v4 S => br (31 ≤ v4) (xR S v0 6 10 fun a2 => xI S a2 3 5 fun a3 => br (v3 < a3) (((0 : Int32) = 0 ∨ (0 : Int32) = 1) ∧ post (0 : Int32) S) (((1 : Int32) = 0 ∨ (1 : Int32) = 1) ∧ post (1 : Int32) S)) (xR S v0 6 8 fun a5 => xaR S a5 15 v2 fun a6 => xaI S a6 10 v4 fun a7 => xR S v0 6 10 fun a8 => xI S a8 3 6 fun a9 => br (a7 ≤ (v1 - a9)) (wX6_isSpread_49 (wX6_isSpread_18 post n) post v0 v1 v2 v3 v4 S) (wX6_isSpread_49 (wX6_isSpread_18 post n) post v0 v1 v2 (v3 + 1) v4 S))
def wX6_isSpread (post : Int32 → Pool → Prop) (v0 : Option Nat) (v1 : Int32) (v2 : Int32) (S : Pool) : Prop := xR S v0 6 10 fun a1 => xI S a1 3 4 fun a2 => br (a2 = ((-1))) (((1 : Int32) = 0 ∨ (1 : Int32) = 1) ∧ post (1 : Int32) S) (∃ n1, wX6_isSpread_18 post n1 v0 v1 v2 0 0 S)
def rmX6_isSpread : Room := { frames := 0, cells := 0, slots := 0, locals := 0 }
section
variable {p : Program} {l : Launch} {e : Env} {R : Room} {s : State} {m : MethodId} {args : Array Value} {below : List Frame} {meth : Method} {c : Code} {D : va_G} {cy : Nat → ClassId} {A : Nat → Prop}
set_option maxRecDepth 100000 in
set_option maxHeartbeats 4000000 in
theorem tX6_isSpread_49 {K18 : Option Nat → Int32 → Int32 → Int32 → Int32 → Pool → Prop} {post : Int32 → Pool → Prop} (M : MC p m c cX6_isSpread 5 s args RX6) (hr : meth.sig.returnType = (some FieldType.boolean)) (hlk : meth.locks = false) (hRf : 0 ≤ R.frames) (hRl : 0 ≤ R.locals) (hRc : 0 ≤ R.cells) (hRs : 0 ≤ R.slots) (hK18 : ∀ (v0 : Option Nat) (v1 : Int32) (v2 : Int32) (v3 : Int32) (v4 : Int32) (S : Pool), K18 v0 v1 v2 v3 v4 S → ∀ (H : Heap) (locs : List Loc) (ls : Array Slot), PB D cy A s S H locs → lv_has ls 5 [(0, va_rf v0), (1, .int v1), (2, .int v2), (3, .int v3), (4, .int v4)] → W p l e R s m args below meth c H locs 0 0 (MQ below (va_Qi post (PQ D cy A) A) args s 0 0 A) (F0 m 18 ls [])) : ∀ (v0 : Option Nat) (v1 : Int32) (v2 : Int32) (v3 : Int32) (v4 : Int32) (S : Pool), wX6_isSpread_49 K18 post v0 v1 v2 v3 v4 S → ∀ (H : Heap) (locs : List Loc) (ls : Array Slot), PB D cy A s S H locs → lv_has ls 5 [(0, va_rf v0), (1, .int v1), (2, .int v2), (3, .int v3), (4, .int v4)] → W p l e R s m args below meth c H locs 0 0 (MQ below (va_Qi post (PQ D cy A) A) args s 0 0 A) (F0 m 49 ls []) := by
  intro v0 v1 v2 v3 v4 S h H locs ls B hl
  unfold wX6_isSpread_49 at h
  refine lv_iinc (v := v4 + 1) (lv' := [(4, .int (v4 + 1)), (0, va_rf v0), (1, .int v1), (2, .int v2), (3, .int v3)]) M.1 M.2.1 dX6_isSpread_49 hl (k := 4) rfl (by rfl) (by decide) (fl_e (fl_k rfl rfl (fl_k rfl rfl (fl_k rfl rfl (fl_i rfl (fl_d rfl fl_0)))))) (fun ls hl => ?_)
  refine lv_goto (tgt := 18) M.1 M.2.1 dX6_isSpread_52 (by decide) ?_
  exact hK18 _ _ _ _ _ _ h _ _ _ B (lv_sub hl [1, 2, 3, 4, 0] rfl)
set_option maxRecDepth 100000 in
set_option maxHeartbeats 4000000 in
theorem tX6_isSpread_18 {post : Int32 → Pool → Prop} (M : MC p m c cX6_isSpread 5 s args RX6) (hr : meth.sig.returnType = (some FieldType.boolean)) (hlk : meth.locks = false) (hRf : 0 ≤ R.frames) (hRl : 0 ≤ R.locals) (hRc : 0 ≤ R.cells) (hRs : 0 ≤ R.slots) : ∀ (n : Nat) (v0 : Option Nat) (v1 : Int32) (v2 : Int32) (v3 : Int32) (v4 : Int32) (S : Pool), wX6_isSpread_18 post n v0 v1 v2 v3 v4 S → ∀ (H : Heap) (locs : List Loc) (ls : Array Slot), PB D cy A s S H locs → lv_has ls 5 [(0, va_rf v0), (1, .int v1), (2, .int v2), (3, .int v3), (4, .int v4)] → W p l e R s m args below meth c H locs 0 0 (MQ below (va_Qi post (PQ D cy A) A) args s 0 0 A) (F0 m 18 ls []) := by
  intro n
  induction n with
  | zero => intro v0 v1 v2 v3 v4 S h; exact False.elim h
  | succ n ih =>
    intro v0 v1 v2 v3 v4 S h H locs ls B hl
    unfold wX6_isSpread_18 at h
    refine lv_iload M.1 M.2.1 dX6_isSpread_18 (lv_at hl 4 rfl) ?_
    refine lv_bipush (v := 31) M.1 M.2.1 dX6_isSpread_20 (by decide) ?_
    refine lv_icmp_ge (tgt := 55) M.1 M.2.1 dX6_isSpread_22 (by decide) (fun c1 => ?_) (fun c1 => ?_)
    · have h := h.1 c1
      refine lv_iload_n M.1 M.2.1 dX6_isSpread_55 rfl (lv_at hl 3 rfl) ?_
      refine g_aload_n M dX6_isSpread_56 rfl (lv_at hl 0 rfl) ?_
      refine gfX6_47 M B dX6_isSpread_57 h (fun a2 h => ?_)
      refine gfX6_173 M B dX6_isSpread_60 h (fun a3 h => ?_)
      refine lv_icmp_lt (tgt := 70) M.1 M.2.1 dX6_isSpread_63 (by decide) (fun c4 => ?_) (fun c4 => ?_)
      · have h := h.1 c4
        refine lv_iconst (v := 0) M.1 M.2.1 dX6_isSpread_70 (by decide) ?_
        exact g_zret M B hr hlk h (by decide) (by decide) dX6_isSpread_71
      · have h := h.2 c4
        refine lv_iconst (v := 1) M.1 M.2.1 dX6_isSpread_66 (by decide) ?_
        refine lv_goto (tgt := 71) M.1 M.2.1 dX6_isSpread_67 (by decide) ?_
        exact g_zret M B hr hlk h (by decide) (by decide) dX6_isSpread_71
    · have h := h.2 c1
      refine g_aload_n M dX6_isSpread_25 rfl (lv_at hl 0 rfl) ?_
      refine gfX6_38 M B dX6_isSpread_26 h (fun a5 h => ?_)
      refine lv_iload_n M.1 M.2.1 dX6_isSpread_29 rfl (lv_at hl 2 rfl) ?_
      refine g_aaldA M B dX6_isSpread_30 h (fun a6 h => ?_)
      refine lv_iload M.1 M.2.1 dX6_isSpread_31 (lv_at hl 4 rfl) ?_
      refine g_iald M B dX6_isSpread_33 h (fun a7 h => ?_)
      refine lv_iload_n M.1 M.2.1 dX6_isSpread_34 rfl (lv_at hl 1 rfl) ?_
      refine g_aload_n M dX6_isSpread_35 rfl (lv_at hl 0 rfl) ?_
      refine gfX6_47 M B dX6_isSpread_36 h (fun a8 h => ?_)
      refine gfX6_170 M B dX6_isSpread_39 h (fun a9 h => ?_)
      refine lv_isub M.1 M.2.1 dX6_isSpread_42 ?_
      refine lv_icmp_le (tgt := 49) M.1 M.2.1 dX6_isSpread_43 (by decide) (fun c10 => ?_) (fun c10 => ?_)
      · have h := h.1 c10
        exact tX6_isSpread_49 M hr hlk hRf hRl hRc hRs ih _ _ _ _ _ _ h _ _ _ B (lv_sub hl [0, 1, 2, 3, 4] rfl)
      · have h := h.2 c10
        refine lv_iinc (v := v3 + 1) (lv' := [(3, .int (v3 + 1)), (0, va_rf v0), (1, .int v1), (2, .int v2), (4, .int v4)]) M.1 M.2.1 dX6_isSpread_46 hl (k := 3) rfl (by rfl) (by decide) (fl_e (fl_k rfl rfl (fl_k rfl rfl (fl_i rfl (fl_d rfl (fl_k rfl rfl fl_0)))))) (fun ls hl => ?_)
        exact tX6_isSpread_49 M hr hlk hRf hRl hRc hRs ih _ _ _ _ _ _ h _ _ _ B (lv_sub hl [1, 2, 3, 0, 4] rfl)
set_option maxRecDepth 100000 in
set_option maxHeartbeats 4000000 in
theorem tX6_isSpread {post : Int32 → Pool → Prop} (M : MC p m c cX6_isSpread 5 s args RX6) (hr : meth.sig.returnType = (some FieldType.boolean)) (hlk : meth.locks = false) (hRf : 0 ≤ R.frames) (hRl : 0 ≤ R.locals) (hRc : 0 ≤ R.cells) (hRs : 0 ≤ R.slots) : ∀ (v0 : Option Nat) (v1 : Int32) (v2 : Int32) (S : Pool), wX6_isSpread post v0 v1 v2 S → ∀ (H : Heap) (locs : List Loc) (ls : Array Slot), PB D cy A s S H locs → lv_has ls 5 [(0, va_rf v0), (1, .int v1), (2, .int v2)] → W p l e R s m args below meth c H locs 0 0 (MQ below (va_Qi post (PQ D cy A) A) args s 0 0 A) (F0 m 0 ls []) := by
  intro v0 v1 v2 S h H locs ls B hl
  unfold wX6_isSpread at h
  refine g_aload_n M dX6_isSpread_0 rfl (lv_at hl 0 rfl) ?_
  refine gfX6_47 M B dX6_isSpread_1 h (fun a1 h => ?_)
  refine gfX6_110 M B dX6_isSpread_4 h (fun a2 h => ?_)
  refine lv_iconst (v := (-1)) M.1 M.2.1 dX6_isSpread_7 (by decide) ?_
  refine lv_icmp_ne (tgt := 13) M.1 M.2.1 dX6_isSpread_8 (by decide) (fun c3 => ?_) (fun c3 => ?_)
  · have h := h.2 c3
    refine lv_iconst (v := 0) M.1 M.2.1 dX6_isSpread_13 (by decide) ?_
    refine lv_istore_n (lv' := [(3, .int 0), (0, va_rf v0), (1, .int v1), (2, .int v2)]) M.1 M.2.1 dX6_isSpread_14 rfl hl (by decide) (fl_e (fl_k rfl rfl (fl_k rfl rfl (fl_i rfl fl_0)))) (fun ls hl => ?_)
    refine lv_iconst (v := 0) M.1 M.2.1 dX6_isSpread_15 (by decide) ?_
    refine lv_istore (lv' := [(4, .int 0), (3, .int 0), (0, va_rf v0), (1, .int v1), (2, .int v2)]) M.1 M.2.1 dX6_isSpread_16 hl (by decide) (fl_e (fl_i rfl (fl_k rfl rfl (fl_k rfl rfl (fl_k rfl rfl fl_0))))) (fun ls hl => ?_)
    obtain ⟨n1, h⟩ := h
    exact tX6_isSpread_18 M hr hlk hRf hRl hRc hRs n1 _ _ _ _ _ _ h _ _ _ B (lv_sub hl [2, 3, 4, 1, 0] rfl)
  · have h := h.1 c3
    refine lv_iconst (v := 1) M.1 M.2.1 dX6_isSpread_11 (by decide) ?_
    exact g_zret M B hr hlk h (by decide) (by decide) dX6_isSpread_12
end
set_option maxRecDepth 100000 in
set_option maxHeartbeats 4000000 in
theorem kX6_isSpread (l : Launch) (D : va_G) (cy : Nat → ClassId) {post : Int32 → Pool → Prop} {v0 : Option Nat} {v1 : Int32} {v2 : Int32} {S : Pool} (h : wX6_isSpread post v0 v1 v2 S) : MetI l yX6_isSpread cX6_isSpread 5 (some FieldType.boolean) rmX6_isSpread [va_rf v0, .int v1, .int v2] D cy S post := by
  intro sz
  refine Met.ofW (cc := cX6_isSpread) (maxL := 5) (ret := (some FieldType.boolean)) (by decide) rfl ?_
  intro p e s m args below meth c s₁ B0 hml hv
  obtain ⟨rfl, hpp⟩ := hv
  have hts := atoms_spec (ws := .code yX6_isSpread cX6_isSpread 5 (some FieldType.boolean) :: Gw) B0.pre
  obtain rfl : s.heap.size = sz := hpp.1
  have hl := lv_entry [va_rf v0, .int v1, .int v2] (n := 5) (by rw [sl_r, sl_i, sl_i, sl_0]; decide)
  rw [lg_entry_eq]
  rw [la_r, la_i, la_i, la_0] at hl
  exact tX6_isSpread (l := l) (R := rmX6_isSpread) ⟨B0.exec, B0.bytes, hml, findClass_of_methodNamed B0.named, fun w hw => hts w (List.mem_cons_of_mem _ hw)⟩ B0.returns B0.notSynchronized (Nat.le_refl _) (Nat.le_refl _) (Nat.le_refl _) (Nat.le_refl _) _ _ _ _ h _ _ _ hpp.pb (lv_sub hl [0, 1, 2] rfl)
-- X6_settleEnd: LogHunt$Sweep.settleEnd(LLogHunt$Act;)V
def wX6_settleEnd_35 (post : Pool → Prop) (v0 : Option Nat) (v1 : Option Nat) (z0 : Int32) (S : Pool) : Prop := br (z0 = 0) (post S) (xI S v1 0 5 fun a2 => xR S v0 6 10 fun a3 => xI S a3 3 3 fun a4 => xrc S v1 0 (wX0_valueIn (fun a6 S5 => xrc S5 v0 6 (wX6_isSpread (fun a8 S7 => br (a8 = 0) (post S7) (xI S7 v0 6 15 fun a10 => br (250 ≤ a10) (post S7) (xR S7 v0 6 1 fun a12 => xI S7 v0 6 15 fun a13 => xsR S7 a12 12 0 a13 v1 fun S14 => xI S14 v0 6 15 fun a15 => xpI S14 v0 6 15 (a15 + 1) fun S16 => post S16))) v0 a2 a6 S5)) v1 a4 S))
def wX6_settleEnd_34 (post : Pool → Prop) (v0 : Option Nat) (v1 : Option Nat) (S : Pool) : Prop := wX6_settleEnd_35 post v0 v1 0 S
def wX6_settleEnd (post : Pool → Prop) (v0 : Option Nat) (v1 : Option Nat) (S : Pool) : Prop := xR S v0 6 10 fun a1 => xI S a1 3 2 fun a2 => br ((a2 - 1) < 0) (wX6_settleEnd_34 post v0 v1 S) (xR S v0 6 2 fun a4 => xaR S a4 15 (a2 - 1) fun a5 => xI S v1 0 0 fun a6 => xaI S a5 10 a6 fun a7 => br (a7 = ((-2))) (wX6_settleEnd_34 post v0 v1 S) (wX6_settleEnd_35 post v0 v1 1 S))
def rmX6_settleEnd : Room := { frames := 1, cells := 0, slots := 0, locals := 24 }
section
variable {p : Program} {l : Launch} {e : Env} {R : Room} {s : State} {m : MethodId} {args : Array Value} {below : List Frame} {meth : Method} {c : Code} {D : va_G} {cy : Nat → ClassId} {A : Nat → Prop}
set_option maxRecDepth 100000 in
set_option maxHeartbeats 4000000 in
theorem tX6_settleEnd_35 {post : Pool → Prop} (M : MC p m c cX6_settleEnd 4 s args RX6) (hr : meth.sig.returnType = none) (hlk : meth.locks = false) (hRf : 1 ≤ R.frames) (hRl : 24 ≤ R.locals) (hRc : 0 ≤ R.cells) (hRs : 0 ≤ R.slots) : ∀ (v0 : Option Nat) (v1 : Option Nat) (z0 : Int32) (S : Pool), wX6_settleEnd_35 post v0 v1 z0 S → ∀ (H : Heap) (locs : List Loc) (ls : Array Slot), PB D cy A s S H locs → lv_has ls 4 [(0, va_rf v0), (1, va_rf v1)] → W p l e R s m args below meth c H locs 0 0 (MQ below (va_Qv post (PQ D cy A) A) args s 0 0 A) (F0 m 35 ls [.int z0]) := by
  intro v0 v1 z0 S h H locs ls B hl
  unfold wX6_settleEnd_35 at h
  refine lv_istore_n (lv' := [(3, .int z0), (0, va_rf v0), (1, va_rf v1)]) M.1 M.2.1 dX6_settleEnd_35 rfl hl (by decide) (fl_e (fl_k rfl rfl (fl_k rfl rfl fl_0))) (fun ls hl => ?_)
  refine lv_iload_n M.1 M.2.1 dX6_settleEnd_36 rfl (lv_at hl 0 rfl) ?_
  refine lv_if_eq (tgt := 92) M.1 M.2.1 dX6_settleEnd_37 (by decide) (fun c1 => ?_) (fun c1 => ?_)
  · have h := h.1 c1
    exact g_vret M B hr hlk h (by decide) (by decide) dX6_settleEnd_92
  · have h := h.2 c1
    refine g_aload_n M dX6_settleEnd_40 rfl (lv_at hl 1 rfl) ?_
    refine g_aload_n M dX6_settleEnd_41 rfl (lv_at hl 2 rfl) ?_
    refine gfX6_83 M B dX6_settleEnd_42 h (fun a2 h => ?_)
    refine g_aload_n M dX6_settleEnd_45 rfl (lv_at hl 2 rfl) ?_
    refine g_aload_n M dX6_settleEnd_46 rfl (lv_at hl 1 rfl) ?_
    refine gfX6_47 M B dX6_settleEnd_47 h (fun a3 h => ?_)
    refine gfX6_144 M B dX6_settleEnd_50 h (fun a4 h => ?_)
    obtain ⟨o1, e1, hL1, hK1, h⟩ := h
    refine g_calli (k1 := 0) (k2 := 0) B (g_runV (n := 1) (As := [.int a4]) (rm := rmX0_valueIn) M B e1 (kX0_valueIn (v0 := v1) (v1 := a4) l D cy h _) wmX6_147 wiX0_valueIn wsX0_valueIn wnX0 wcdX0_valueIn ⟨rfl, by decide, by decide, by decide +kernel⟩ ⟨Nat.le_trans (by decide) hRf, Nat.le_trans (by decide) hRl⟩ ⟨Nat.le_trans (by decide) hRc, Nat.le_trans (by decide) hRs⟩ hL1 hK1 (by decide) rfl rfl rfl hl.1 rfl (ct_i (ct_r ct_0)) (by decide) dX6_settleEnd_53) (by decide) (by decide) (fun a6 S5 H locs h B => ?_)
    obtain ⟨o1, e1, hL1, hK1, h⟩ := h
    refine g_calli (k1 := 0) (k2 := 0) B (g_runV (n := 2) (As := [.int a2, .int a6]) (rm := rmX6_isSpread) M B e1 (kX6_isSpread (v0 := v0) (v1 := a2) (v2 := a6) l D cy h _) wmX6_166 wiX6_isSpread wsX6_isSpread wnX6 wcdX6_isSpread ⟨rfl, by decide, by decide, by decide +kernel⟩ ⟨Nat.le_trans (by decide) hRf, Nat.le_trans (by decide) hRl⟩ ⟨Nat.le_trans (by decide) hRc, Nat.le_trans (by decide) hRs⟩ hL1 hK1 (by decide) rfl rfl rfl hl.1 rfl ct_0 (by decide) dX6_settleEnd_56) (by decide) (by decide) (fun a8 S7 H locs h B => ?_)
    refine lv_if_eq (tgt := 92) M.1 M.2.1 dX6_settleEnd_59 (by decide) (fun c9 => ?_) (fun c9 => ?_)
    · have h := h.1 c9
      exact g_vret M B hr hlk h (by decide) (by decide) dX6_settleEnd_92
    · have h := h.2 c9
      refine g_aload_n M dX6_settleEnd_62 rfl (lv_at hl 1 rfl) ?_
      refine gfX6_100 M B dX6_settleEnd_63 h (fun a10 h => ?_)
      refine lv_sipush (v := 250) M.1 M.2.1 dX6_settleEnd_66 (by decide) ?_
      refine lv_icmp_ge (tgt := 92) M.1 M.2.1 dX6_settleEnd_69 (by decide) (fun c11 => ?_) (fun c11 => ?_)
      · have h := h.1 c11
        exact g_vret M B hr hlk h (by decide) (by decide) dX6_settleEnd_92
      · have h := h.2 c11
        refine g_aload_n M dX6_settleEnd_72 rfl (lv_at hl 1 rfl) ?_
        refine gfX6_11 M B dX6_settleEnd_73 h (fun a12 h => ?_)
        refine g_aload_n M dX6_settleEnd_76 rfl (lv_at hl 1 rfl) ?_
        refine gfX6_100 M B dX6_settleEnd_77 h (fun a13 h => ?_)
        refine g_aload_n M dX6_settleEnd_80 rfl (lv_at hl 2 rfl) ?_
        refine g_aast (kd := 12) (kv := 0) (t0 := 2) M B ⟨by decide, by decide⟩ (by decide) rfl rfl dX6_settleEnd_81 h (fun S14 H locs h B => ?_)
        refine g_aload_n M dX6_settleEnd_82 rfl (lv_at hl 1 rfl) ?_
        refine lv_dup M.1 M.2.1 dX6_settleEnd_83 (rf_cat _) ?_
        refine gfX6_100 M B dX6_settleEnd_84 h (fun a15 h => ?_)
        refine lv_iconst (v := 1) M.1 M.2.1 dX6_settleEnd_87 (by decide) ?_
        refine lv_iadd M.1 M.2.1 dX6_settleEnd_88 ?_
        refine gpX6_100 M B dX6_settleEnd_89 h (fun S16 H locs h B => ?_)
        exact g_vret M B hr hlk h (by decide) (by decide) dX6_settleEnd_92
set_option maxRecDepth 100000 in
set_option maxHeartbeats 4000000 in
theorem tX6_settleEnd_34 {post : Pool → Prop} (M : MC p m c cX6_settleEnd 4 s args RX6) (hr : meth.sig.returnType = none) (hlk : meth.locks = false) (hRf : 1 ≤ R.frames) (hRl : 24 ≤ R.locals) (hRc : 0 ≤ R.cells) (hRs : 0 ≤ R.slots) : ∀ (v0 : Option Nat) (v1 : Option Nat) (S : Pool), wX6_settleEnd_34 post v0 v1 S → ∀ (H : Heap) (locs : List Loc) (ls : Array Slot), PB D cy A s S H locs → lv_has ls 4 [(0, va_rf v0), (1, va_rf v1)] → W p l e R s m args below meth c H locs 0 0 (MQ below (va_Qv post (PQ D cy A) A) args s 0 0 A) (F0 m 34 ls []) := by
  intro v0 v1 S h H locs ls B hl
  unfold wX6_settleEnd_34 at h
  refine lv_iconst (v := 0) M.1 M.2.1 dX6_settleEnd_34 (by decide) ?_
  exact tX6_settleEnd_35 M hr hlk hRf hRl hRc hRs _ _ _ _ h _ _ _ B (lv_sub hl [0, 1] rfl)
set_option maxRecDepth 100000 in
set_option maxHeartbeats 4000000 in
theorem tX6_settleEnd {post : Pool → Prop} (M : MC p m c cX6_settleEnd 4 s args RX6) (hr : meth.sig.returnType = none) (hlk : meth.locks = false) (hRf : 1 ≤ R.frames) (hRl : 24 ≤ R.locals) (hRc : 0 ≤ R.cells) (hRs : 0 ≤ R.slots) : ∀ (v0 : Option Nat) (v1 : Option Nat) (S : Pool), wX6_settleEnd post v0 v1 S → ∀ (H : Heap) (locs : List Loc) (ls : Array Slot), PB D cy A s S H locs → lv_has ls 4 [(0, va_rf v0), (1, va_rf v1)] → W p l e R s m args below meth c H locs 0 0 (MQ below (va_Qv post (PQ D cy A) A) args s 0 0 A) (F0 m 0 ls []) := by
  intro v0 v1 S h H locs ls B hl
  unfold wX6_settleEnd at h
  refine g_aload_n M dX6_settleEnd_0 rfl (lv_at hl 0 rfl) ?_
  refine gfX6_47 M B dX6_settleEnd_1 h (fun a1 h => ?_)
  refine gfX6_150 M B dX6_settleEnd_4 h (fun a2 h => ?_)
  refine lv_iconst (v := 1) M.1 M.2.1 dX6_settleEnd_7 (by decide) ?_
  refine lv_isub M.1 M.2.1 dX6_settleEnd_8 ?_
  refine lv_istore_n (lv' := [(2, .int (a2 - 1)), (0, va_rf v0), (1, va_rf v1)]) M.1 M.2.1 dX6_settleEnd_9 rfl hl (by decide) (fl_e (fl_k rfl rfl (fl_r rfl fl_0))) (fun ls hl => ?_)
  refine lv_iload_n M.1 M.2.1 dX6_settleEnd_10 rfl (lv_at hl 0 rfl) ?_
  refine lv_if_lt (tgt := 34) M.1 M.2.1 dX6_settleEnd_11 (by decide) (fun c3 => ?_) (fun c3 => ?_)
  · have h := h.1 c3
    exact tX6_settleEnd_34 M hr hlk hRf hRl hRc hRs _ _ _ h _ _ _ B (lv_sub hl [1, 2] rfl)
  · have h := h.2 c3
    refine g_aload_n M dX6_settleEnd_14 rfl (lv_at hl 1 rfl) ?_
    refine gfX6_19 M B dX6_settleEnd_15 h (fun a4 h => ?_)
    refine lv_iload_n M.1 M.2.1 dX6_settleEnd_18 rfl (lv_at hl 0 rfl) ?_
    refine g_aaldA M B dX6_settleEnd_19 h (fun a5 h => ?_)
    refine g_aload_n M dX6_settleEnd_20 rfl (lv_at hl 2 rfl) ?_
    refine gfX6_90 M B dX6_settleEnd_21 h (fun a6 h => ?_)
    refine g_iald M B dX6_settleEnd_24 h (fun a7 h => ?_)
    refine lv_bipush (v := (-2)) M.1 M.2.1 dX6_settleEnd_25 (by decide) ?_
    refine lv_icmp_eq (tgt := 34) M.1 M.2.1 dX6_settleEnd_27 (by decide) (fun c8 => ?_) (fun c8 => ?_)
    · have h := h.1 c8
      exact tX6_settleEnd_34 M hr hlk hRf hRl hRc hRs _ _ _ h _ _ _ B (lv_sub hl [1, 2] rfl)
    · have h := h.2 c8
      refine lv_iconst (v := 1) M.1 M.2.1 dX6_settleEnd_30 (by decide) ?_
      refine lv_goto (tgt := 35) M.1 M.2.1 dX6_settleEnd_31 (by decide) ?_
      exact tX6_settleEnd_35 M hr hlk hRf hRl hRc hRs _ _ _ _ h _ _ _ B (lv_sub hl [1, 2] rfl)
end
set_option maxRecDepth 100000 in
set_option maxHeartbeats 4000000 in
theorem kX6_settleEnd (l : Launch) (D : va_G) (cy : Nat → ClassId) {post : Pool → Prop} {v0 : Option Nat} {v1 : Option Nat} {S : Pool} (h : wX6_settleEnd post v0 v1 S) : MetV l yX6_settleEnd cX6_settleEnd 4 rmX6_settleEnd [va_rf v0, va_rf v1] D cy S post := by
  intro sz
  refine Met.ofW (cc := cX6_settleEnd) (maxL := 4) (ret := none) (by decide) rfl ?_
  intro p e s m args below meth c s₁ B0 hml hv
  obtain ⟨rfl, hpp⟩ := hv
  have hts := atoms_spec (ws := .code yX6_settleEnd cX6_settleEnd 4 none :: Gw) B0.pre
  obtain rfl : s.heap.size = sz := hpp.1
  have hl := lv_entry [va_rf v0, va_rf v1] (n := 4) (by rw [sl_r, sl_r, sl_0]; decide)
  rw [lg_entry_eq]
  rw [la_r, la_r, la_0] at hl
  exact tX6_settleEnd (l := l) (R := rmX6_settleEnd) ⟨B0.exec, B0.bytes, hml, findClass_of_methodNamed B0.named, fun w hw => hts w (List.mem_cons_of_mem _ hw)⟩ B0.returns B0.notSynchronized (Nat.le_refl _) (Nat.le_refl _) (Nat.le_refl _) (Nat.le_refl _) _ _ _ h _ _ _ hpp.pb (lv_sub hl [0, 1] rfl)
-- X6_settle: LogHunt$Sweep.settle(II)V
def wX6_settle_42 (K2 : Option Nat → Int32 → Int32 → Pool → Prop) (post : Pool → Prop) (v0 : Option Nat) (v2 : Int32) (v3 : Int32) (S : Pool) : Prop := K2 v0 v2 (v3 + 1) S
def wX6_settle_2 (post : Pool → Prop) : Nat → Option Nat → Int32 → Int32 → Pool → Prop
  | 0 => fun _ _ _ _ => False
  | n + 1 => fun v0 v2 v3 S => br (v2 ≤ v3) (post S) (xR S v0 6 0 fun a2 => xR S a2 2 1 fun a3 => xaR S a3 12 v3 fun a4 => xI S a4 0 0 fun a5 => xI S v0 6 13 fun a6 => br (a6 ≤ a5) (wX6_settle_42 (wX6_settle_2 post n) post v0 v2 v3 S) (xrc S v0 6 (wX6_settleSteps (fun S8 => xrc S8 v0 6 (wX6_settleEnd (fun S9 => wX6_settle_42 (wX6_settle_2 post n) post v0 v2 v3 S9) v0 a4 S8)) v0 a4 S)))
def wX6_settle (post : Pool → Prop) (v0 : Option Nat) (v1 : Int32) (v2 : Int32) (S : Pool) : Prop := ∃ n1, wX6_settle_2 post n1 v0 v2 v1 S
def rmX6_settle : Room := { frames := 2, cells := 0, slots := 0, locals := 47 }
section
variable {p : Program} {l : Launch} {e : Env} {R : Room} {s : State} {m : MethodId} {args : Array Value} {below : List Frame} {meth : Method} {c : Code} {D : va_G} {cy : Nat → ClassId} {A : Nat → Prop}
set_option maxRecDepth 100000 in
set_option maxHeartbeats 4000000 in
theorem tX6_settle_42 {K2 : Option Nat → Int32 → Int32 → Pool → Prop} {post : Pool → Prop} (M : MC p m c cX6_settle 5 s args RX6) (hr : meth.sig.returnType = none) (hlk : meth.locks = false) (hRf : 2 ≤ R.frames) (hRl : 47 ≤ R.locals) (hRc : 0 ≤ R.cells) (hRs : 0 ≤ R.slots) (hK2 : ∀ (v0 : Option Nat) (v2 : Int32) (v3 : Int32) (S : Pool), K2 v0 v2 v3 S → ∀ (H : Heap) (locs : List Loc) (ls : Array Slot), PB D cy A s S H locs → lv_has ls 5 [(0, va_rf v0), (2, .int v2), (3, .int v3)] → W p l e R s m args below meth c H locs 0 0 (MQ below (va_Qv post (PQ D cy A) A) args s 0 0 A) (F0 m 2 ls [])) : ∀ (v0 : Option Nat) (v2 : Int32) (v3 : Int32) (S : Pool), wX6_settle_42 K2 post v0 v2 v3 S → ∀ (H : Heap) (locs : List Loc) (ls : Array Slot), PB D cy A s S H locs → lv_has ls 5 [(0, va_rf v0), (2, .int v2), (3, .int v3)] → W p l e R s m args below meth c H locs 0 0 (MQ below (va_Qv post (PQ D cy A) A) args s 0 0 A) (F0 m 42 ls []) := by
  intro v0 v2 v3 S h H locs ls B hl
  unfold wX6_settle_42 at h
  refine lv_iinc (v := v3 + 1) (lv' := [(3, .int (v3 + 1)), (0, va_rf v0), (2, .int v2)]) M.1 M.2.1 dX6_settle_42 hl (k := 2) rfl (by rfl) (by decide) (fl_e (fl_k rfl rfl (fl_i rfl (fl_d rfl fl_0)))) (fun ls hl => ?_)
  refine lv_goto (tgt := 2) M.1 M.2.1 dX6_settle_45 (by decide) ?_
  exact hK2 _ _ _ _ h _ _ _ B (lv_sub hl [1, 2, 0] rfl)
set_option maxRecDepth 100000 in
set_option maxHeartbeats 4000000 in
theorem tX6_settle_2 {post : Pool → Prop} (M : MC p m c cX6_settle 5 s args RX6) (hr : meth.sig.returnType = none) (hlk : meth.locks = false) (hRf : 2 ≤ R.frames) (hRl : 47 ≤ R.locals) (hRc : 0 ≤ R.cells) (hRs : 0 ≤ R.slots) : ∀ (n : Nat) (v0 : Option Nat) (v2 : Int32) (v3 : Int32) (S : Pool), wX6_settle_2 post n v0 v2 v3 S → ∀ (H : Heap) (locs : List Loc) (ls : Array Slot), PB D cy A s S H locs → lv_has ls 5 [(0, va_rf v0), (2, .int v2), (3, .int v3)] → W p l e R s m args below meth c H locs 0 0 (MQ below (va_Qv post (PQ D cy A) A) args s 0 0 A) (F0 m 2 ls []) := by
  intro n
  induction n with
  | zero => intro v0 v2 v3 S h; exact False.elim h
  | succ n ih =>
    intro v0 v2 v3 S h H locs ls B hl
    unfold wX6_settle_2 at h
    refine lv_iload_n M.1 M.2.1 dX6_settle_2 rfl (lv_at hl 2 rfl) ?_
    refine lv_iload_n M.1 M.2.1 dX6_settle_3 rfl (lv_at hl 1 rfl) ?_
    refine lv_icmp_ge (tgt := 48) M.1 M.2.1 dX6_settle_4 (by decide) (fun c1 => ?_) (fun c1 => ?_)
    · have h := h.1 c1
      exact g_vret M B hr hlk h (by decide) (by decide) dX6_settle_48
    · have h := h.2 c1
      refine g_aload_n M dX6_settle_7 rfl (lv_at hl 0 rfl) ?_
      refine gfX6_55 M B dX6_settle_8 h (fun a2 h => ?_)
      refine gfX6_80 M B dX6_settle_11 h (fun a3 h => ?_)
      refine lv_iload_n M.1 M.2.1 dX6_settle_14 rfl (lv_at hl 2 rfl) ?_
      refine g_aald (kd := 12) (t0 := 2) M B ⟨by decide, by decide⟩ rfl dX6_settle_15 h (fun a4 h => ?_)
      refine g_astore (lv' := [(4, va_rf a4), (0, va_rf v0), (2, .int v2), (3, .int v3)]) M dX6_settle_16 hl (by decide) (fl_e (fl_k rfl rfl (fl_k rfl rfl (fl_i rfl fl_0)))) (fun ls hl => ?_)
      refine g_aload M dX6_settle_18 (lv_at hl 0 rfl) ?_
      refine gfX6_90 M B dX6_settle_20 h (fun a5 h => ?_)
      refine g_aload_n M dX6_settle_23 rfl (lv_at hl 1 rfl) ?_
      refine gfX6_74 M B dX6_settle_24 h (fun a6 h => ?_)
      refine lv_icmp_ge (tgt := 42) M.1 M.2.1 dX6_settle_27 (by decide) (fun c7 => ?_) (fun c7 => ?_)
      · have h := h.1 c7
        exact tX6_settle_42 M hr hlk hRf hRl hRc hRs ih _ _ _ _ h _ _ _ B (lv_sub hl [1, 2, 3] rfl)
      · have h := h.2 c7
        refine g_aload_n M dX6_settle_30 rfl (lv_at hl 1 rfl) ?_
        refine g_aload M dX6_settle_31 (lv_at hl 0 rfl) ?_
        obtain ⟨o1, e1, hL1, hK1, h⟩ := h
        refine g_callv (k1 := 0) (k2 := 0) B (g_runV (n := 1) (As := [va_rf a4]) (rm := rmX6_settleSteps) M B e1 (kX6_settleSteps (v0 := v0) (v1 := a4) l D cy h _) wmX6_160 wiX6_settleSteps wsX6_settleSteps wnX6 wcdX6_settleSteps ⟨rfl, by decide, by decide, by decide +kernel⟩ ⟨Nat.le_trans (by decide) hRf, Nat.le_trans (by decide) hRl⟩ ⟨Nat.le_trans (by decide) hRc, Nat.le_trans (by decide) hRs⟩ hL1 hK1 (by decide) rfl rfl rfl hl.1 rfl ct_0 (by decide) dX6_settle_33) (by decide) (by decide) (fun S8 H locs h B => ?_)
        refine g_aload_n M dX6_settle_36 rfl (lv_at hl 1 rfl) ?_
        refine g_aload M dX6_settle_37 (lv_at hl 0 rfl) ?_
        obtain ⟨o1, e1, hL1, hK1, h⟩ := h
        refine g_callv (k1 := 0) (k2 := 0) B (g_runV (n := 1) (As := [va_rf a4]) (rm := rmX6_settleEnd) M B e1 (kX6_settleEnd (v0 := v0) (v1 := a4) l D cy h _) wmX6_163 wiX6_settleEnd wsX6_settleEnd wnX6 wcdX6_settleEnd ⟨rfl, by decide, by decide, by decide +kernel⟩ ⟨Nat.le_trans (by decide) hRf, Nat.le_trans (by decide) hRl⟩ ⟨Nat.le_trans (by decide) hRc, Nat.le_trans (by decide) hRs⟩ hL1 hK1 (by decide) rfl rfl rfl hl.1 rfl ct_0 (by decide) dX6_settle_39) (by decide) (by decide) (fun S9 H locs h B => ?_)
        exact tX6_settle_42 M hr hlk hRf hRl hRc hRs ih _ _ _ _ h _ _ _ B (lv_sub hl [1, 2, 3] rfl)
set_option maxRecDepth 100000 in
set_option maxHeartbeats 4000000 in
theorem tX6_settle {post : Pool → Prop} (M : MC p m c cX6_settle 5 s args RX6) (hr : meth.sig.returnType = none) (hlk : meth.locks = false) (hRf : 2 ≤ R.frames) (hRl : 47 ≤ R.locals) (hRc : 0 ≤ R.cells) (hRs : 0 ≤ R.slots) : ∀ (v0 : Option Nat) (v1 : Int32) (v2 : Int32) (S : Pool), wX6_settle post v0 v1 v2 S → ∀ (H : Heap) (locs : List Loc) (ls : Array Slot), PB D cy A s S H locs → lv_has ls 5 [(0, va_rf v0), (1, .int v1), (2, .int v2)] → W p l e R s m args below meth c H locs 0 0 (MQ below (va_Qv post (PQ D cy A) A) args s 0 0 A) (F0 m 0 ls []) := by
  intro v0 v1 v2 S h H locs ls B hl
  unfold wX6_settle at h
  refine lv_iload_n M.1 M.2.1 dX6_settle_0 rfl (lv_at hl 1 rfl) ?_
  refine lv_istore_n (lv' := [(3, .int v1), (0, va_rf v0), (1, .int v1), (2, .int v2)]) M.1 M.2.1 dX6_settle_1 rfl hl (by decide) (fl_e (fl_k rfl rfl (fl_k rfl rfl (fl_i rfl fl_0)))) (fun ls hl => ?_)
  obtain ⟨n1, h⟩ := h
  exact tX6_settle_2 M hr hlk hRf hRl hRc hRs n1 _ _ _ _ h _ _ _ B (lv_sub hl [1, 3, 0] rfl)
end
set_option maxRecDepth 100000 in
set_option maxHeartbeats 4000000 in
theorem kX6_settle (l : Launch) (D : va_G) (cy : Nat → ClassId) {post : Pool → Prop} {v0 : Option Nat} {v1 : Int32} {v2 : Int32} {S : Pool} (h : wX6_settle post v0 v1 v2 S) : MetV l yX6_settle cX6_settle 5 rmX6_settle [va_rf v0, .int v1, .int v2] D cy S post := by
  intro sz
  refine Met.ofW (cc := cX6_settle) (maxL := 5) (ret := none) (by decide) rfl ?_
  intro p e s m args below meth c s₁ B0 hml hv
  obtain ⟨rfl, hpp⟩ := hv
  have hts := atoms_spec (ws := .code yX6_settle cX6_settle 5 none :: Gw) B0.pre
  obtain rfl : s.heap.size = sz := hpp.1
  have hl := lv_entry [va_rf v0, .int v1, .int v2] (n := 5) (by rw [sl_r, sl_i, sl_i, sl_0]; decide)
  rw [lg_entry_eq]
  rw [la_r, la_i, la_i, la_0] at hl
  exact tX6_settle (l := l) (R := rmX6_settle) ⟨B0.exec, B0.bytes, hml, findClass_of_methodNamed B0.named, fun w hw => hts w (List.mem_cons_of_mem _ hw)⟩ B0.returns B0.notSynchronized (Nat.le_refl _) (Nat.le_refl _) (Nat.le_refl _) (Nat.le_refl _) _ _ _ _ h _ _ _ hpp.pb (lv_sub hl [0, 1, 2] rfl)
-- X6_isBehindRow: LogHunt$Sweep.isBehindRow(LLogHunt$Step;)Z
def wX6_isBehindRow (post : Int32 → Pool → Prop) (v0 : Option Nat) (v1 : Option Nat) (S : Pool) : Prop := xI S v1 5 4 fun a1 => br (a1 = 0) (((0 : Int32) = 0 ∨ (0 : Int32) = 1) ∧ post (0 : Int32) S) (xI S v1 5 7 fun a3 => xR S v0 6 10 fun a4 => xI S a4 3 2 fun a5 => br (a3 = a5) (((1 : Int32) = 0 ∨ (1 : Int32) = 1) ∧ post (1 : Int32) S) (((0 : Int32) = 0 ∨ (0 : Int32) = 1) ∧ post (0 : Int32) S))
def rmX6_isBehindRow : Room := { frames := 0, cells := 0, slots := 0, locals := 0 }
section
variable {p : Program} {l : Launch} {e : Env} {R : Room} {s : State} {m : MethodId} {args : Array Value} {below : List Frame} {meth : Method} {c : Code} {D : va_G} {cy : Nat → ClassId} {A : Nat → Prop}
set_option maxRecDepth 100000 in
set_option maxHeartbeats 4000000 in
theorem tX6_isBehindRow {post : Int32 → Pool → Prop} (M : MC p m c cX6_isBehindRow 2 s args RX6) (hr : meth.sig.returnType = (some FieldType.boolean)) (hlk : meth.locks = false) (hRf : 0 ≤ R.frames) (hRl : 0 ≤ R.locals) (hRc : 0 ≤ R.cells) (hRs : 0 ≤ R.slots) : ∀ (v0 : Option Nat) (v1 : Option Nat) (S : Pool), wX6_isBehindRow post v0 v1 S → ∀ (H : Heap) (locs : List Loc) (ls : Array Slot), PB D cy A s S H locs → lv_has ls 2 [(0, va_rf v0), (1, va_rf v1)] → W p l e R s m args below meth c H locs 0 0 (MQ below (va_Qi post (PQ D cy A) A) args s 0 0 A) (F0 m 0 ls []) := by
  intro v0 v1 S h H locs ls B hl
  unfold wX6_isBehindRow at h
  refine g_aload_n M dX6_isBehindRow_0 rfl (lv_at hl 1 rfl) ?_
  refine gfX6_124 M B dX6_isBehindRow_1 h (fun a1 h => ?_)
  refine lv_if_eq (tgt := 25) M.1 M.2.1 dX6_isBehindRow_4 (by decide) (fun c2 => ?_) (fun c2 => ?_)
  · have h := h.1 c2
    refine lv_iconst (v := 0) M.1 M.2.1 dX6_isBehindRow_25 (by decide) ?_
    exact g_zret M B hr hlk h (by decide) (by decide) dX6_isBehindRow_26
  · have h := h.2 c2
    refine g_aload_n M dX6_isBehindRow_7 rfl (lv_at hl 1 rfl) ?_
    refine gfX6_130 M B dX6_isBehindRow_8 h (fun a3 h => ?_)
    refine g_aload_n M dX6_isBehindRow_11 rfl (lv_at hl 0 rfl) ?_
    refine gfX6_47 M B dX6_isBehindRow_12 h (fun a4 h => ?_)
    refine gfX6_150 M B dX6_isBehindRow_15 h (fun a5 h => ?_)
    refine lv_icmp_ne (tgt := 25) M.1 M.2.1 dX6_isBehindRow_18 (by decide) (fun c6 => ?_) (fun c6 => ?_)
    · have h := h.2 c6
      refine lv_iconst (v := 0) M.1 M.2.1 dX6_isBehindRow_25 (by decide) ?_
      exact g_zret M B hr hlk h (by decide) (by decide) dX6_isBehindRow_26
    · have h := h.1 c6
      refine lv_iconst (v := 1) M.1 M.2.1 dX6_isBehindRow_21 (by decide) ?_
      refine lv_goto (tgt := 26) M.1 M.2.1 dX6_isBehindRow_22 (by decide) ?_
      exact g_zret M B hr hlk h (by decide) (by decide) dX6_isBehindRow_26
end
set_option maxRecDepth 100000 in
set_option maxHeartbeats 4000000 in
theorem kX6_isBehindRow (l : Launch) (D : va_G) (cy : Nat → ClassId) {post : Int32 → Pool → Prop} {v0 : Option Nat} {v1 : Option Nat} {S : Pool} (h : wX6_isBehindRow post v0 v1 S) : MetI l yX6_isBehindRow cX6_isBehindRow 2 (some FieldType.boolean) rmX6_isBehindRow [va_rf v0, va_rf v1] D cy S post := by
  intro sz
  refine Met.ofW (cc := cX6_isBehindRow) (maxL := 2) (ret := (some FieldType.boolean)) (by decide) rfl ?_
  intro p e s m args below meth c s₁ B0 hml hv
  obtain ⟨rfl, hpp⟩ := hv
  have hts := atoms_spec (ws := .code yX6_isBehindRow cX6_isBehindRow 2 (some FieldType.boolean) :: Gw) B0.pre
  obtain rfl : s.heap.size = sz := hpp.1
  have hl := lv_entry [va_rf v0, va_rf v1] (n := 2) (by rw [sl_r, sl_r, sl_0]; decide)
  rw [lg_entry_eq]
  rw [la_r, la_r, la_0] at hl
  exact tX6_isBehindRow (l := l) (R := rmX6_isBehindRow) ⟨B0.exec, B0.bytes, hml, findClass_of_methodNamed B0.named, fun w hw => hts w (List.mem_cons_of_mem _ hw)⟩ B0.returns B0.notSynchronized (Nat.le_refl _) (Nat.le_refl _) (Nat.le_refl _) (Nat.le_refl _) _ _ _ h _ _ _ hpp.pb (lv_sub hl [0, 1] rfl)
-- X6_isUndisturbed: LogHunt$Sweep.isUndisturbed(LLogHunt$Act;)Z
def wX6_isUndisturbed_81 (K14 : Option Nat → Option Nat → Int32 → Int32 → Pool → Prop) (post : Int32 → Pool → Prop) (v0 : Option Nat) (v1 : Option Nat) (v2 : Int32) (v3 : Int32) (S : Pool) : Prop := K14 v0 v1 v2 (v3 + 1) S
def wX6_isUndisturbed_14 (post : Int32 → Pool → Prop) : Nat → Option Nat → Option Nat → Int32 → Int32 → Pool → Prop
  | 0 => fun _ _ _ _ _ => False
  | n + 1 => fun v0 v1 v2 v3 S => xR S v0 6 10 fun a1 => xI S a1 3 1 fun a2 => br (a2 ≤ v3) (((1 : Int32) = 0 ∨ (1 : Int32) = 1) ∧ post (1 : Int32) S) (xR S v0 6 10 fun a4 => xR S a4 3 0 fun a5 => xaR S a5 14 v3 fun a6 => xI S v1 0 5 fun a7 => xI S a6 5 6 fun a8 => xrc S v0 6 (wX6_isBehindRow (fun a10 S9 => br (a10 = 0) (wX6_isUndisturbed_81 (wX6_isUndisturbed_14 post n) post v0 v1 v2 v3 S9) (xI S9 v0 6 12 fun a12 => br (a12 < (a7 + a8)) (((0 : Int32) = 0 ∨ (0 : Int32) = 1) ∧ post (0 : Int32) S9) (xR S9 v0 6 7 fun a14 => xaR S9 a14 15 v3 fun a15 => xaI S9 a15 10 v2 fun a16 => br ((a7 + a8) < a16) (wX6_isUndisturbed_81 (wX6_isUndisturbed_14 post n) post v0 v1 v2 v3 S9) (((0 : Int32) = 0 ∨ (0 : Int32) = 1) ∧ post (0 : Int32) S9)))) v0 a6 S))
def wX6_isUndisturbed (post : Int32 → Pool → Prop) (v0 : Option Nat) (v1 : Option Nat) (S : Pool) : Prop := xR S v0 6 10 fun a1 => xI S a1 3 3 fun a2 => xrc S v1 0 (wX0_valueIn (fun a4 S3 => ∃ n1, wX6_isUndisturbed_14 post n1 v0 v1 a4 0 S3) v1 a2 S)
def rmX6_isUndisturbed : Room := { frames := 1, cells := 0, slots := 0, locals := 21 }
section
variable {p : Program} {l : Launch} {e : Env} {R : Room} {s : State} {m : MethodId} {args : Array Value} {below : List Frame} {meth : Method} {c : Code} {D : va_G} {cy : Nat → ClassId} {A : Nat → Prop}
set_option maxRecDepth 100000 in
set_option maxHeartbeats 4000000 in
theorem tX6_isUndisturbed_81 {K14 : Option Nat → Option Nat → Int32 → Int32 → Pool → Prop} {post : Int32 → Pool → Prop} (M : MC p m c cX6_isUndisturbed 6 s args RX6) (hr : meth.sig.returnType = (some FieldType.boolean)) (hlk : meth.locks = false) (hRf : 1 ≤ R.frames) (hRl : 21 ≤ R.locals) (hRc : 0 ≤ R.cells) (hRs : 0 ≤ R.slots) (hK14 : ∀ (v0 : Option Nat) (v1 : Option Nat) (v2 : Int32) (v3 : Int32) (S : Pool), K14 v0 v1 v2 v3 S → ∀ (H : Heap) (locs : List Loc) (ls : Array Slot), PB D cy A s S H locs → lv_has ls 6 [(0, va_rf v0), (1, va_rf v1), (2, .int v2), (3, .int v3)] → W p l e R s m args below meth c H locs 0 0 (MQ below (va_Qi post (PQ D cy A) A) args s 0 0 A) (F0 m 14 ls [])) : ∀ (v0 : Option Nat) (v1 : Option Nat) (v2 : Int32) (v3 : Int32) (S : Pool), wX6_isUndisturbed_81 K14 post v0 v1 v2 v3 S → ∀ (H : Heap) (locs : List Loc) (ls : Array Slot), PB D cy A s S H locs → lv_has ls 6 [(0, va_rf v0), (1, va_rf v1), (2, .int v2), (3, .int v3)] → W p l e R s m args below meth c H locs 0 0 (MQ below (va_Qi post (PQ D cy A) A) args s 0 0 A) (F0 m 81 ls []) := by
  intro v0 v1 v2 v3 S h H locs ls B hl
  unfold wX6_isUndisturbed_81 at h
  refine lv_iinc (v := v3 + 1) (lv' := [(3, .int (v3 + 1)), (0, va_rf v0), (1, va_rf v1), (2, .int v2)]) M.1 M.2.1 dX6_isUndisturbed_81 hl (k := 3) rfl (by rfl) (by decide) (fl_e (fl_k rfl rfl (fl_k rfl rfl (fl_i rfl (fl_d rfl fl_0))))) (fun ls hl => ?_)
  refine lv_goto (tgt := 14) M.1 M.2.1 dX6_isUndisturbed_84 (by decide) ?_
  exact hK14 _ _ _ _ _ h _ _ _ B (lv_sub hl [1, 2, 3, 0] rfl)
set_option maxRecDepth 100000 in
set_option maxHeartbeats 4000000 in
theorem tX6_isUndisturbed_14 {post : Int32 → Pool → Prop} (M : MC p m c cX6_isUndisturbed 6 s args RX6) (hr : meth.sig.returnType = (some FieldType.boolean)) (hlk : meth.locks = false) (hRf : 1 ≤ R.frames) (hRl : 21 ≤ R.locals) (hRc : 0 ≤ R.cells) (hRs : 0 ≤ R.slots) : ∀ (n : Nat) (v0 : Option Nat) (v1 : Option Nat) (v2 : Int32) (v3 : Int32) (S : Pool), wX6_isUndisturbed_14 post n v0 v1 v2 v3 S → ∀ (H : Heap) (locs : List Loc) (ls : Array Slot), PB D cy A s S H locs → lv_has ls 6 [(0, va_rf v0), (1, va_rf v1), (2, .int v2), (3, .int v3)] → W p l e R s m args below meth c H locs 0 0 (MQ below (va_Qi post (PQ D cy A) A) args s 0 0 A) (F0 m 14 ls []) := by
  intro n
  induction n with
  | zero => intro v0 v1 v2 v3 S h; exact False.elim h
  | succ n ih =>
    intro v0 v1 v2 v3 S h H locs ls B hl
    unfold wX6_isUndisturbed_14 at h
    refine lv_iload_n M.1 M.2.1 dX6_isUndisturbed_14 rfl (lv_at hl 3 rfl) ?_
    refine g_aload_n M dX6_isUndisturbed_15 rfl (lv_at hl 0 rfl) ?_
    refine gfX6_47 M B dX6_isUndisturbed_16 h (fun a1 h => ?_)
    refine gfX6_117 M B dX6_isUndisturbed_19 h (fun a2 h => ?_)
    refine lv_icmp_ge (tgt := 87) M.1 M.2.1 dX6_isUndisturbed_22 (by decide) (fun c3 => ?_) (fun c3 => ?_)
    · have h := h.1 c3
      refine lv_iconst (v := 1) M.1 M.2.1 dX6_isUndisturbed_87 (by decide) ?_
      exact g_zret M B hr hlk h (by decide) (by decide) dX6_isUndisturbed_88
    · have h := h.2 c3
      refine g_aload_n M dX6_isUndisturbed_25 rfl (lv_at hl 0 rfl) ?_
      refine gfX6_47 M B dX6_isUndisturbed_26 h (fun a4 h => ?_)
      refine gfX6_120 M B dX6_isUndisturbed_29 h (fun a5 h => ?_)
      refine lv_iload_n M.1 M.2.1 dX6_isUndisturbed_32 rfl (lv_at hl 3 rfl) ?_
      refine g_aald (kd := 14) (t0 := 4) M B ⟨by decide, by decide⟩ rfl dX6_isUndisturbed_33 h (fun a6 h => ?_)
      refine g_astore (lv' := [(4, va_rf a6), (0, va_rf v0), (1, va_rf v1), (2, .int v2), (3, .int v3)]) M dX6_isUndisturbed_34 hl (by decide) (fl_e (fl_k rfl rfl (fl_k rfl rfl (fl_k rfl rfl (fl_i rfl fl_0))))) (fun ls hl => ?_)
      refine g_aload_n M dX6_isUndisturbed_36 rfl (lv_at hl 2 rfl) ?_
      refine gfX6_83 M B dX6_isUndisturbed_37 h (fun a7 h => ?_)
      refine g_aload M dX6_isUndisturbed_40 (lv_at hl 0 rfl) ?_
      refine gfX6_157 M B dX6_isUndisturbed_42 h (fun a8 h => ?_)
      refine lv_iadd M.1 M.2.1 dX6_isUndisturbed_45 ?_
      refine lv_istore (lv' := [(5, .int (a7 + a8)), (4, va_rf a6), (0, va_rf v0), (1, va_rf v1), (2, .int v2), (3, .int v3)]) M.1 M.2.1 dX6_isUndisturbed_46 hl (by decide) (fl_e (fl_r rfl (fl_k rfl rfl (fl_k rfl rfl (fl_k rfl rfl (fl_k rfl rfl fl_0)))))) (fun ls hl => ?_)
      refine g_aload_n M dX6_isUndisturbed_48 rfl (lv_at hl 2 rfl) ?_
      refine g_aload M dX6_isUndisturbed_49 (lv_at hl 1 rfl) ?_
      obtain ⟨o1, e1, hL1, hK1, h⟩ := h
      refine g_calli (k1 := 0) (k2 := 0) B (g_runV (n := 1) (As := [va_rf a6]) (rm := rmX6_isBehindRow) M B e1 (kX6_isBehindRow (v0 := v0) (v1 := a6) l D cy h _) wmX6_182 wiX6_isBehindRow wsX6_isBehindRow wnX6 wcdX6_isBehindRow ⟨rfl, by decide, by decide, by decide +kernel⟩ ⟨Nat.le_trans (by decide) hRf, Nat.le_trans (by decide) hRl⟩ ⟨Nat.le_trans (by decide) hRc, Nat.le_trans (by decide) hRs⟩ hL1 hK1 (by decide) rfl rfl rfl hl.1 rfl ct_0 (by decide) dX6_isUndisturbed_51) (by decide) (by decide) (fun a10 S9 H locs h B => ?_)
      refine lv_if_eq (tgt := 81) M.1 M.2.1 dX6_isUndisturbed_54 (by decide) (fun c11 => ?_) (fun c11 => ?_)
      · have h := h.1 c11
        exact tX6_isUndisturbed_81 M hr hlk hRf hRl hRc hRs ih _ _ _ _ _ h _ _ _ B (lv_sub hl [2, 3, 4, 5] rfl)
      · have h := h.2 c11
        refine g_aload_n M dX6_isUndisturbed_57 rfl (lv_at hl 2 rfl) ?_
        refine gfX6_59 M B dX6_isUndisturbed_58 h (fun a12 h => ?_)
        refine lv_iload M.1 M.2.1 dX6_isUndisturbed_61 (lv_at hl 0 rfl) ?_
        refine lv_icmp_lt (tgt := 79) M.1 M.2.1 dX6_isUndisturbed_63 (by decide) (fun c13 => ?_) (fun c13 => ?_)
        · have h := h.1 c13
          refine lv_iconst (v := 0) M.1 M.2.1 dX6_isUndisturbed_79 (by decide) ?_
          exact g_zret M B hr hlk h (by decide) (by decide) dX6_isUndisturbed_80
        · have h := h.2 c13
          refine g_aload_n M dX6_isUndisturbed_66 rfl (lv_at hl 2 rfl) ?_
          refine gfX6_35 M B dX6_isUndisturbed_67 h (fun a14 h => ?_)
          refine lv_iload_n M.1 M.2.1 dX6_isUndisturbed_70 rfl (lv_at hl 5 rfl) ?_
          refine g_aaldA M B dX6_isUndisturbed_71 h (fun a15 h => ?_)
          refine lv_iload_n M.1 M.2.1 dX6_isUndisturbed_72 rfl (lv_at hl 4 rfl) ?_
          refine g_iald M B dX6_isUndisturbed_73 h (fun a16 h => ?_)
          refine lv_iload M.1 M.2.1 dX6_isUndisturbed_74 (lv_at hl 0 rfl) ?_
          refine lv_icmp_gt (tgt := 81) M.1 M.2.1 dX6_isUndisturbed_76 (by decide) (fun c17 => ?_) (fun c17 => ?_)
          · have h := h.1 c17
            exact tX6_isUndisturbed_81 M hr hlk hRf hRl hRc hRs ih _ _ _ _ _ h _ _ _ B (lv_sub hl [2, 3, 4, 5] rfl)
          · have h := h.2 c17
            refine lv_iconst (v := 0) M.1 M.2.1 dX6_isUndisturbed_79 (by decide) ?_
            exact g_zret M B hr hlk h (by decide) (by decide) dX6_isUndisturbed_80
set_option maxRecDepth 100000 in
set_option maxHeartbeats 4000000 in
theorem tX6_isUndisturbed {post : Int32 → Pool → Prop} (M : MC p m c cX6_isUndisturbed 6 s args RX6) (hr : meth.sig.returnType = (some FieldType.boolean)) (hlk : meth.locks = false) (hRf : 1 ≤ R.frames) (hRl : 21 ≤ R.locals) (hRc : 0 ≤ R.cells) (hRs : 0 ≤ R.slots) : ∀ (v0 : Option Nat) (v1 : Option Nat) (S : Pool), wX6_isUndisturbed post v0 v1 S → ∀ (H : Heap) (locs : List Loc) (ls : Array Slot), PB D cy A s S H locs → lv_has ls 6 [(0, va_rf v0), (1, va_rf v1)] → W p l e R s m args below meth c H locs 0 0 (MQ below (va_Qi post (PQ D cy A) A) args s 0 0 A) (F0 m 0 ls []) := by
  intro v0 v1 S h H locs ls B hl
  unfold wX6_isUndisturbed at h
  refine g_aload_n M dX6_isUndisturbed_0 rfl (lv_at hl 1 rfl) ?_
  refine g_aload_n M dX6_isUndisturbed_1 rfl (lv_at hl 0 rfl) ?_
  refine gfX6_47 M B dX6_isUndisturbed_2 h (fun a1 h => ?_)
  refine gfX6_144 M B dX6_isUndisturbed_5 h (fun a2 h => ?_)
  obtain ⟨o1, e1, hL1, hK1, h⟩ := h
  refine g_calli (k1 := 0) (k2 := 0) B (g_runV (n := 1) (As := [.int a2]) (rm := rmX0_valueIn) M B e1 (kX0_valueIn (v0 := v1) (v1 := a2) l D cy h _) wmX6_147 wiX0_valueIn wsX0_valueIn wnX0 wcdX0_valueIn ⟨rfl, by decide, by decide, by decide +kernel⟩ ⟨Nat.le_trans (by decide) hRf, Nat.le_trans (by decide) hRl⟩ ⟨Nat.le_trans (by decide) hRc, Nat.le_trans (by decide) hRs⟩ hL1 hK1 (by decide) rfl rfl rfl hl.1 rfl ct_0 (by decide) dX6_isUndisturbed_8) (by decide) (by decide) (fun a4 S3 H locs h B => ?_)
  refine lv_istore_n (lv' := [(2, .int a4), (0, va_rf v0), (1, va_rf v1)]) M.1 M.2.1 dX6_isUndisturbed_11 rfl hl (by decide) (fl_e (fl_k rfl rfl (fl_r rfl fl_0))) (fun ls hl => ?_)
  refine lv_iconst (v := 0) M.1 M.2.1 dX6_isUndisturbed_12 (by decide) ?_
  refine lv_istore_n (lv' := [(3, .int 0), (2, .int a4), (0, va_rf v0), (1, va_rf v1)]) M.1 M.2.1 dX6_isUndisturbed_13 rfl hl (by decide) (fl_e (fl_i rfl (fl_k rfl rfl (fl_k rfl rfl fl_0)))) (fun ls hl => ?_)
  obtain ⟨n1, h⟩ := h
  exact tX6_isUndisturbed_14 M hr hlk hRf hRl hRc hRs n1 _ _ _ _ _ h _ _ _ B (lv_sub hl [2, 3, 1, 0] rfl)
end
set_option maxRecDepth 100000 in
set_option maxHeartbeats 4000000 in
theorem kX6_isUndisturbed (l : Launch) (D : va_G) (cy : Nat → ClassId) {post : Int32 → Pool → Prop} {v0 : Option Nat} {v1 : Option Nat} {S : Pool} (h : wX6_isUndisturbed post v0 v1 S) : MetI l yX6_isUndisturbed cX6_isUndisturbed 6 (some FieldType.boolean) rmX6_isUndisturbed [va_rf v0, va_rf v1] D cy S post := by
  intro sz
  refine Met.ofW (cc := cX6_isUndisturbed) (maxL := 6) (ret := (some FieldType.boolean)) (by decide) rfl ?_
  intro p e s m args below meth c s₁ B0 hml hv
  obtain ⟨rfl, hpp⟩ := hv
  have hts := atoms_spec (ws := .code yX6_isUndisturbed cX6_isUndisturbed 6 (some FieldType.boolean) :: Gw) B0.pre
  obtain rfl : s.heap.size = sz := hpp.1
  have hl := lv_entry [va_rf v0, va_rf v1] (n := 6) (by rw [sl_r, sl_r, sl_0]; decide)
  rw [lg_entry_eq]
  rw [la_r, la_r, la_0] at hl
  exact tX6_isUndisturbed (l := l) (R := rmX6_isUndisturbed) ⟨B0.exec, B0.bytes, hml, findClass_of_methodNamed B0.named, fun w hw => hts w (List.mem_cons_of_mem _ hw)⟩ B0.returns B0.notSynchronized (Nat.le_refl _) (Nat.le_refl _) (Nat.le_refl _) (Nat.le_refl _) _ _ _ h _ _ _ hpp.pb (lv_sub hl [0, 1] rfl)
-- X6_noteNot: LogHunt$Sweep.noteNot(LLogHunt$Act;)V
def wX6_noteNot_66 (K14 : Option Nat → Option Nat → Int32 → Int32 → Pool → Prop) (post : Pool → Prop) (v0 : Option Nat) (v1 : Option Nat) (v2 : Int32) (v3 : Int32) (S : Pool) : Prop := K14 v0 v1 v2 (v3 + 1) S
def wX6_noteNot_14 (post : Pool → Prop) : Nat → Option Nat → Option Nat → Int32 → Int32 → Pool → Prop
  | 0 => fun _ _ _ _ _ => False
  | n + 1 => fun v0 v1 v2 v3 S => xR S v0 6 10 fun a1 => xI S a1 3 1 fun a2 => br (a2 ≤ v3) (post S) (xR S v0 6 10 fun a4 => xR S a4 3 0 fun a5 => xaR S a5 14 v3 fun a6 => xrc S v0 6 (wX6_isBehindRow (fun a8 S7 => br (a8 = 0) (wX6_noteNot_66 (wX6_noteNot_14 post n) post v0 v1 v2 v3 S7) (xrc S7 a6 5 (wX5_admits (fun a11 S10 => br (a11 = 0) (wX6_noteNot_66 (wX6_noteNot_14 post n) post v0 v1 v2 v3 S10) (xR S10 v0 6 7 fun a13 => xaR S10 a13 15 v3 fun a14 => xI S10 v1 0 5 fun a15 => xsI S10 a14 10 v2 a15 fun S16 => wX6_noteNot_66 (wX6_noteNot_14 post n) post v0 v1 v2 v3 S16)) a6 v1 S7))) v0 a6 S))
def wX6_noteNot (post : Pool → Prop) (v0 : Option Nat) (v1 : Option Nat) (S : Pool) : Prop := xR S v0 6 10 fun a1 => xI S a1 3 3 fun a2 => xrc S v1 0 (wX0_valueIn (fun a4 S3 => ∃ n1, wX6_noteNot_14 post n1 v0 v1 a4 0 S3) v1 a2 S)
def rmX6_noteNot : Room := { frames := 1, cells := 0, slots := 0, locals := 21 }
section
variable {p : Program} {l : Launch} {e : Env} {R : Room} {s : State} {m : MethodId} {args : Array Value} {below : List Frame} {meth : Method} {c : Code} {D : va_G} {cy : Nat → ClassId} {A : Nat → Prop}
set_option maxRecDepth 100000 in
set_option maxHeartbeats 4000000 in
theorem tX6_noteNot_66 {K14 : Option Nat → Option Nat → Int32 → Int32 → Pool → Prop} {post : Pool → Prop} (M : MC p m c cX6_noteNot 5 s args RX6) (hr : meth.sig.returnType = none) (hlk : meth.locks = false) (hRf : 1 ≤ R.frames) (hRl : 21 ≤ R.locals) (hRc : 0 ≤ R.cells) (hRs : 0 ≤ R.slots) (hK14 : ∀ (v0 : Option Nat) (v1 : Option Nat) (v2 : Int32) (v3 : Int32) (S : Pool), K14 v0 v1 v2 v3 S → ∀ (H : Heap) (locs : List Loc) (ls : Array Slot), PB D cy A s S H locs → lv_has ls 5 [(0, va_rf v0), (1, va_rf v1), (2, .int v2), (3, .int v3)] → W p l e R s m args below meth c H locs 0 0 (MQ below (va_Qv post (PQ D cy A) A) args s 0 0 A) (F0 m 14 ls [])) : ∀ (v0 : Option Nat) (v1 : Option Nat) (v2 : Int32) (v3 : Int32) (S : Pool), wX6_noteNot_66 K14 post v0 v1 v2 v3 S → ∀ (H : Heap) (locs : List Loc) (ls : Array Slot), PB D cy A s S H locs → lv_has ls 5 [(0, va_rf v0), (1, va_rf v1), (2, .int v2), (3, .int v3)] → W p l e R s m args below meth c H locs 0 0 (MQ below (va_Qv post (PQ D cy A) A) args s 0 0 A) (F0 m 66 ls []) := by
  intro v0 v1 v2 v3 S h H locs ls B hl
  unfold wX6_noteNot_66 at h
  refine lv_iinc (v := v3 + 1) (lv' := [(3, .int (v3 + 1)), (0, va_rf v0), (1, va_rf v1), (2, .int v2)]) M.1 M.2.1 dX6_noteNot_66 hl (k := 3) rfl (by rfl) (by decide) (fl_e (fl_k rfl rfl (fl_k rfl rfl (fl_i rfl (fl_d rfl fl_0))))) (fun ls hl => ?_)
  refine lv_goto (tgt := 14) M.1 M.2.1 dX6_noteNot_69 (by decide) ?_
  exact hK14 _ _ _ _ _ h _ _ _ B (lv_sub hl [1, 2, 3, 0] rfl)
set_option maxRecDepth 100000 in
set_option maxHeartbeats 4000000 in
theorem tX6_noteNot_14 {post : Pool → Prop} (M : MC p m c cX6_noteNot 5 s args RX6) (hr : meth.sig.returnType = none) (hlk : meth.locks = false) (hRf : 1 ≤ R.frames) (hRl : 21 ≤ R.locals) (hRc : 0 ≤ R.cells) (hRs : 0 ≤ R.slots) : ∀ (n : Nat) (v0 : Option Nat) (v1 : Option Nat) (v2 : Int32) (v3 : Int32) (S : Pool), wX6_noteNot_14 post n v0 v1 v2 v3 S → ∀ (H : Heap) (locs : List Loc) (ls : Array Slot), PB D cy A s S H locs → lv_has ls 5 [(0, va_rf v0), (1, va_rf v1), (2, .int v2), (3, .int v3)] → W p l e R s m args below meth c H locs 0 0 (MQ below (va_Qv post (PQ D cy A) A) args s 0 0 A) (F0 m 14 ls []) := by
  intro n
  induction n with
  | zero => intro v0 v1 v2 v3 S h; exact False.elim h
  | succ n ih =>
    intro v0 v1 v2 v3 S h H locs ls B hl
    unfold wX6_noteNot_14 at h
    refine lv_iload_n M.1 M.2.1 dX6_noteNot_14 rfl (lv_at hl 3 rfl) ?_
    refine g_aload_n M dX6_noteNot_15 rfl (lv_at hl 0 rfl) ?_
    refine gfX6_47 M B dX6_noteNot_16 h (fun a1 h => ?_)
    refine gfX6_117 M B dX6_noteNot_19 h (fun a2 h => ?_)
    refine lv_icmp_ge (tgt := 72) M.1 M.2.1 dX6_noteNot_22 (by decide) (fun c3 => ?_) (fun c3 => ?_)
    · have h := h.1 c3
      exact g_vret M B hr hlk h (by decide) (by decide) dX6_noteNot_72
    · have h := h.2 c3
      refine g_aload_n M dX6_noteNot_25 rfl (lv_at hl 0 rfl) ?_
      refine gfX6_47 M B dX6_noteNot_26 h (fun a4 h => ?_)
      refine gfX6_120 M B dX6_noteNot_29 h (fun a5 h => ?_)
      refine lv_iload_n M.1 M.2.1 dX6_noteNot_32 rfl (lv_at hl 3 rfl) ?_
      refine g_aald (kd := 14) (t0 := 4) M B ⟨by decide, by decide⟩ rfl dX6_noteNot_33 h (fun a6 h => ?_)
      refine g_astore (lv' := [(4, va_rf a6), (0, va_rf v0), (1, va_rf v1), (2, .int v2), (3, .int v3)]) M dX6_noteNot_34 hl (by decide) (fl_e (fl_k rfl rfl (fl_k rfl rfl (fl_k rfl rfl (fl_i rfl fl_0))))) (fun ls hl => ?_)
      refine g_aload_n M dX6_noteNot_36 rfl (lv_at hl 1 rfl) ?_
      refine g_aload M dX6_noteNot_37 (lv_at hl 0 rfl) ?_
      obtain ⟨o1, e1, hL1, hK1, h⟩ := h
      refine g_calli (k1 := 0) (k2 := 0) B (g_runV (n := 1) (As := [va_rf a6]) (rm := rmX6_isBehindRow) M B e1 (kX6_isBehindRow (v0 := v0) (v1 := a6) l D cy h _) wmX6_182 wiX6_isBehindRow wsX6_isBehindRow wnX6 wcdX6_isBehindRow ⟨rfl, by decide, by decide, by decide +kernel⟩ ⟨Nat.le_trans (by decide) hRf, Nat.le_trans (by decide) hRl⟩ ⟨Nat.le_trans (by decide) hRc, Nat.le_trans (by decide) hRs⟩ hL1 hK1 (by decide) rfl rfl rfl hl.1 rfl ct_0 (by decide) dX6_noteNot_39) (by decide) (by decide) (fun a8 S7 H locs h B => ?_)
      refine lv_if_eq (tgt := 66) M.1 M.2.1 dX6_noteNot_42 (by decide) (fun c9 => ?_) (fun c9 => ?_)
      · have h := h.1 c9
        exact tX6_noteNot_66 M hr hlk hRf hRl hRc hRs ih _ _ _ _ _ h _ _ _ B (lv_sub hl [1, 2, 3, 4] rfl)
      · have h := h.2 c9
        refine g_aload M dX6_noteNot_45 (lv_at hl 0 rfl) ?_
        refine g_aload_n M dX6_noteNot_47 rfl (lv_at hl 2 rfl) ?_
        obtain ⟨o1, e1, hL1, hK1, h⟩ := h
        refine g_calli (k1 := 0) (k2 := 0) B (g_runV (n := 1) (As := [va_rf v1]) (rm := rmX5_admits) M B e1 (kX5_admits (v0 := a6) (v1 := v1) l D cy h _) wmX6_137 wiX5_admits wsX5_admits wnX5 wcdX5_admits ⟨rfl, by decide, by decide, by decide +kernel⟩ ⟨Nat.le_trans (by decide) hRf, Nat.le_trans (by decide) hRl⟩ ⟨Nat.le_trans (by decide) hRc, Nat.le_trans (by decide) hRs⟩ hL1 hK1 (by decide) rfl rfl rfl hl.1 rfl ct_0 (by decide) dX6_noteNot_48) (by decide) (by decide) (fun a11 S10 H locs h B => ?_)
        refine lv_if_eq (tgt := 66) M.1 M.2.1 dX6_noteNot_51 (by decide) (fun c12 => ?_) (fun c12 => ?_)
        · have h := h.1 c12
          exact tX6_noteNot_66 M hr hlk hRf hRl hRc hRs ih _ _ _ _ _ h _ _ _ B (lv_sub hl [1, 2, 3, 4] rfl)
        · have h := h.2 c12
          refine g_aload_n M dX6_noteNot_54 rfl (lv_at hl 1 rfl) ?_
          refine gfX6_35 M B dX6_noteNot_55 h (fun a13 h => ?_)
          refine lv_iload_n M.1 M.2.1 dX6_noteNot_58 rfl (lv_at hl 4 rfl) ?_
          refine g_aaldA M B dX6_noteNot_59 h (fun a14 h => ?_)
          refine lv_iload_n M.1 M.2.1 dX6_noteNot_60 rfl (lv_at hl 3 rfl) ?_
          refine g_aload_n M dX6_noteNot_61 rfl (lv_at hl 2 rfl) ?_
          refine gfX6_83 M B dX6_noteNot_62 h (fun a15 h => ?_)
          refine g_iast M B dX6_noteNot_65 h (fun S16 H locs h B => ?_)
          exact tX6_noteNot_66 M hr hlk hRf hRl hRc hRs ih _ _ _ _ _ h _ _ _ B (lv_sub hl [1, 2, 3, 4] rfl)
set_option maxRecDepth 100000 in
set_option maxHeartbeats 4000000 in
theorem tX6_noteNot {post : Pool → Prop} (M : MC p m c cX6_noteNot 5 s args RX6) (hr : meth.sig.returnType = none) (hlk : meth.locks = false) (hRf : 1 ≤ R.frames) (hRl : 21 ≤ R.locals) (hRc : 0 ≤ R.cells) (hRs : 0 ≤ R.slots) : ∀ (v0 : Option Nat) (v1 : Option Nat) (S : Pool), wX6_noteNot post v0 v1 S → ∀ (H : Heap) (locs : List Loc) (ls : Array Slot), PB D cy A s S H locs → lv_has ls 5 [(0, va_rf v0), (1, va_rf v1)] → W p l e R s m args below meth c H locs 0 0 (MQ below (va_Qv post (PQ D cy A) A) args s 0 0 A) (F0 m 0 ls []) := by
  intro v0 v1 S h H locs ls B hl
  unfold wX6_noteNot at h
  refine g_aload_n M dX6_noteNot_0 rfl (lv_at hl 1 rfl) ?_
  refine g_aload_n M dX6_noteNot_1 rfl (lv_at hl 0 rfl) ?_
  refine gfX6_47 M B dX6_noteNot_2 h (fun a1 h => ?_)
  refine gfX6_144 M B dX6_noteNot_5 h (fun a2 h => ?_)
  obtain ⟨o1, e1, hL1, hK1, h⟩ := h
  refine g_calli (k1 := 0) (k2 := 0) B (g_runV (n := 1) (As := [.int a2]) (rm := rmX0_valueIn) M B e1 (kX0_valueIn (v0 := v1) (v1 := a2) l D cy h _) wmX6_147 wiX0_valueIn wsX0_valueIn wnX0 wcdX0_valueIn ⟨rfl, by decide, by decide, by decide +kernel⟩ ⟨Nat.le_trans (by decide) hRf, Nat.le_trans (by decide) hRl⟩ ⟨Nat.le_trans (by decide) hRc, Nat.le_trans (by decide) hRs⟩ hL1 hK1 (by decide) rfl rfl rfl hl.1 rfl ct_0 (by decide) dX6_noteNot_8) (by decide) (by decide) (fun a4 S3 H locs h B => ?_)
  refine lv_istore_n (lv' := [(2, .int a4), (0, va_rf v0), (1, va_rf v1)]) M.1 M.2.1 dX6_noteNot_11 rfl hl (by decide) (fl_e (fl_k rfl rfl (fl_r rfl fl_0))) (fun ls hl => ?_)
  refine lv_iconst (v := 0) M.1 M.2.1 dX6_noteNot_12 (by decide) ?_
  refine lv_istore_n (lv' := [(3, .int 0), (2, .int a4), (0, va_rf v0), (1, va_rf v1)]) M.1 M.2.1 dX6_noteNot_13 rfl hl (by decide) (fl_e (fl_i rfl (fl_k rfl rfl (fl_k rfl rfl fl_0)))) (fun ls hl => ?_)
  obtain ⟨n1, h⟩ := h
  exact tX6_noteNot_14 M hr hlk hRf hRl hRc hRs n1 _ _ _ _ _ h _ _ _ B (lv_sub hl [2, 3, 1, 0] rfl)
end
set_option maxRecDepth 100000 in
set_option maxHeartbeats 4000000 in
theorem kX6_noteNot (l : Launch) (D : va_G) (cy : Nat → ClassId) {post : Pool → Prop} {v0 : Option Nat} {v1 : Option Nat} {S : Pool} (h : wX6_noteNot post v0 v1 S) : MetV l yX6_noteNot cX6_noteNot 5 rmX6_noteNot [va_rf v0, va_rf v1] D cy S post := by
  intro sz
  refine Met.ofW (cc := cX6_noteNot) (maxL := 5) (ret := none) (by decide) rfl ?_
  intro p e s m args below meth c s₁ B0 hml hv
  obtain ⟨rfl, hpp⟩ := hv
  have hts := atoms_spec (ws := .code yX6_noteNot cX6_noteNot 5 none :: Gw) B0.pre
  obtain rfl : s.heap.size = sz := hpp.1
  have hl := lv_entry [va_rf v0, va_rf v1] (n := 5) (by rw [sl_r, sl_r, sl_0]; decide)
  rw [lg_entry_eq]
  rw [la_r, la_r, la_0] at hl
  exact tX6_noteNot (l := l) (R := rmX6_noteNot) ⟨B0.exec, B0.bytes, hml, findClass_of_methodNamed B0.named, fun w hw => hts w (List.mem_cons_of_mem _ hw)⟩ B0.returns B0.notSynchronized (Nat.le_refl _) (Nat.le_refl _) (Nat.le_refl _) (Nat.le_refl _) _ _ _ h _ _ _ hpp.pb (lv_sub hl [0, 1] rfl)
-- X6_dropDisturbed: LogHunt$Sweep.dropDisturbed()V
def wX6_dropDisturbed_156 (post : Pool → Prop) : Nat → Option Nat → Int32 → Int32 → Pool → Prop
  | 0 => fun _ _ _ _ => False
  | n + 1 => fun v0 v3 v4 S => xI S v0 6 15 fun a1 => br (a1 ≤ v4) (xI S v0 6 15 fun a3 => xpI S v0 6 15 (a3 - v3) fun S4 => post S4) (xR S v0 6 1 fun a5 => xR S v0 6 1 fun a6 => xaR S a6 12 v4 fun a7 => xsR S a5 12 0 (v4 - v3) a7 fun S8 => wX6_dropDisturbed_156 post n v0 v3 (v4 + 1) S8)
def wX6_dropDisturbed_147 (K51 : Option Nat → Int32 → Int32 → Int32 → Pool → Prop) (post : Pool → Prop) (v0 : Option Nat) (v2 : Int32) (v3 : Int32) (v4 : Int32) (S : Pool) : Prop := K51 v0 v2 v3 (v4 + (-1)) S
def wX6_dropDisturbed_129 (K51 : Option Nat → Int32 → Int32 → Int32 → Pool → Prop) (post : Pool → Prop) (v0 : Option Nat) (v2 : Int32) (v3 : Int32) (v4 : Int32) (v5 : Option Nat) (S : Pool) : Prop := xI S v5 0 0 fun a1 => xI S v0 6 13 fun a2 => br (a2 ≤ a1) (wX6_dropDisturbed_147 K51 post v0 v2 v3 v4 S) (xrc S v0 6 (wX6_noteNot (fun S4 => wX6_dropDisturbed_147 K51 post v0 v2 v3 v4 S4) v0 v5 S))
def wX6_dropDisturbed_123 (K51 : Option Nat → Int32 → Int32 → Int32 → Pool → Prop) (K68 : Option Nat → Int32 → Int32 → Int32 → Option Nat → Pool → Prop) (post : Pool → Prop) (v0 : Option Nat) (v2 : Int32) (v3 : Int32) (v4 : Int32) (v5 : Option Nat) (S : Pool) : Prop := K68 v0 (v2 + (-1)) v3 v4 v5 S
def wX6_dropDisturbed_68 (K51 : Option Nat → Int32 → Int32 → Int32 → Pool → Prop) (post : Pool → Prop) : Nat → Option Nat → Int32 → Int32 → Int32 → Option Nat → Pool → Prop
  | 0 => fun _ _ _ _ _ _ => False
  | n + 1 => fun v0 v2 v3 v4 v5 S => br (v2 ≤ 0) (wX6_dropDisturbed_129 K51 post v0 v2 v3 v4 v5 S) (xR S v0 6 1 fun a2 => xaR S a2 12 (v2 - 1) fun a3 => xI S a3 0 5 fun a4 => xI S v5 0 5 fun a5 => br (a4 < a5) (wX6_dropDisturbed_129 K51 post v0 v2 v3 v4 v5 S) (xR S v0 6 1 fun a7 => xaR S a7 12 (v2 - 1) fun a8 => xrc S v0 6 (wX6_isUndisturbed (fun a10 S9 => br (a10 = 0) (wX6_dropDisturbed_123 K51 (wX6_dropDisturbed_68 K51 post n) post v0 v2 v3 v4 v5 S9) (xR S9 v0 6 1 fun a12 => xR S9 v0 6 1 fun a13 => xaR S9 a13 12 (v2 - 1) fun a14 => xsR S9 a12 12 0 (v3 + (-1)) a14 fun S15 => wX6_dropDisturbed_123 K51 (wX6_dropDisturbed_68 K51 post n) post v0 v2 (v3 + (-1)) v4 v5 S15)) v0 a8 S)))
def wX6_dropDisturbed_51 (post : Pool → Prop) : Nat → Option Nat → Int32 → Int32 → Int32 → Pool → Prop
  | 0 => fun _ _ _ _ _ => False
  | n + 1 => fun v0 v2 v3 v4 S => br (v4 < 0) (∃ n1, wX6_dropDisturbed_156 post n1 v0 v3 v3 S) (xR S v0 6 0 fun a2 => xR S a2 2 1 fun a3 => xaR S a3 12 v4 fun a4 => ∃ n1, wX6_dropDisturbed_68 (wX6_dropDisturbed_51 post n) post n1 v0 v2 v3 v4 a4 S)
def wX6_dropDisturbed (post : Pool → Prop) (v0 : Option Nat) (S : Pool) : Prop := xR S v0 6 10 fun a1 => xI S a1 3 1 fun a2 => br ((a2 - 1) < 0) (post S) (xR S v0 6 10 fun a4 => xR S a4 3 0 fun a5 => xaR S a5 14 (a2 - 1) fun a6 => xI S a6 5 4 fun a7 => br (a7 = 0) (post S) (xI S v0 6 15 fun a9 => xI S v0 6 15 fun a10 => xR S v0 6 0 fun a11 => xI S a11 2 2 fun a12 => ∃ n1, wX6_dropDisturbed_51 post n1 v0 a9 a10 (a12 - 1) S))
def rmX6_dropDisturbed : Room := { frames := 2, cells := 0, slots := 0, locals := 46 }
section
variable {p : Program} {l : Launch} {e : Env} {R : Room} {s : State} {m : MethodId} {args : Array Value} {below : List Frame} {meth : Method} {c : Code} {D : va_G} {cy : Nat → ClassId} {A : Nat → Prop}
set_option maxRecDepth 100000 in
set_option maxHeartbeats 4000000 in
theorem tX6_dropDisturbed_156 {post : Pool → Prop} (M : MC p m c cX6_dropDisturbed 6 s args RX6) (hr : meth.sig.returnType = none) (hlk : meth.locks = false) (hRf : 2 ≤ R.frames) (hRl : 46 ≤ R.locals) (hRc : 0 ≤ R.cells) (hRs : 0 ≤ R.slots) : ∀ (n : Nat) (v0 : Option Nat) (v3 : Int32) (v4 : Int32) (S : Pool), wX6_dropDisturbed_156 post n v0 v3 v4 S → ∀ (H : Heap) (locs : List Loc) (ls : Array Slot), PB D cy A s S H locs → lv_has ls 6 [(0, va_rf v0), (3, .int v3), (4, .int v4)] → W p l e R s m args below meth c H locs 0 0 (MQ below (va_Qv post (PQ D cy A) A) args s 0 0 A) (F0 m 156 ls []) := by
  intro n
  induction n with
  | zero => intro v0 v3 v4 S h; exact False.elim h
  | succ n ih =>
    intro v0 v3 v4 S h H locs ls B hl
    unfold wX6_dropDisturbed_156 at h
    refine lv_iload M.1 M.2.1 dX6_dropDisturbed_156 (lv_at hl 2 rfl) ?_
    refine g_aload_n M dX6_dropDisturbed_158 rfl (lv_at hl 0 rfl) ?_
    refine gfX6_100 M B dX6_dropDisturbed_159 h (fun a1 h => ?_)
    refine lv_icmp_ge (tgt := 187) M.1 M.2.1 dX6_dropDisturbed_162 (by decide) (fun c2 => ?_) (fun c2 => ?_)
    · have h := h.1 c2
      refine g_aload_n M dX6_dropDisturbed_187 rfl (lv_at hl 0 rfl) ?_
      refine lv_dup M.1 M.2.1 dX6_dropDisturbed_188 (rf_cat _) ?_
      refine gfX6_100 M B dX6_dropDisturbed_189 h (fun a3 h => ?_)
      refine lv_iload_n M.1 M.2.1 dX6_dropDisturbed_192 rfl (lv_at hl 1 rfl) ?_
      refine lv_isub M.1 M.2.1 dX6_dropDisturbed_193 ?_
      refine gpX6_100 M B dX6_dropDisturbed_194 h (fun S4 H locs h B => ?_)
      exact g_vret M B hr hlk h (by decide) (by decide) dX6_dropDisturbed_197
    · have h := h.2 c2
      refine g_aload_n M dX6_dropDisturbed_165 rfl (lv_at hl 0 rfl) ?_
      refine gfX6_11 M B dX6_dropDisturbed_166 h (fun a5 h => ?_)
      refine lv_iload M.1 M.2.1 dX6_dropDisturbed_169 (lv_at hl 2 rfl) ?_
      refine lv_iload_n M.1 M.2.1 dX6_dropDisturbed_171 rfl (lv_at hl 1 rfl) ?_
      refine lv_isub M.1 M.2.1 dX6_dropDisturbed_172 ?_
      refine g_aload_n M dX6_dropDisturbed_173 rfl (lv_at hl 0 rfl) ?_
      refine gfX6_11 M B dX6_dropDisturbed_174 h (fun a6 h => ?_)
      refine lv_iload M.1 M.2.1 dX6_dropDisturbed_177 (lv_at hl 2 rfl) ?_
      refine g_aald (kd := 12) (t0 := 2) M B ⟨by decide, by decide⟩ rfl dX6_dropDisturbed_179 h (fun a7 h => ?_)
      refine g_aast (kd := 12) (kv := 0) (t0 := 2) M B ⟨by decide, by decide⟩ (by decide) rfl rfl dX6_dropDisturbed_180 h (fun S8 H locs h B => ?_)
      refine lv_iinc (v := v4 + 1) (lv' := [(4, .int (v4 + 1)), (0, va_rf v0), (3, .int v3)]) M.1 M.2.1 dX6_dropDisturbed_181 hl (k := 2) rfl (by rfl) (by decide) (fl_e (fl_k rfl rfl (fl_i rfl (fl_d rfl fl_0)))) (fun ls hl => ?_)
      refine lv_goto (tgt := 156) M.1 M.2.1 dX6_dropDisturbed_184 (by decide) ?_
      exact ih _ _ _ _ h _ _ _ B (lv_sub hl [1, 2, 0] rfl)
set_option maxRecDepth 100000 in
set_option maxHeartbeats 4000000 in
theorem tX6_dropDisturbed_147 {K51 : Option Nat → Int32 → Int32 → Int32 → Pool → Prop} {post : Pool → Prop} (M : MC p m c cX6_dropDisturbed 6 s args RX6) (hr : meth.sig.returnType = none) (hlk : meth.locks = false) (hRf : 2 ≤ R.frames) (hRl : 46 ≤ R.locals) (hRc : 0 ≤ R.cells) (hRs : 0 ≤ R.slots) (hK51 : ∀ (v0 : Option Nat) (v2 : Int32) (v3 : Int32) (v4 : Int32) (S : Pool), K51 v0 v2 v3 v4 S → ∀ (H : Heap) (locs : List Loc) (ls : Array Slot), PB D cy A s S H locs → lv_has ls 6 [(0, va_rf v0), (2, .int v2), (3, .int v3), (4, .int v4)] → W p l e R s m args below meth c H locs 0 0 (MQ below (va_Qv post (PQ D cy A) A) args s 0 0 A) (F0 m 51 ls [])) : ∀ (v0 : Option Nat) (v2 : Int32) (v3 : Int32) (v4 : Int32) (S : Pool), wX6_dropDisturbed_147 K51 post v0 v2 v3 v4 S → ∀ (H : Heap) (locs : List Loc) (ls : Array Slot), PB D cy A s S H locs → lv_has ls 6 [(0, va_rf v0), (2, .int v2), (3, .int v3), (4, .int v4)] → W p l e R s m args below meth c H locs 0 0 (MQ below (va_Qv post (PQ D cy A) A) args s 0 0 A) (F0 m 147 ls []) := by
  intro v0 v2 v3 v4 S h H locs ls B hl
  unfold wX6_dropDisturbed_147 at h
  refine lv_iinc (v := v4 + (-1)) (lv' := [(4, .int (v4 + (-1))), (0, va_rf v0), (2, .int v2), (3, .int v3)]) M.1 M.2.1 dX6_dropDisturbed_147 hl (k := 3) rfl (by rfl) (by decide) (fl_e (fl_k rfl rfl (fl_k rfl rfl (fl_i rfl (fl_d rfl fl_0))))) (fun ls hl => ?_)
  refine lv_goto (tgt := 51) M.1 M.2.1 dX6_dropDisturbed_150 (by decide) ?_
  exact hK51 _ _ _ _ _ h _ _ _ B (lv_sub hl [1, 2, 3, 0] rfl)
set_option maxRecDepth 100000 in
set_option maxHeartbeats 4000000 in
theorem tX6_dropDisturbed_129 {K51 : Option Nat → Int32 → Int32 → Int32 → Pool → Prop} {post : Pool → Prop} (M : MC p m c cX6_dropDisturbed 6 s args RX6) (hr : meth.sig.returnType = none) (hlk : meth.locks = false) (hRf : 2 ≤ R.frames) (hRl : 46 ≤ R.locals) (hRc : 0 ≤ R.cells) (hRs : 0 ≤ R.slots) (hK51 : ∀ (v0 : Option Nat) (v2 : Int32) (v3 : Int32) (v4 : Int32) (S : Pool), K51 v0 v2 v3 v4 S → ∀ (H : Heap) (locs : List Loc) (ls : Array Slot), PB D cy A s S H locs → lv_has ls 6 [(0, va_rf v0), (2, .int v2), (3, .int v3), (4, .int v4)] → W p l e R s m args below meth c H locs 0 0 (MQ below (va_Qv post (PQ D cy A) A) args s 0 0 A) (F0 m 51 ls [])) : ∀ (v0 : Option Nat) (v2 : Int32) (v3 : Int32) (v4 : Int32) (v5 : Option Nat) (S : Pool), wX6_dropDisturbed_129 K51 post v0 v2 v3 v4 v5 S → ∀ (H : Heap) (locs : List Loc) (ls : Array Slot), PB D cy A s S H locs → lv_has ls 6 [(0, va_rf v0), (2, .int v2), (3, .int v3), (4, .int v4), (5, va_rf v5)] → W p l e R s m args below meth c H locs 0 0 (MQ below (va_Qv post (PQ D cy A) A) args s 0 0 A) (F0 m 129 ls []) := by
  intro v0 v2 v3 v4 v5 S h H locs ls B hl
  unfold wX6_dropDisturbed_129 at h
  refine g_aload M dX6_dropDisturbed_129 (lv_at hl 4 rfl) ?_
  refine gfX6_90 M B dX6_dropDisturbed_131 h (fun a1 h => ?_)
  refine g_aload_n M dX6_dropDisturbed_134 rfl (lv_at hl 0 rfl) ?_
  refine gfX6_74 M B dX6_dropDisturbed_135 h (fun a2 h => ?_)
  refine lv_icmp_ge (tgt := 147) M.1 M.2.1 dX6_dropDisturbed_138 (by decide) (fun c3 => ?_) (fun c3 => ?_)
  · have h := h.1 c3
    exact tX6_dropDisturbed_147 M hr hlk hRf hRl hRc hRs hK51 _ _ _ _ _ h _ _ _ B (lv_sub hl [0, 1, 2, 3] rfl)
  · have h := h.2 c3
    refine g_aload_n M dX6_dropDisturbed_141 rfl (lv_at hl 0 rfl) ?_
    refine g_aload M dX6_dropDisturbed_142 (lv_at hl 4 rfl) ?_
    obtain ⟨o1, e1, hL1, hK1, h⟩ := h
    refine g_callv (k1 := 0) (k2 := 0) B (g_runV (n := 1) (As := [va_rf v5]) (rm := rmX6_noteNot) M B e1 (kX6_noteNot (v0 := v0) (v1 := v5) l D cy h _) wmX6_179 wiX6_noteNot wsX6_noteNot wnX6 wcdX6_noteNot ⟨rfl, by decide, by decide, by decide +kernel⟩ ⟨Nat.le_trans (by decide) hRf, Nat.le_trans (by decide) hRl⟩ ⟨Nat.le_trans (by decide) hRc, Nat.le_trans (by decide) hRs⟩ hL1 hK1 (by decide) rfl rfl rfl hl.1 rfl ct_0 (by decide) dX6_dropDisturbed_144) (by decide) (by decide) (fun S4 H locs h B => ?_)
    exact tX6_dropDisturbed_147 M hr hlk hRf hRl hRc hRs hK51 _ _ _ _ _ h _ _ _ B (lv_sub hl [0, 1, 2, 3] rfl)
set_option maxRecDepth 100000 in
set_option maxHeartbeats 4000000 in
theorem tX6_dropDisturbed_123 {K51 : Option Nat → Int32 → Int32 → Int32 → Pool → Prop} {K68 : Option Nat → Int32 → Int32 → Int32 → Option Nat → Pool → Prop} {post : Pool → Prop} (M : MC p m c cX6_dropDisturbed 6 s args RX6) (hr : meth.sig.returnType = none) (hlk : meth.locks = false) (hRf : 2 ≤ R.frames) (hRl : 46 ≤ R.locals) (hRc : 0 ≤ R.cells) (hRs : 0 ≤ R.slots) (hK51 : ∀ (v0 : Option Nat) (v2 : Int32) (v3 : Int32) (v4 : Int32) (S : Pool), K51 v0 v2 v3 v4 S → ∀ (H : Heap) (locs : List Loc) (ls : Array Slot), PB D cy A s S H locs → lv_has ls 6 [(0, va_rf v0), (2, .int v2), (3, .int v3), (4, .int v4)] → W p l e R s m args below meth c H locs 0 0 (MQ below (va_Qv post (PQ D cy A) A) args s 0 0 A) (F0 m 51 ls [])) (hK68 : ∀ (v0 : Option Nat) (v2 : Int32) (v3 : Int32) (v4 : Int32) (v5 : Option Nat) (S : Pool), K68 v0 v2 v3 v4 v5 S → ∀ (H : Heap) (locs : List Loc) (ls : Array Slot), PB D cy A s S H locs → lv_has ls 6 [(0, va_rf v0), (2, .int v2), (3, .int v3), (4, .int v4), (5, va_rf v5)] → W p l e R s m args below meth c H locs 0 0 (MQ below (va_Qv post (PQ D cy A) A) args s 0 0 A) (F0 m 68 ls [])) : ∀ (v0 : Option Nat) (v2 : Int32) (v3 : Int32) (v4 : Int32) (v5 : Option Nat) (S : Pool), wX6_dropDisturbed_123 K51 K68 post v0 v2 v3 v4 v5 S → ∀ (H : Heap) (locs : List Loc) (ls : Array Slot), PB D cy A s S H locs → lv_has ls 6 [(0, va_rf v0), (2, .int v2), (3, .int v3), (4, .int v4), (5, va_rf v5)] → W p l e R s m args below meth c H locs 0 0 (MQ below (va_Qv post (PQ D cy A) A) args s 0 0 A) (F0 m 123 ls []) := by
  intro v0 v2 v3 v4 v5 S h H locs ls B hl
  unfold wX6_dropDisturbed_123 at h
  refine lv_iinc (v := v2 + (-1)) (lv' := [(2, .int (v2 + (-1))), (0, va_rf v0), (3, .int v3), (4, .int v4), (5, va_rf v5)]) M.1 M.2.1 dX6_dropDisturbed_123 hl (k := 1) rfl (by rfl) (by decide) (fl_e (fl_k rfl rfl (fl_d rfl (fl_k rfl rfl (fl_k rfl rfl (fl_k rfl rfl fl_0)))))) (fun ls hl => ?_)
  refine lv_goto (tgt := 68) M.1 M.2.1 dX6_dropDisturbed_126 (by decide) ?_
  exact hK68 _ _ _ _ _ _ h _ _ _ B (lv_sub hl [1, 0, 2, 3, 4] rfl)
set_option maxRecDepth 100000 in
set_option maxHeartbeats 4000000 in
theorem tX6_dropDisturbed_68 {K51 : Option Nat → Int32 → Int32 → Int32 → Pool → Prop} {post : Pool → Prop} (M : MC p m c cX6_dropDisturbed 6 s args RX6) (hr : meth.sig.returnType = none) (hlk : meth.locks = false) (hRf : 2 ≤ R.frames) (hRl : 46 ≤ R.locals) (hRc : 0 ≤ R.cells) (hRs : 0 ≤ R.slots) (hK51 : ∀ (v0 : Option Nat) (v2 : Int32) (v3 : Int32) (v4 : Int32) (S : Pool), K51 v0 v2 v3 v4 S → ∀ (H : Heap) (locs : List Loc) (ls : Array Slot), PB D cy A s S H locs → lv_has ls 6 [(0, va_rf v0), (2, .int v2), (3, .int v3), (4, .int v4)] → W p l e R s m args below meth c H locs 0 0 (MQ below (va_Qv post (PQ D cy A) A) args s 0 0 A) (F0 m 51 ls [])) : ∀ (n : Nat) (v0 : Option Nat) (v2 : Int32) (v3 : Int32) (v4 : Int32) (v5 : Option Nat) (S : Pool), wX6_dropDisturbed_68 K51 post n v0 v2 v3 v4 v5 S → ∀ (H : Heap) (locs : List Loc) (ls : Array Slot), PB D cy A s S H locs → lv_has ls 6 [(0, va_rf v0), (2, .int v2), (3, .int v3), (4, .int v4), (5, va_rf v5)] → W p l e R s m args below meth c H locs 0 0 (MQ below (va_Qv post (PQ D cy A) A) args s 0 0 A) (F0 m 68 ls []) := by
  intro n
  induction n with
  | zero => intro v0 v2 v3 v4 v5 S h; exact False.elim h
  | succ n ih =>
    intro v0 v2 v3 v4 v5 S h H locs ls B hl
    unfold wX6_dropDisturbed_68 at h
    refine lv_iload_n M.1 M.2.1 dX6_dropDisturbed_68 rfl (lv_at hl 1 rfl) ?_
    refine lv_if_le (tgt := 129) M.1 M.2.1 dX6_dropDisturbed_69 (by decide) (fun c1 => ?_) (fun c1 => ?_)
    · have h := h.1 c1
      exact tX6_dropDisturbed_129 M hr hlk hRf hRl hRc hRs hK51 _ _ _ _ _ _ h _ _ _ B (lv_sub hl [0, 1, 2, 3, 4] rfl)
    · have h := h.2 c1
      refine g_aload_n M dX6_dropDisturbed_72 rfl (lv_at hl 0 rfl) ?_
      refine gfX6_11 M B dX6_dropDisturbed_73 h (fun a2 h => ?_)
      refine lv_iload_n M.1 M.2.1 dX6_dropDisturbed_76 rfl (lv_at hl 1 rfl) ?_
      refine lv_iconst (v := 1) M.1 M.2.1 dX6_dropDisturbed_77 (by decide) ?_
      refine lv_isub M.1 M.2.1 dX6_dropDisturbed_78 ?_
      refine g_aald (kd := 12) (t0 := 2) M B ⟨by decide, by decide⟩ rfl dX6_dropDisturbed_79 h (fun a3 h => ?_)
      refine gfX6_83 M B dX6_dropDisturbed_80 h (fun a4 h => ?_)
      refine g_aload M dX6_dropDisturbed_83 (lv_at hl 4 rfl) ?_
      refine gfX6_83 M B dX6_dropDisturbed_85 h (fun a5 h => ?_)
      refine lv_icmp_lt (tgt := 129) M.1 M.2.1 dX6_dropDisturbed_88 (by decide) (fun c6 => ?_) (fun c6 => ?_)
      · have h := h.1 c6
        exact tX6_dropDisturbed_129 M hr hlk hRf hRl hRc hRs hK51 _ _ _ _ _ _ h _ _ _ B (lv_sub hl [0, 1, 2, 3, 4] rfl)
      · have h := h.2 c6
        refine g_aload_n M dX6_dropDisturbed_91 rfl (lv_at hl 0 rfl) ?_
        refine g_aload_n M dX6_dropDisturbed_92 rfl (lv_at hl 0 rfl) ?_
        refine gfX6_11 M B dX6_dropDisturbed_93 h (fun a7 h => ?_)
        refine lv_iload_n M.1 M.2.1 dX6_dropDisturbed_96 rfl (lv_at hl 1 rfl) ?_
        refine lv_iconst (v := 1) M.1 M.2.1 dX6_dropDisturbed_97 (by decide) ?_
        refine lv_isub M.1 M.2.1 dX6_dropDisturbed_98 ?_
        refine g_aald (kd := 12) (t0 := 2) M B ⟨by decide, by decide⟩ rfl dX6_dropDisturbed_99 h (fun a8 h => ?_)
        obtain ⟨o1, e1, hL1, hK1, h⟩ := h
        refine g_calli (k1 := 0) (k2 := 0) B (g_runV (n := 1) (As := [va_rf a8]) (rm := rmX6_isUndisturbed) M B e1 (kX6_isUndisturbed (v0 := v0) (v1 := a8) l D cy h _) wmX6_176 wiX6_isUndisturbed wsX6_isUndisturbed wnX6 wcdX6_isUndisturbed ⟨rfl, by decide, by decide, by decide +kernel⟩ ⟨Nat.le_trans (by decide) hRf, Nat.le_trans (by decide) hRl⟩ ⟨Nat.le_trans (by decide) hRc, Nat.le_trans (by decide) hRs⟩ hL1 hK1 (by decide) rfl rfl rfl hl.1 rfl ct_0 (by decide) dX6_dropDisturbed_100) (by decide) (by decide) (fun a10 S9 H locs h B => ?_)
        refine lv_if_eq (tgt := 123) M.1 M.2.1 dX6_dropDisturbed_103 (by decide) (fun c11 => ?_) (fun c11 => ?_)
        · have h := h.1 c11
          exact tX6_dropDisturbed_123 M hr hlk hRf hRl hRc hRs hK51 ih _ _ _ _ _ _ h _ _ _ B (lv_sub hl [0, 1, 2, 3, 4] rfl)
        · have h := h.2 c11
          refine lv_iinc (v := v3 + (-1)) (lv' := [(3, .int (v3 + (-1))), (0, va_rf v0), (2, .int v2), (4, .int v4), (5, va_rf v5)]) M.1 M.2.1 dX6_dropDisturbed_106 hl (k := 2) rfl (by rfl) (by decide) (fl_e (fl_k rfl rfl (fl_i rfl (fl_d rfl (fl_k rfl rfl (fl_k rfl rfl fl_0)))))) (fun ls hl => ?_)
          refine g_aload_n M dX6_dropDisturbed_109 rfl (lv_at hl 1 rfl) ?_
          refine gfX6_11 M B dX6_dropDisturbed_110 h (fun a12 h => ?_)
          refine lv_iload_n M.1 M.2.1 dX6_dropDisturbed_113 rfl (lv_at hl 0 rfl) ?_
          refine g_aload_n M dX6_dropDisturbed_114 rfl (lv_at hl 1 rfl) ?_
          refine gfX6_11 M B dX6_dropDisturbed_115 h (fun a13 h => ?_)
          refine lv_iload_n M.1 M.2.1 dX6_dropDisturbed_118 rfl (lv_at hl 2 rfl) ?_
          refine lv_iconst (v := 1) M.1 M.2.1 dX6_dropDisturbed_119 (by decide) ?_
          refine lv_isub M.1 M.2.1 dX6_dropDisturbed_120 ?_
          refine g_aald (kd := 12) (t0 := 2) M B ⟨by decide, by decide⟩ rfl dX6_dropDisturbed_121 h (fun a14 h => ?_)
          refine g_aast (kd := 12) (kv := 0) (t0 := 2) M B ⟨by decide, by decide⟩ (by decide) rfl rfl dX6_dropDisturbed_122 h (fun S15 H locs h B => ?_)
          exact tX6_dropDisturbed_123 M hr hlk hRf hRl hRc hRs hK51 ih _ _ _ _ _ _ h _ _ _ B (lv_sub hl [1, 2, 0, 3, 4] rfl)
set_option maxRecDepth 100000 in
set_option maxHeartbeats 4000000 in
theorem tX6_dropDisturbed_51 {post : Pool → Prop} (M : MC p m c cX6_dropDisturbed 6 s args RX6) (hr : meth.sig.returnType = none) (hlk : meth.locks = false) (hRf : 2 ≤ R.frames) (hRl : 46 ≤ R.locals) (hRc : 0 ≤ R.cells) (hRs : 0 ≤ R.slots) : ∀ (n : Nat) (v0 : Option Nat) (v2 : Int32) (v3 : Int32) (v4 : Int32) (S : Pool), wX6_dropDisturbed_51 post n v0 v2 v3 v4 S → ∀ (H : Heap) (locs : List Loc) (ls : Array Slot), PB D cy A s S H locs → lv_has ls 6 [(0, va_rf v0), (2, .int v2), (3, .int v3), (4, .int v4)] → W p l e R s m args below meth c H locs 0 0 (MQ below (va_Qv post (PQ D cy A) A) args s 0 0 A) (F0 m 51 ls []) := by
  intro n
  induction n with
  | zero => intro v0 v2 v3 v4 S h; exact False.elim h
  | succ n ih =>
    intro v0 v2 v3 v4 S h H locs ls B hl
    unfold wX6_dropDisturbed_51 at h
    refine lv_iload M.1 M.2.1 dX6_dropDisturbed_51 (lv_at hl 3 rfl) ?_
    refine lv_if_lt (tgt := 153) M.1 M.2.1 dX6_dropDisturbed_53 (by decide) (fun c1 => ?_) (fun c1 => ?_)
    · have h := h.1 c1
      refine lv_iload_n M.1 M.2.1 dX6_dropDisturbed_153 rfl (lv_at hl 2 rfl) ?_
      refine lv_istore (lv' := [(4, .int v3), (0, va_rf v0), (2, .int v2), (3, .int v3)]) M.1 M.2.1 dX6_dropDisturbed_154 hl (by decide) (fl_e (fl_k rfl rfl (fl_k rfl rfl (fl_i rfl (fl_d rfl fl_0))))) (fun ls hl => ?_)
      obtain ⟨n1, h⟩ := h
      exact tX6_dropDisturbed_156 M hr hlk hRf hRl hRc hRs n1 _ _ _ _ h _ _ _ B (lv_sub hl [1, 3, 0] rfl)
    · have h := h.2 c1
      refine g_aload_n M dX6_dropDisturbed_56 rfl (lv_at hl 0 rfl) ?_
      refine gfX6_55 M B dX6_dropDisturbed_57 h (fun a2 h => ?_)
      refine gfX6_80 M B dX6_dropDisturbed_60 h (fun a3 h => ?_)
      refine lv_iload M.1 M.2.1 dX6_dropDisturbed_63 (lv_at hl 3 rfl) ?_
      refine g_aald (kd := 12) (t0 := 2) M B ⟨by decide, by decide⟩ rfl dX6_dropDisturbed_65 h (fun a4 h => ?_)
      refine g_astore (lv' := [(5, va_rf a4), (0, va_rf v0), (2, .int v2), (3, .int v3), (4, .int v4)]) M dX6_dropDisturbed_66 hl (by decide) (fl_e (fl_k rfl rfl (fl_k rfl rfl (fl_k rfl rfl (fl_i rfl fl_0))))) (fun ls hl => ?_)
      obtain ⟨n1, h⟩ := h
      exact tX6_dropDisturbed_68 M hr hlk hRf hRl hRc hRs ih n1 _ _ _ _ _ _ h _ _ _ B (lv_sub hl [1, 2, 3, 4, 0] rfl)
set_option maxRecDepth 100000 in
set_option maxHeartbeats 4000000 in
theorem tX6_dropDisturbed {post : Pool → Prop} (M : MC p m c cX6_dropDisturbed 6 s args RX6) (hr : meth.sig.returnType = none) (hlk : meth.locks = false) (hRf : 2 ≤ R.frames) (hRl : 46 ≤ R.locals) (hRc : 0 ≤ R.cells) (hRs : 0 ≤ R.slots) : ∀ (v0 : Option Nat) (S : Pool), wX6_dropDisturbed post v0 S → ∀ (H : Heap) (locs : List Loc) (ls : Array Slot), PB D cy A s S H locs → lv_has ls 6 [(0, va_rf v0)] → W p l e R s m args below meth c H locs 0 0 (MQ below (va_Qv post (PQ D cy A) A) args s 0 0 A) (F0 m 0 ls []) := by
  intro v0 S h H locs ls B hl
  unfold wX6_dropDisturbed at h
  refine g_aload_n M dX6_dropDisturbed_0 rfl (lv_at hl 0 rfl) ?_
  refine gfX6_47 M B dX6_dropDisturbed_1 h (fun a1 h => ?_)
  refine gfX6_117 M B dX6_dropDisturbed_4 h (fun a2 h => ?_)
  refine lv_iconst (v := 1) M.1 M.2.1 dX6_dropDisturbed_7 (by decide) ?_
  refine lv_isub M.1 M.2.1 dX6_dropDisturbed_8 ?_
  refine lv_istore_n (lv' := [(1, .int (a2 - 1)), (0, va_rf v0)]) M.1 M.2.1 dX6_dropDisturbed_9 rfl hl (by decide) (fl_e (fl_r rfl fl_0)) (fun ls hl => ?_)
  refine lv_iload_n M.1 M.2.1 dX6_dropDisturbed_10 rfl (lv_at hl 0 rfl) ?_
  refine lv_if_lt (tgt := 29) M.1 M.2.1 dX6_dropDisturbed_11 (by decide) (fun c3 => ?_) (fun c3 => ?_)
  · have h := h.1 c3
    exact g_vret M B hr hlk h (by decide) (by decide) dX6_dropDisturbed_29
  · have h := h.2 c3
    refine g_aload_n M dX6_dropDisturbed_14 rfl (lv_at hl 1 rfl) ?_
    refine gfX6_47 M B dX6_dropDisturbed_15 h (fun a4 h => ?_)
    refine gfX6_120 M B dX6_dropDisturbed_18 h (fun a5 h => ?_)
    refine lv_iload_n M.1 M.2.1 dX6_dropDisturbed_21 rfl (lv_at hl 0 rfl) ?_
    refine g_aald (kd := 14) (t0 := 4) M B ⟨by decide, by decide⟩ rfl dX6_dropDisturbed_22 h (fun a6 h => ?_)
    refine gfX6_124 M B dX6_dropDisturbed_23 h (fun a7 h => ?_)
    refine lv_if_ne (tgt := 30) M.1 M.2.1 dX6_dropDisturbed_26 (by decide) (fun c8 => ?_) (fun c8 => ?_)
    · have h := h.2 c8
      refine g_aload_n M dX6_dropDisturbed_30 rfl (lv_at hl 1 rfl) ?_
      refine gfX6_100 M B dX6_dropDisturbed_31 h (fun a9 h => ?_)
      refine lv_istore_n (lv' := [(2, .int a9), (1, .int (a2 - 1)), (0, va_rf v0)]) M.1 M.2.1 dX6_dropDisturbed_34 rfl hl (by decide) (fl_e (fl_i rfl (fl_k rfl rfl fl_0))) (fun ls hl => ?_)
      refine g_aload_n M dX6_dropDisturbed_35 rfl (lv_at hl 2 rfl) ?_
      refine gfX6_100 M B dX6_dropDisturbed_36 h (fun a10 h => ?_)
      refine lv_istore_n (lv' := [(3, .int a10), (2, .int a9), (1, .int (a2 - 1)), (0, va_rf v0)]) M.1 M.2.1 dX6_dropDisturbed_39 rfl hl (by decide) (fl_e (fl_i rfl (fl_k rfl rfl (fl_k rfl rfl fl_0)))) (fun ls hl => ?_)
      refine g_aload_n M dX6_dropDisturbed_40 rfl (lv_at hl 3 rfl) ?_
      refine gfX6_55 M B dX6_dropDisturbed_41 h (fun a11 h => ?_)
      refine gfX6_62 M B dX6_dropDisturbed_44 h (fun a12 h => ?_)
      refine lv_iconst (v := 1) M.1 M.2.1 dX6_dropDisturbed_47 (by decide) ?_
      refine lv_isub M.1 M.2.1 dX6_dropDisturbed_48 ?_
      refine lv_istore (lv' := [(4, .int (a12 - 1)), (3, .int a10), (2, .int a9), (1, .int (a2 - 1)), (0, va_rf v0)]) M.1 M.2.1 dX6_dropDisturbed_49 hl (by decide) (fl_e (fl_i rfl (fl_k rfl rfl (fl_k rfl rfl (fl_k rfl rfl fl_0))))) (fun ls hl => ?_)
      obtain ⟨n1, h⟩ := h
      exact tX6_dropDisturbed_51 M hr hlk hRf hRl hRc hRs n1 _ _ _ _ _ h _ _ _ B (lv_sub hl [4, 2, 1, 0] rfl)
    · have h := h.1 c8
      exact g_vret M B hr hlk h (by decide) (by decide) dX6_dropDisturbed_29
end
set_option maxRecDepth 100000 in
set_option maxHeartbeats 4000000 in
theorem kX6_dropDisturbed (l : Launch) (D : va_G) (cy : Nat → ClassId) {post : Pool → Prop} {v0 : Option Nat} {S : Pool} (h : wX6_dropDisturbed post v0 S) : MetV l yX6_dropDisturbed cX6_dropDisturbed 6 rmX6_dropDisturbed [va_rf v0] D cy S post := by
  intro sz
  refine Met.ofW (cc := cX6_dropDisturbed) (maxL := 6) (ret := none) (by decide) rfl ?_
  intro p e s m args below meth c s₁ B0 hml hv
  obtain ⟨rfl, hpp⟩ := hv
  have hts := atoms_spec (ws := .code yX6_dropDisturbed cX6_dropDisturbed 6 none :: Gw) B0.pre
  obtain rfl : s.heap.size = sz := hpp.1
  have hl := lv_entry [va_rf v0] (n := 6) (by rw [sl_r, sl_0]; decide)
  rw [lg_entry_eq]
  rw [la_r, la_0] at hl
  exact tX6_dropDisturbed (l := l) (R := rmX6_dropDisturbed) ⟨B0.exec, B0.bytes, hml, findClass_of_methodNamed B0.named, fun w hw => hts w (List.mem_cons_of_mem _ hw)⟩ B0.returns B0.notSynchronized (Nat.le_refl _) (Nat.le_refl _) (Nat.le_refl _) (Nat.le_refl _) _ _ h _ _ _ hpp.pb (lv_sub hl [0] rfl)
-- X6_goOver: LogHunt$Sweep.goOver(LLogHunt$Question;II)V
def wX6_goOver_154 (K79 : Option Nat → Int32 → Int32 → Pool → Prop) (post : Pool → Prop) (v0 : Option Nat) (v4 : Int32) (v5 : Int32) (S : Pool) : Prop := K79 v0 v4 (v5 + 1) S
def wX6_goOver_136 (K79 : Option Nat → Int32 → Int32 → Pool → Prop) (post : Pool → Prop) (v0 : Option Nat) (v4 : Int32) (v5 : Int32) (v6 : Option Nat) (S : Pool) : Prop := xI S v6 0 0 fun a1 => xI S v0 6 13 fun a2 => br (a2 ≤ a1) (wX6_goOver_154 K79 post v0 v4 v5 S) (xrc S v0 6 (wX6_reach (fun S4 => wX6_goOver_154 K79 post v0 v4 v5 S4) v0 v6 S))
def wX6_goOver_79 (post : Pool → Prop) : Nat → Option Nat → Int32 → Int32 → Pool → Prop
  | 0 => fun _ _ _ _ => False
  | n + 1 => fun v0 v4 v5 S => xR S v0 6 0 fun a1 => xI S a1 2 2 fun a2 => br (a2 ≤ v5) (xR S v0 6 0 fun a4 => xI S a4 2 2 fun a5 => xrc S v0 6 (wX6_settle (fun S6 => xrc S6 v0 6 (wX6_dropDisturbed (fun S7 => post S7) v0 S6)) v0 v4 a5 S)) (xR S v0 6 0 fun a8 => xR S a8 2 1 fun a9 => xaR S a9 12 v5 fun a10 => xI S a10 0 5 fun a11 => xR S v0 6 0 fun a12 => xR S a12 2 1 fun a13 => xaR S a13 12 v4 fun a14 => xI S a14 0 5 fun a15 => br (a11 ≤ a15) (wX6_goOver_136 (wX6_goOver_79 post n) post v0 v4 v5 a10 S) (xrc S v0 6 (wX6_settle (fun S17 => wX6_goOver_136 (wX6_goOver_79 post n) post v0 v5 v5 a10 S17) v0 v4 v5 S)))
def wX6_goOver_31 (post : Pool → Prop) (v0 : Option Nat) (v1 : Option Nat) (v2 : Int32) (v3 : Int32) (S : Pool) : Prop := xpR S v0 6 10 v1 fun S1 => xpI S1 v0 6 11 v2 fun S2 => xpI S2 v0 6 12 v3 fun S3 => xR S3 v0 6 0 fun a4 => xI S3 a4 2 2 fun a5 => xpI S3 v0 6 14 a5 fun S6 => xR S6 v0 6 0 fun a7 => xrc S6 a7 2 (wX2_knownAt (fun a9 S8 => xpI S8 v0 6 13 a9 fun S10 => xrc S10 v0 6 (wX6_clear (fun S11 => ∃ n1, wX6_goOver_79 post n1 v0 0 0 S11) v0 S10)) a7 v3 S6)
def wX6_goOver (post : Pool → Prop) (v0 : Option Nat) (v1 : Option Nat) (v2 : Int32) (v3 : Int32) (S : Pool) : Prop := xI S v0 6 11 fun a1 => br (v2 = a1) (xI S v0 6 12 fun a3 => br (v3 = a3) (xR S v0 6 0 fun a5 => xI S a5 2 2 fun a6 => xI S v0 6 14 fun a7 => br (a6 = a7) (post S) (wX6_goOver_31 post v0 v1 v2 v3 S)) (wX6_goOver_31 post v0 v1 v2 v3 S)) (wX6_goOver_31 post v0 v1 v2 v3 S)
def rmX6_goOver : Room := { frames := 3, cells := 0, slots := 0, locals := 71 }
section
variable {p : Program} {l : Launch} {e : Env} {R : Room} {s : State} {m : MethodId} {args : Array Value} {below : List Frame} {meth : Method} {c : Code} {D : va_G} {cy : Nat → ClassId} {A : Nat → Prop}
set_option maxRecDepth 100000 in
set_option maxHeartbeats 4000000 in
theorem tX6_goOver_154 {K79 : Option Nat → Int32 → Int32 → Pool → Prop} {post : Pool → Prop} (M : MC p m c cX6_goOver 7 s args RX6) (hr : meth.sig.returnType = none) (hlk : meth.locks = false) (hRf : 3 ≤ R.frames) (hRl : 71 ≤ R.locals) (hRc : 0 ≤ R.cells) (hRs : 0 ≤ R.slots) (hK79 : ∀ (v0 : Option Nat) (v4 : Int32) (v5 : Int32) (S : Pool), K79 v0 v4 v5 S → ∀ (H : Heap) (locs : List Loc) (ls : Array Slot), PB D cy A s S H locs → lv_has ls 7 [(0, va_rf v0), (4, .int v4), (5, .int v5)] → W p l e R s m args below meth c H locs 0 0 (MQ below (va_Qv post (PQ D cy A) A) args s 0 0 A) (F0 m 79 ls [])) : ∀ (v0 : Option Nat) (v4 : Int32) (v5 : Int32) (S : Pool), wX6_goOver_154 K79 post v0 v4 v5 S → ∀ (H : Heap) (locs : List Loc) (ls : Array Slot), PB D cy A s S H locs → lv_has ls 7 [(0, va_rf v0), (4, .int v4), (5, .int v5)] → W p l e R s m args below meth c H locs 0 0 (MQ below (va_Qv post (PQ D cy A) A) args s 0 0 A) (F0 m 154 ls []) := by
  intro v0 v4 v5 S h H locs ls B hl
  unfold wX6_goOver_154 at h
  refine lv_iinc (v := v5 + 1) (lv' := [(5, .int (v5 + 1)), (0, va_rf v0), (4, .int v4)]) M.1 M.2.1 dX6_goOver_154 hl (k := 2) rfl (by rfl) (by decide) (fl_e (fl_k rfl rfl (fl_i rfl (fl_d rfl fl_0)))) (fun ls hl => ?_)
  refine lv_goto (tgt := 79) M.1 M.2.1 dX6_goOver_157 (by decide) ?_
  exact hK79 _ _ _ _ h _ _ _ B (lv_sub hl [1, 2, 0] rfl)
set_option maxRecDepth 100000 in
set_option maxHeartbeats 4000000 in
theorem tX6_goOver_136 {K79 : Option Nat → Int32 → Int32 → Pool → Prop} {post : Pool → Prop} (M : MC p m c cX6_goOver 7 s args RX6) (hr : meth.sig.returnType = none) (hlk : meth.locks = false) (hRf : 3 ≤ R.frames) (hRl : 71 ≤ R.locals) (hRc : 0 ≤ R.cells) (hRs : 0 ≤ R.slots) (hK79 : ∀ (v0 : Option Nat) (v4 : Int32) (v5 : Int32) (S : Pool), K79 v0 v4 v5 S → ∀ (H : Heap) (locs : List Loc) (ls : Array Slot), PB D cy A s S H locs → lv_has ls 7 [(0, va_rf v0), (4, .int v4), (5, .int v5)] → W p l e R s m args below meth c H locs 0 0 (MQ below (va_Qv post (PQ D cy A) A) args s 0 0 A) (F0 m 79 ls [])) : ∀ (v0 : Option Nat) (v4 : Int32) (v5 : Int32) (v6 : Option Nat) (S : Pool), wX6_goOver_136 K79 post v0 v4 v5 v6 S → ∀ (H : Heap) (locs : List Loc) (ls : Array Slot), PB D cy A s S H locs → lv_has ls 7 [(0, va_rf v0), (4, .int v4), (5, .int v5), (6, va_rf v6)] → W p l e R s m args below meth c H locs 0 0 (MQ below (va_Qv post (PQ D cy A) A) args s 0 0 A) (F0 m 136 ls []) := by
  intro v0 v4 v5 v6 S h H locs ls B hl
  unfold wX6_goOver_136 at h
  refine g_aload M dX6_goOver_136 (lv_at hl 3 rfl) ?_
  refine gfX6_90 M B dX6_goOver_138 h (fun a1 h => ?_)
  refine g_aload_n M dX6_goOver_141 rfl (lv_at hl 0 rfl) ?_
  refine gfX6_74 M B dX6_goOver_142 h (fun a2 h => ?_)
  refine lv_icmp_ge (tgt := 154) M.1 M.2.1 dX6_goOver_145 (by decide) (fun c3 => ?_) (fun c3 => ?_)
  · have h := h.1 c3
    exact tX6_goOver_154 M hr hlk hRf hRl hRc hRs hK79 _ _ _ _ h _ _ _ B (lv_sub hl [0, 1, 2] rfl)
  · have h := h.2 c3
    refine g_aload_n M dX6_goOver_148 rfl (lv_at hl 0 rfl) ?_
    refine g_aload M dX6_goOver_149 (lv_at hl 3 rfl) ?_
    obtain ⟨o1, e1, hL1, hK1, h⟩ := h
    refine g_callv (k1 := 0) (k2 := 0) B (g_runV (n := 1) (As := [va_rf v6]) (rm := rmX6_reach) M B e1 (kX6_reach (v0 := v0) (v1 := v6) l D cy h _) wmX6_93 wiX6_reach wsX6_reach wnX6 wcdX6_reach ⟨rfl, by decide, by decide, by decide +kernel⟩ ⟨Nat.le_trans (by decide) hRf, Nat.le_trans (by decide) hRl⟩ ⟨Nat.le_trans (by decide) hRc, Nat.le_trans (by decide) hRs⟩ hL1 hK1 (by decide) rfl rfl rfl hl.1 rfl ct_0 (by decide) dX6_goOver_151) (by decide) (by decide) (fun S4 H locs h B => ?_)
    exact tX6_goOver_154 M hr hlk hRf hRl hRc hRs hK79 _ _ _ _ h _ _ _ B (lv_sub hl [0, 1, 2] rfl)
set_option maxRecDepth 100000 in
set_option maxHeartbeats 4000000 in
theorem tX6_goOver_79 {post : Pool → Prop} (M : MC p m c cX6_goOver 7 s args RX6) (hr : meth.sig.returnType = none) (hlk : meth.locks = false) (hRf : 3 ≤ R.frames) (hRl : 71 ≤ R.locals) (hRc : 0 ≤ R.cells) (hRs : 0 ≤ R.slots) : ∀ (n : Nat) (v0 : Option Nat) (v4 : Int32) (v5 : Int32) (S : Pool), wX6_goOver_79 post n v0 v4 v5 S → ∀ (H : Heap) (locs : List Loc) (ls : Array Slot), PB D cy A s S H locs → lv_has ls 7 [(0, va_rf v0), (4, .int v4), (5, .int v5)] → W p l e R s m args below meth c H locs 0 0 (MQ below (va_Qv post (PQ D cy A) A) args s 0 0 A) (F0 m 79 ls []) := by
  intro n
  induction n with
  | zero => intro v0 v4 v5 S h; exact False.elim h
  | succ n ih =>
    intro v0 v4 v5 S h H locs ls B hl
    unfold wX6_goOver_79 at h
    refine lv_iload M.1 M.2.1 dX6_goOver_79 (lv_at hl 2 rfl) ?_
    refine g_aload_n M dX6_goOver_81 rfl (lv_at hl 0 rfl) ?_
    refine gfX6_55 M B dX6_goOver_82 h (fun a1 h => ?_)
    refine gfX6_62 M B dX6_goOver_85 h (fun a2 h => ?_)
    refine lv_icmp_ge (tgt := 160) M.1 M.2.1 dX6_goOver_88 (by decide) (fun c3 => ?_) (fun c3 => ?_)
    · have h := h.1 c3
      refine g_aload_n M dX6_goOver_160 rfl (lv_at hl 0 rfl) ?_
      refine lv_iload M.1 M.2.1 dX6_goOver_161 (lv_at hl 1 rfl) ?_
      refine g_aload_n M dX6_goOver_163 rfl (lv_at hl 0 rfl) ?_
      refine gfX6_55 M B dX6_goOver_164 h (fun a4 h => ?_)
      refine gfX6_62 M B dX6_goOver_167 h (fun a5 h => ?_)
      obtain ⟨o1, e1, hL1, hK1, h⟩ := h
      refine g_callv (k1 := 0) (k2 := 0) B (g_runV (n := 2) (As := [.int v4, .int a5]) (rm := rmX6_settle) M B e1 (kX6_settle (v0 := v0) (v1 := v4) (v2 := a5) l D cy h _) wmX6_86 wiX6_settle wsX6_settle wnX6 wcdX6_settle ⟨rfl, by decide, by decide, by decide +kernel⟩ ⟨Nat.le_trans (by decide) hRf, Nat.le_trans (by decide) hRl⟩ ⟨Nat.le_trans (by decide) hRc, Nat.le_trans (by decide) hRs⟩ hL1 hK1 (by decide) rfl rfl rfl hl.1 rfl ct_0 (by decide) dX6_goOver_170) (by decide) (by decide) (fun S6 H locs h B => ?_)
      refine g_aload_n M dX6_goOver_173 rfl (lv_at hl 0 rfl) ?_
      obtain ⟨o1, e1, hL1, hK1, h⟩ := h
      refine g_callv (k1 := 0) (k2 := 0) B (g_runV (n := 0) (As := []) (rm := rmX6_dropDisturbed) M B e1 (kX6_dropDisturbed (v0 := v0) l D cy h _) wmX6_97 wiX6_dropDisturbed wsX6_dropDisturbed wnX6 wcdX6_dropDisturbed ⟨rfl, by decide, by decide, by decide +kernel⟩ ⟨Nat.le_trans (by decide) hRf, Nat.le_trans (by decide) hRl⟩ ⟨Nat.le_trans (by decide) hRc, Nat.le_trans (by decide) hRs⟩ hL1 hK1 (by decide) rfl rfl rfl hl.1 rfl ct_0 (by decide) dX6_goOver_174) (by decide) (by decide) (fun S7 H locs h B => ?_)
      exact g_vret M B hr hlk h (by decide) (by decide) dX6_goOver_177
    · have h := h.2 c3
      refine g_aload_n M dX6_goOver_91 rfl (lv_at hl 0 rfl) ?_
      refine gfX6_55 M B dX6_goOver_92 h (fun a8 h => ?_)
      refine gfX6_80 M B dX6_goOver_95 h (fun a9 h => ?_)
      refine lv_iload M.1 M.2.1 dX6_goOver_98 (lv_at hl 2 rfl) ?_
      refine g_aald (kd := 12) (t0 := 2) M B ⟨by decide, by decide⟩ rfl dX6_goOver_100 h (fun a10 h => ?_)
      refine g_astore (lv' := [(6, va_rf a10), (0, va_rf v0), (4, .int v4), (5, .int v5)]) M dX6_goOver_101 hl (by decide) (fl_e (fl_k rfl rfl (fl_k rfl rfl (fl_i rfl fl_0)))) (fun ls hl => ?_)
      refine g_aload M dX6_goOver_103 (lv_at hl 0 rfl) ?_
      refine gfX6_83 M B dX6_goOver_105 h (fun a11 h => ?_)
      refine g_aload_n M dX6_goOver_108 rfl (lv_at hl 1 rfl) ?_
      refine gfX6_55 M B dX6_goOver_109 h (fun a12 h => ?_)
      refine gfX6_80 M B dX6_goOver_112 h (fun a13 h => ?_)
      refine lv_iload M.1 M.2.1 dX6_goOver_115 (lv_at hl 2 rfl) ?_
      refine g_aald (kd := 12) (t0 := 2) M B ⟨by decide, by decide⟩ rfl dX6_goOver_117 h (fun a14 h => ?_)
      refine gfX6_83 M B dX6_goOver_118 h (fun a15 h => ?_)
      refine lv_icmp_le (tgt := 136) M.1 M.2.1 dX6_goOver_121 (by decide) (fun c16 => ?_) (fun c16 => ?_)
      · have h := h.1 c16
        exact tX6_goOver_136 M hr hlk hRf hRl hRc hRs ih _ _ _ _ _ h _ _ _ B (lv_sub hl [1, 2, 3, 0] rfl)
      · have h := h.2 c16
        refine g_aload_n M dX6_goOver_124 rfl (lv_at hl 1 rfl) ?_
        refine lv_iload M.1 M.2.1 dX6_goOver_125 (lv_at hl 2 rfl) ?_
        refine lv_iload M.1 M.2.1 dX6_goOver_127 (lv_at hl 3 rfl) ?_
        obtain ⟨o1, e1, hL1, hK1, h⟩ := h
        refine g_callv (k1 := 0) (k2 := 0) B (g_runV (n := 2) (As := [.int v4, .int v5]) (rm := rmX6_settle) M B e1 (kX6_settle (v0 := v0) (v1 := v4) (v2 := v5) l D cy h _) wmX6_86 wiX6_settle wsX6_settle wnX6 wcdX6_settle ⟨rfl, by decide, by decide, by decide +kernel⟩ ⟨Nat.le_trans (by decide) hRf, Nat.le_trans (by decide) hRl⟩ ⟨Nat.le_trans (by decide) hRc, Nat.le_trans (by decide) hRs⟩ hL1 hK1 (by decide) rfl rfl rfl hl.1 rfl ct_0 (by decide) dX6_goOver_129) (by decide) (by decide) (fun S17 H locs h B => ?_)
        refine lv_iload M.1 M.2.1 dX6_goOver_132 (lv_at hl 3 rfl) ?_
        refine lv_istore (lv' := [(4, .int v5), (6, va_rf a10), (0, va_rf v0), (5, .int v5)]) M.1 M.2.1 dX6_goOver_134 hl (by decide) (fl_e (fl_k rfl rfl (fl_k rfl rfl (fl_d rfl (fl_k rfl rfl fl_0))))) (fun ls hl => ?_)
        exact tX6_goOver_136 M hr hlk hRf hRl hRc hRs ih _ _ _ _ _ h _ _ _ B (lv_sub hl [2, 0, 3, 1] rfl)
set_option maxRecDepth 100000 in
set_option maxHeartbeats 4000000 in
theorem tX6_goOver_31 {post : Pool → Prop} (M : MC p m c cX6_goOver 7 s args RX6) (hr : meth.sig.returnType = none) (hlk : meth.locks = false) (hRf : 3 ≤ R.frames) (hRl : 71 ≤ R.locals) (hRc : 0 ≤ R.cells) (hRs : 0 ≤ R.slots) : ∀ (v0 : Option Nat) (v1 : Option Nat) (v2 : Int32) (v3 : Int32) (S : Pool), wX6_goOver_31 post v0 v1 v2 v3 S → ∀ (H : Heap) (locs : List Loc) (ls : Array Slot), PB D cy A s S H locs → lv_has ls 7 [(0, va_rf v0), (1, va_rf v1), (2, .int v2), (3, .int v3)] → W p l e R s m args below meth c H locs 0 0 (MQ below (va_Qv post (PQ D cy A) A) args s 0 0 A) (F0 m 31 ls []) := by
  intro v0 v1 v2 v3 S h H locs ls B hl
  unfold wX6_goOver_31 at h
  refine g_aload_n M dX6_goOver_31 rfl (lv_at hl 0 rfl) ?_
  refine g_aload_n M dX6_goOver_32 rfl (lv_at hl 1 rfl) ?_
  refine gpX6_47 M B dX6_goOver_33 h (fun S1 H locs h B => ?_)
  refine g_aload_n M dX6_goOver_36 rfl (lv_at hl 0 rfl) ?_
  refine lv_iload_n M.1 M.2.1 dX6_goOver_37 rfl (lv_at hl 2 rfl) ?_
  refine gpX6_51 M B dX6_goOver_38 h (fun S2 H locs h B => ?_)
  refine g_aload_n M dX6_goOver_41 rfl (lv_at hl 0 rfl) ?_
  refine lv_iload_n M.1 M.2.1 dX6_goOver_42 rfl (lv_at hl 3 rfl) ?_
  refine gpX6_59 M B dX6_goOver_43 h (fun S3 H locs h B => ?_)
  refine g_aload_n M dX6_goOver_46 rfl (lv_at hl 0 rfl) ?_
  refine g_aload_n M dX6_goOver_47 rfl (lv_at hl 0 rfl) ?_
  refine gfX6_55 M B dX6_goOver_48 h (fun a4 h => ?_)
  refine gfX6_62 M B dX6_goOver_51 h (fun a5 h => ?_)
  refine gpX6_67 M B dX6_goOver_54 h (fun S6 H locs h B => ?_)
  refine g_aload_n M dX6_goOver_57 rfl (lv_at hl 0 rfl) ?_
  refine g_aload_n M dX6_goOver_58 rfl (lv_at hl 0 rfl) ?_
  refine gfX6_55 M B dX6_goOver_59 h (fun a7 h => ?_)
  refine lv_iload_n M.1 M.2.1 dX6_goOver_62 rfl (lv_at hl 3 rfl) ?_
  obtain ⟨o1, e1, hL1, hK1, h⟩ := h
  refine g_calli (k1 := 0) (k2 := 0) B (g_runV (n := 1) (As := [.int v3]) (rm := rmX2_knownAt) M B e1 (kX2_knownAt (v0 := a7) (v1 := v3) l D cy h _) wmX6_70 wiX2_knownAt wsX2_knownAt wnX2 wcdX2_knownAt ⟨rfl, by decide, by decide, by decide +kernel⟩ ⟨Nat.le_trans (by decide) hRf, Nat.le_trans (by decide) hRl⟩ ⟨Nat.le_trans (by decide) hRc, Nat.le_trans (by decide) hRs⟩ hL1 hK1 (by decide) rfl rfl rfl hl.1 rfl (ct_r ct_0) (by decide) dX6_goOver_63) (by decide) (by decide) (fun a9 S8 H locs h B => ?_)
  refine gpX6_74 M B dX6_goOver_66 h (fun S10 H locs h B => ?_)
  refine g_aload_n M dX6_goOver_69 rfl (lv_at hl 0 rfl) ?_
  obtain ⟨o1, e1, hL1, hK1, h⟩ := h
  refine g_callv (k1 := 0) (k2 := 0) B (g_runV (n := 0) (As := []) (rm := rmX6_clear) M B e1 (kX6_clear (v0 := v0) l D cy h _) wmX6_77 wiX6_clear wsX6_clear wnX6 wcdX6_clear ⟨rfl, by decide, by decide, by decide +kernel⟩ ⟨Nat.le_trans (by decide) hRf, Nat.le_trans (by decide) hRl⟩ ⟨Nat.le_trans (by decide) hRc, Nat.le_trans (by decide) hRs⟩ hL1 hK1 (by decide) rfl rfl rfl hl.1 rfl ct_0 (by decide) dX6_goOver_70) (by decide) (by decide) (fun S11 H locs h B => ?_)
  refine lv_iconst (v := 0) M.1 M.2.1 dX6_goOver_73 (by decide) ?_
  refine lv_istore (lv' := [(4, .int 0), (0, va_rf v0), (1, va_rf v1), (2, .int v2), (3, .int v3)]) M.1 M.2.1 dX6_goOver_74 hl (by decide) (fl_e (fl_k rfl rfl (fl_k rfl rfl (fl_k rfl rfl (fl_i rfl fl_0))))) (fun ls hl => ?_)
  refine lv_iconst (v := 0) M.1 M.2.1 dX6_goOver_76 (by decide) ?_
  refine lv_istore (lv' := [(5, .int 0), (4, .int 0), (0, va_rf v0), (1, va_rf v1), (2, .int v2), (3, .int v3)]) M.1 M.2.1 dX6_goOver_77 hl (by decide) (fl_e (fl_i rfl (fl_k rfl rfl (fl_k rfl rfl (fl_k rfl rfl (fl_k rfl rfl fl_0)))))) (fun ls hl => ?_)
  obtain ⟨n1, h⟩ := h
  exact tX6_goOver_79 M hr hlk hRf hRl hRc hRs n1 _ _ _ _ h _ _ _ B (lv_sub hl [2, 1, 0] rfl)
set_option maxRecDepth 100000 in
set_option maxHeartbeats 4000000 in
theorem tX6_goOver {post : Pool → Prop} (M : MC p m c cX6_goOver 7 s args RX6) (hr : meth.sig.returnType = none) (hlk : meth.locks = false) (hRf : 3 ≤ R.frames) (hRl : 71 ≤ R.locals) (hRc : 0 ≤ R.cells) (hRs : 0 ≤ R.slots) : ∀ (v0 : Option Nat) (v1 : Option Nat) (v2 : Int32) (v3 : Int32) (S : Pool), wX6_goOver post v0 v1 v2 v3 S → ∀ (H : Heap) (locs : List Loc) (ls : Array Slot), PB D cy A s S H locs → lv_has ls 7 [(0, va_rf v0), (1, va_rf v1), (2, .int v2), (3, .int v3)] → W p l e R s m args below meth c H locs 0 0 (MQ below (va_Qv post (PQ D cy A) A) args s 0 0 A) (F0 m 0 ls []) := by
  intro v0 v1 v2 v3 S h H locs ls B hl
  unfold wX6_goOver at h
  refine lv_iload_n M.1 M.2.1 dX6_goOver_0 rfl (lv_at hl 2 rfl) ?_
  refine g_aload_n M dX6_goOver_1 rfl (lv_at hl 0 rfl) ?_
  refine gfX6_51 M B dX6_goOver_2 h (fun a1 h => ?_)
  refine lv_icmp_ne (tgt := 31) M.1 M.2.1 dX6_goOver_5 (by decide) (fun c2 => ?_) (fun c2 => ?_)
  · have h := h.2 c2
    exact tX6_goOver_31 M hr hlk hRf hRl hRc hRs _ _ _ _ _ h _ _ _ B (lv_sub hl [0, 1, 2, 3] rfl)
  · have h := h.1 c2
    refine lv_iload_n M.1 M.2.1 dX6_goOver_8 rfl (lv_at hl 3 rfl) ?_
    refine g_aload_n M dX6_goOver_9 rfl (lv_at hl 0 rfl) ?_
    refine gfX6_59 M B dX6_goOver_10 h (fun a3 h => ?_)
    refine lv_icmp_ne (tgt := 31) M.1 M.2.1 dX6_goOver_13 (by decide) (fun c4 => ?_) (fun c4 => ?_)
    · have h := h.2 c4
      exact tX6_goOver_31 M hr hlk hRf hRl hRc hRs _ _ _ _ _ h _ _ _ B (lv_sub hl [0, 1, 2, 3] rfl)
    · have h := h.1 c4
      refine g_aload_n M dX6_goOver_16 rfl (lv_at hl 0 rfl) ?_
      refine gfX6_55 M B dX6_goOver_17 h (fun a5 h => ?_)
      refine gfX6_62 M B dX6_goOver_20 h (fun a6 h => ?_)
      refine g_aload_n M dX6_goOver_23 rfl (lv_at hl 0 rfl) ?_
      refine gfX6_67 M B dX6_goOver_24 h (fun a7 h => ?_)
      refine lv_icmp_ne (tgt := 31) M.1 M.2.1 dX6_goOver_27 (by decide) (fun c8 => ?_) (fun c8 => ?_)
      · have h := h.2 c8
        exact tX6_goOver_31 M hr hlk hRf hRl hRc hRs _ _ _ _ _ h _ _ _ B (lv_sub hl [0, 1, 2, 3] rfl)
      · have h := h.1 c8
        exact g_vret M B hr hlk h (by decide) (by decide) dX6_goOver_30
end
set_option maxRecDepth 100000 in
set_option maxHeartbeats 4000000 in
theorem kX6_goOver (l : Launch) (D : va_G) (cy : Nat → ClassId) {post : Pool → Prop} {v0 : Option Nat} {v1 : Option Nat} {v2 : Int32} {v3 : Int32} {S : Pool} (h : wX6_goOver post v0 v1 v2 v3 S) : MetV l yX6_goOver cX6_goOver 7 rmX6_goOver [va_rf v0, va_rf v1, .int v2, .int v3] D cy S post := by
  intro sz
  refine Met.ofW (cc := cX6_goOver) (maxL := 7) (ret := none) (by decide) rfl ?_
  intro p e s m args below meth c s₁ B0 hml hv
  obtain ⟨rfl, hpp⟩ := hv
  have hts := atoms_spec (ws := .code yX6_goOver cX6_goOver 7 none :: Gw) B0.pre
  obtain rfl : s.heap.size = sz := hpp.1
  have hl := lv_entry [va_rf v0, va_rf v1, .int v2, .int v3] (n := 7) (by rw [sl_r, sl_r, sl_i, sl_i, sl_0]; decide)
  rw [lg_entry_eq]
  rw [la_r, la_r, la_i, la_i, la_0] at hl
  exact tX6_goOver (l := l) (R := rmX6_goOver) ⟨B0.exec, B0.bytes, hml, findClass_of_methodNamed B0.named, fun w hw => hts w (List.mem_cons_of_mem _ hw)⟩ B0.returns B0.notSynchronized (Nat.le_refl _) (Nat.le_refl _) (Nat.le_refl _) (Nat.le_refl _) _ _ _ _ _ h _ _ _ hpp.pb (lv_sub hl [0, 1, 2, 3] rfl)
-- X6_findAt: LogHunt$Sweep.findAt(I)LLogHunt$Act;
def wX6_findAt_21 (post : Option Nat → Pool → Prop) (S : Pool) : Prop := post none S
def wX6_findAt (post : Option Nat → Pool → Prop) (v0 : Option Nat) (v1 : Int32) (S : Pool) : Prop := br (v1 < 0) (wX6_findAt_21 post S) (xI S v0 6 15 fun a2 => br (a2 ≤ v1) (wX6_findAt_21 post S) (xR S v0 6 1 fun a4 => xaR S a4 12 v1 fun a5 => post a5 S))
def rmX6_findAt : Room := { frames := 0, cells := 0, slots := 0, locals := 0 }
section
variable {p : Program} {l : Launch} {e : Env} {R : Room} {s : State} {m : MethodId} {args : Array Value} {below : List Frame} {meth : Method} {c : Code} {D : va_G} {cy : Nat → ClassId} {A : Nat → Prop}
set_option maxRecDepth 100000 in
set_option maxHeartbeats 4000000 in
theorem tX6_findAt_21 {post : Option Nat → Pool → Prop} (M : MC p m c cX6_findAt 2 s args RX6) (hr : meth.sig.returnType = (some (FieldType.object "LogHunt$Act"))) (hlk : meth.locks = false) (hRf : 0 ≤ R.frames) (hRl : 0 ≤ R.locals) (hRc : 0 ≤ R.cells) (hRs : 0 ≤ R.slots) : ∀ (S : Pool), wX6_findAt_21 post S → ∀ (H : Heap) (locs : List Loc) (ls : Array Slot), PB D cy A s S H locs → lv_has ls 2 [] → W p l e R s m args below meth c H locs 0 0 (MQ below (va_Qq post (PQ D cy A) A) args s 0 0 A) (F0 m 21 ls []) := by
  intro S h H locs ls B hl
  unfold wX6_findAt_21 at h
  refine g_null M dX6_findAt_21 ?_
  exact g_aret M B hr hlk h (by decide) (by decide) dX6_findAt_22
set_option maxRecDepth 100000 in
set_option maxHeartbeats 4000000 in
theorem tX6_findAt {post : Option Nat → Pool → Prop} (M : MC p m c cX6_findAt 2 s args RX6) (hr : meth.sig.returnType = (some (FieldType.object "LogHunt$Act"))) (hlk : meth.locks = false) (hRf : 0 ≤ R.frames) (hRl : 0 ≤ R.locals) (hRc : 0 ≤ R.cells) (hRs : 0 ≤ R.slots) : ∀ (v0 : Option Nat) (v1 : Int32) (S : Pool), wX6_findAt post v0 v1 S → ∀ (H : Heap) (locs : List Loc) (ls : Array Slot), PB D cy A s S H locs → lv_has ls 2 [(0, va_rf v0), (1, .int v1)] → W p l e R s m args below meth c H locs 0 0 (MQ below (va_Qq post (PQ D cy A) A) args s 0 0 A) (F0 m 0 ls []) := by
  intro v0 v1 S h H locs ls B hl
  unfold wX6_findAt at h
  refine lv_iload_n M.1 M.2.1 dX6_findAt_0 rfl (lv_at hl 1 rfl) ?_
  refine lv_if_lt (tgt := 21) M.1 M.2.1 dX6_findAt_1 (by decide) (fun c1 => ?_) (fun c1 => ?_)
  · have h := h.1 c1
    exact tX6_findAt_21 M hr hlk hRf hRl hRc hRs _ h _ _ _ B (lv_sub hl [] rfl)
  · have h := h.2 c1
    refine lv_iload_n M.1 M.2.1 dX6_findAt_4 rfl (lv_at hl 1 rfl) ?_
    refine g_aload_n M dX6_findAt_5 rfl (lv_at hl 0 rfl) ?_
    refine gfX6_100 M B dX6_findAt_6 h (fun a2 h => ?_)
    refine lv_icmp_ge (tgt := 21) M.1 M.2.1 dX6_findAt_9 (by decide) (fun c3 => ?_) (fun c3 => ?_)
    · have h := h.1 c3
      exact tX6_findAt_21 M hr hlk hRf hRl hRc hRs _ h _ _ _ B (lv_sub hl [] rfl)
    · have h := h.2 c3
      refine g_aload_n M dX6_findAt_12 rfl (lv_at hl 0 rfl) ?_
      refine gfX6_11 M B dX6_findAt_13 h (fun a4 h => ?_)
      refine lv_iload_n M.1 M.2.1 dX6_findAt_16 rfl (lv_at hl 1 rfl) ?_
      refine g_aald (kd := 12) (t0 := 2) M B ⟨by decide, by decide⟩ rfl dX6_findAt_17 h (fun a5 h => ?_)
      refine lv_goto (tgt := 22) M.1 M.2.1 dX6_findAt_18 (by decide) ?_
      exact g_aret M B hr hlk h (by decide) (by decide) dX6_findAt_22
end
set_option maxRecDepth 100000 in
set_option maxHeartbeats 4000000 in
theorem kX6_findAt (l : Launch) (D : va_G) (cy : Nat → ClassId) {post : Option Nat → Pool → Prop} {v0 : Option Nat} {v1 : Int32} {S : Pool} (h : wX6_findAt post v0 v1 S) : MetR l yX6_findAt cX6_findAt 2 (some (FieldType.object "LogHunt$Act")) rmX6_findAt [va_rf v0, .int v1] D cy S post := by
  intro sz
  refine Met.ofW (cc := cX6_findAt) (maxL := 2) (ret := (some (FieldType.object "LogHunt$Act"))) (by decide) rfl ?_
  intro p e s m args below meth c s₁ B0 hml hv
  obtain ⟨rfl, hpp⟩ := hv
  have hts := atoms_spec (ws := .code yX6_findAt cX6_findAt 2 (some (FieldType.object "LogHunt$Act")) :: Gw) B0.pre
  obtain rfl : s.heap.size = sz := hpp.1
  have hl := lv_entry [va_rf v0, .int v1] (n := 2) (by rw [sl_r, sl_i, sl_0]; decide)
  rw [lg_entry_eq]
  rw [la_r, la_i, la_0] at hl
  exact tX6_findAt (l := l) (R := rmX6_findAt) ⟨B0.exec, B0.bytes, hml, findClass_of_methodNamed B0.named, fun w hw => hts w (List.mem_cons_of_mem _ hw)⟩ B0.returns B0.notSynchronized (Nat.le_refl _) (Nat.le_refl _) (Nat.le_refl _) (Nat.le_refl _) _ _ _ h _ _ _ hpp.pb (lv_sub hl [0, 1] rfl)
-- X6_isFind: LogHunt$Sweep.isFind(LLogHunt$Act;)Z
def wX6_isFind_2 (post : Int32 → Pool → Prop) : Nat → Option Nat → Option Nat → Int32 → Pool → Prop
  | 0 => fun _ _ _ _ => False
  | n + 1 => fun v0 v1 v2 S => xI S v0 6 15 fun a1 => br (a1 ≤ v2) (((0 : Int32) = 0 ∨ (0 : Int32) = 1) ∧ post (0 : Int32) S) (xR S v0 6 1 fun a3 => xaR S a3 12 v2 fun a4 => xI S a4 0 0 fun a5 => xI S v1 0 0 fun a6 => br (a5 = a6) (((1 : Int32) = 0 ∨ (1 : Int32) = 1) ∧ post (1 : Int32) S) (wX6_isFind_2 post n v0 v1 (v2 + 1) S))
def wX6_isFind (post : Int32 → Pool → Prop) (v0 : Option Nat) (v1 : Option Nat) (S : Pool) : Prop := ∃ n1, wX6_isFind_2 post n1 v0 v1 0 S
def rmX6_isFind : Room := { frames := 0, cells := 0, slots := 0, locals := 0 }
section
variable {p : Program} {l : Launch} {e : Env} {R : Room} {s : State} {m : MethodId} {args : Array Value} {below : List Frame} {meth : Method} {c : Code} {D : va_G} {cy : Nat → ClassId} {A : Nat → Prop}
set_option maxRecDepth 100000 in
set_option maxHeartbeats 4000000 in
theorem tX6_isFind_2 {post : Int32 → Pool → Prop} (M : MC p m c cX6_isFind 3 s args RX6) (hr : meth.sig.returnType = (some FieldType.boolean)) (hlk : meth.locks = false) (hRf : 0 ≤ R.frames) (hRl : 0 ≤ R.locals) (hRc : 0 ≤ R.cells) (hRs : 0 ≤ R.slots) : ∀ (n : Nat) (v0 : Option Nat) (v1 : Option Nat) (v2 : Int32) (S : Pool), wX6_isFind_2 post n v0 v1 v2 S → ∀ (H : Heap) (locs : List Loc) (ls : Array Slot), PB D cy A s S H locs → lv_has ls 3 [(0, va_rf v0), (1, va_rf v1), (2, .int v2)] → W p l e R s m args below meth c H locs 0 0 (MQ below (va_Qi post (PQ D cy A) A) args s 0 0 A) (F0 m 2 ls []) := by
  intro n
  induction n with
  | zero => intro v0 v1 v2 S h; exact False.elim h
  | succ n ih =>
    intro v0 v1 v2 S h H locs ls B hl
    unfold wX6_isFind_2 at h
    refine lv_iload_n M.1 M.2.1 dX6_isFind_2 rfl (lv_at hl 2 rfl) ?_
    refine g_aload_n M dX6_isFind_3 rfl (lv_at hl 0 rfl) ?_
    refine gfX6_100 M B dX6_isFind_4 h (fun a1 h => ?_)
    refine lv_icmp_ge (tgt := 34) M.1 M.2.1 dX6_isFind_7 (by decide) (fun c2 => ?_) (fun c2 => ?_)
    · have h := h.1 c2
      refine lv_iconst (v := 0) M.1 M.2.1 dX6_isFind_34 (by decide) ?_
      exact g_zret M B hr hlk h (by decide) (by decide) dX6_isFind_35
    · have h := h.2 c2
      refine g_aload_n M dX6_isFind_10 rfl (lv_at hl 0 rfl) ?_
      refine gfX6_11 M B dX6_isFind_11 h (fun a3 h => ?_)
      refine lv_iload_n M.1 M.2.1 dX6_isFind_14 rfl (lv_at hl 2 rfl) ?_
      refine g_aald (kd := 12) (t0 := 2) M B ⟨by decide, by decide⟩ rfl dX6_isFind_15 h (fun a4 h => ?_)
      refine gfX6_90 M B dX6_isFind_16 h (fun a5 h => ?_)
      refine g_aload_n M dX6_isFind_19 rfl (lv_at hl 1 rfl) ?_
      refine gfX6_90 M B dX6_isFind_20 h (fun a6 h => ?_)
      refine lv_icmp_ne (tgt := 28) M.1 M.2.1 dX6_isFind_23 (by decide) (fun c7 => ?_) (fun c7 => ?_)
      · have h := h.2 c7
        refine lv_iinc (v := v2 + 1) (lv' := [(2, .int (v2 + 1)), (0, va_rf v0), (1, va_rf v1)]) M.1 M.2.1 dX6_isFind_28 hl (k := 2) rfl (by rfl) (by decide) (fl_e (fl_k rfl rfl (fl_r rfl (fl_d rfl fl_0)))) (fun ls hl => ?_)
        refine lv_goto (tgt := 2) M.1 M.2.1 dX6_isFind_31 (by decide) ?_
        exact ih _ _ _ _ h _ _ _ B (lv_sub hl [1, 2, 0] rfl)
      · have h := h.1 c7
        refine lv_iconst (v := 1) M.1 M.2.1 dX6_isFind_26 (by decide) ?_
        exact g_zret M B hr hlk h (by decide) (by decide) dX6_isFind_27
set_option maxRecDepth 100000 in
set_option maxHeartbeats 4000000 in
theorem tX6_isFind {post : Int32 → Pool → Prop} (M : MC p m c cX6_isFind 3 s args RX6) (hr : meth.sig.returnType = (some FieldType.boolean)) (hlk : meth.locks = false) (hRf : 0 ≤ R.frames) (hRl : 0 ≤ R.locals) (hRc : 0 ≤ R.cells) (hRs : 0 ≤ R.slots) : ∀ (v0 : Option Nat) (v1 : Option Nat) (S : Pool), wX6_isFind post v0 v1 S → ∀ (H : Heap) (locs : List Loc) (ls : Array Slot), PB D cy A s S H locs → lv_has ls 3 [(0, va_rf v0), (1, va_rf v1)] → W p l e R s m args below meth c H locs 0 0 (MQ below (va_Qi post (PQ D cy A) A) args s 0 0 A) (F0 m 0 ls []) := by
  intro v0 v1 S h H locs ls B hl
  unfold wX6_isFind at h
  refine lv_iconst (v := 0) M.1 M.2.1 dX6_isFind_0 (by decide) ?_
  refine lv_istore_n (lv' := [(2, .int 0), (0, va_rf v0), (1, va_rf v1)]) M.1 M.2.1 dX6_isFind_1 rfl hl (by decide) (fl_e (fl_k rfl rfl (fl_r rfl fl_0))) (fun ls hl => ?_)
  obtain ⟨n1, h⟩ := h
  exact tX6_isFind_2 M hr hlk hRf hRl hRc hRs n1 _ _ _ _ h _ _ _ B (lv_sub hl [1, 2, 0] rfl)
end
set_option maxRecDepth 100000 in
set_option maxHeartbeats 4000000 in
theorem kX6_isFind (l : Launch) (D : va_G) (cy : Nat → ClassId) {post : Int32 → Pool → Prop} {v0 : Option Nat} {v1 : Option Nat} {S : Pool} (h : wX6_isFind post v0 v1 S) : MetI l yX6_isFind cX6_isFind 3 (some FieldType.boolean) rmX6_isFind [va_rf v0, va_rf v1] D cy S post := by
  intro sz
  refine Met.ofW (cc := cX6_isFind) (maxL := 3) (ret := (some FieldType.boolean)) (by decide) rfl ?_
  intro p e s m args below meth c s₁ B0 hml hv
  obtain ⟨rfl, hpp⟩ := hv
  have hts := atoms_spec (ws := .code yX6_isFind cX6_isFind 3 (some FieldType.boolean) :: Gw) B0.pre
  obtain rfl : s.heap.size = sz := hpp.1
  have hl := lv_entry [va_rf v0, va_rf v1] (n := 3) (by rw [sl_r, sl_r, sl_0]; decide)
  rw [lg_entry_eq]
  rw [la_r, la_r, la_0] at hl
  exact tX6_isFind (l := l) (R := rmX6_isFind) ⟨B0.exec, B0.bytes, hml, findClass_of_methodNamed B0.named, fun w hw => hts w (List.mem_cons_of_mem _ hw)⟩ B0.returns B0.notSynchronized (Nat.le_refl _) (Nat.le_refl _) (Nat.le_refl _) (Nat.le_refl _) _ _ _ h _ _ _ hpp.pb (lv_sub hl [0, 1] rfl)
-- X6_proofAct: LogHunt$Sweep.proofAct(II)I
def wX6_proofAct_44 (post : Int32 → Pool → Prop) : Nat → Option Nat → Int32 → Int32 → Int32 → Pool → Prop
  | 0 => fun _ _ _ _ _ => False
  | n + 1 => fun v0 v2 v4 v5 S => br (v5 ≤ v2) (post v4 S) (br (v4 < 0) (post v4 S) (xR S v0 6 2 fun a3 => xaR S a3 15 v5 fun a4 => xaI S a4 10 v4 fun a5 => wX6_proofAct_44 post n v0 v2 a5 (v5 + (-1)) S))
def wX6_proofAct (post : Int32 → Pool → Prop) (v0 : Option Nat) (v1 : Int32) (v2 : Int32) (S : Pool) : Prop := xrc S v0 6 (wX6_findAt (fun a2 S1 => br (a2 = none) (post ((-1)) S1) (br (v2 < 0) (post ((-1)) S1) (xR S1 v0 6 10 fun a5 => xI S1 a5 3 2 fun a6 => br (v2 < a6) (xI S1 a2 0 0 fun a8 => xR S1 v0 6 10 fun a9 => xI S1 a9 3 2 fun a10 => ∃ n1, wX6_proofAct_44 post n1 v0 v2 a8 (a10 - 1) S1) (post ((-1)) S1)))) v0 v1 S)
def rmX6_proofAct : Room := { frames := 1, cells := 0, slots := 0, locals := 21 }
section
variable {p : Program} {l : Launch} {e : Env} {R : Room} {s : State} {m : MethodId} {args : Array Value} {below : List Frame} {meth : Method} {c : Code} {D : va_G} {cy : Nat → ClassId} {A : Nat → Prop}
set_option maxRecDepth 100000 in
set_option maxHeartbeats 4000000 in
theorem tX6_proofAct_44 {post : Int32 → Pool → Prop} (M : MC p m c cX6_proofAct 6 s args RX6) (hr : meth.sig.returnType = (some FieldType.int)) (hlk : meth.locks = false) (hRf : 1 ≤ R.frames) (hRl : 21 ≤ R.locals) (hRc : 0 ≤ R.cells) (hRs : 0 ≤ R.slots) : ∀ (n : Nat) (v0 : Option Nat) (v2 : Int32) (v4 : Int32) (v5 : Int32) (S : Pool), wX6_proofAct_44 post n v0 v2 v4 v5 S → ∀ (H : Heap) (locs : List Loc) (ls : Array Slot), PB D cy A s S H locs → lv_has ls 6 [(0, va_rf v0), (2, .int v2), (4, .int v4), (5, .int v5)] → W p l e R s m args below meth c H locs 0 0 (MQ below (va_Qi post (PQ D cy A) A) args s 0 0 A) (F0 m 44 ls []) := by
  intro n
  induction n with
  | zero => intro v0 v2 v4 v5 S h; exact False.elim h
  | succ n ih =>
    intro v0 v2 v4 v5 S h H locs ls B hl
    unfold wX6_proofAct_44 at h
    refine lv_iload M.1 M.2.1 dX6_proofAct_44 (lv_at hl 3 rfl) ?_
    refine lv_iload_n M.1 M.2.1 dX6_proofAct_46 rfl (lv_at hl 1 rfl) ?_
    refine lv_icmp_le (tgt := 73) M.1 M.2.1 dX6_proofAct_47 (by decide) (fun c1 => ?_) (fun c1 => ?_)
    · have h := h.1 c1
      refine lv_iload M.1 M.2.1 dX6_proofAct_73 (lv_at hl 2 rfl) ?_
      exact g_iret M B hr hlk h (by decide) (by decide) dX6_proofAct_75
    · have h := h.2 c1
      refine lv_iload M.1 M.2.1 dX6_proofAct_50 (lv_at hl 2 rfl) ?_
      refine lv_if_lt (tgt := 73) M.1 M.2.1 dX6_proofAct_52 (by decide) (fun c2 => ?_) (fun c2 => ?_)
      · have h := h.1 c2
        refine lv_iload M.1 M.2.1 dX6_proofAct_73 (lv_at hl 2 rfl) ?_
        exact g_iret M B hr hlk h (by decide) (by decide) dX6_proofAct_75
      · have h := h.2 c2
        refine g_aload_n M dX6_proofAct_55 rfl (lv_at hl 0 rfl) ?_
        refine gfX6_19 M B dX6_proofAct_56 h (fun a3 h => ?_)
        refine lv_iload M.1 M.2.1 dX6_proofAct_59 (lv_at hl 3 rfl) ?_
        refine g_aaldA M B dX6_proofAct_61 h (fun a4 h => ?_)
        refine lv_iload M.1 M.2.1 dX6_proofAct_62 (lv_at hl 2 rfl) ?_
        refine g_iald M B dX6_proofAct_64 h (fun a5 h => ?_)
        refine lv_istore (lv' := [(4, .int a5), (0, va_rf v0), (2, .int v2), (5, .int v5)]) M.1 M.2.1 dX6_proofAct_65 hl (by decide) (fl_e (fl_k rfl rfl (fl_k rfl rfl (fl_d rfl (fl_k rfl rfl fl_0))))) (fun ls hl => ?_)
        refine lv_iinc (v := v5 + (-1)) (lv' := [(5, .int (v5 + (-1))), (4, .int a5), (0, va_rf v0), (2, .int v2)]) M.1 M.2.1 dX6_proofAct_67 hl (k := 3) rfl (by rfl) (by decide) (fl_e (fl_i rfl (fl_k rfl rfl (fl_k rfl rfl (fl_d rfl fl_0))))) (fun ls hl => ?_)
        refine lv_goto (tgt := 44) M.1 M.2.1 dX6_proofAct_70 (by decide) ?_
        exact ih _ _ _ _ _ h _ _ _ B (lv_sub hl [2, 3, 1, 0] rfl)
set_option maxRecDepth 100000 in
set_option maxHeartbeats 4000000 in
theorem tX6_proofAct {post : Int32 → Pool → Prop} (M : MC p m c cX6_proofAct 6 s args RX6) (hr : meth.sig.returnType = (some FieldType.int)) (hlk : meth.locks = false) (hRf : 1 ≤ R.frames) (hRl : 21 ≤ R.locals) (hRc : 0 ≤ R.cells) (hRs : 0 ≤ R.slots) : ∀ (v0 : Option Nat) (v1 : Int32) (v2 : Int32) (S : Pool), wX6_proofAct post v0 v1 v2 S → ∀ (H : Heap) (locs : List Loc) (ls : Array Slot), PB D cy A s S H locs → lv_has ls 6 [(0, va_rf v0), (1, .int v1), (2, .int v2)] → W p l e R s m args below meth c H locs 0 0 (MQ below (va_Qi post (PQ D cy A) A) args s 0 0 A) (F0 m 0 ls []) := by
  intro v0 v1 v2 S h H locs ls B hl
  unfold wX6_proofAct at h
  refine g_aload_n M dX6_proofAct_0 rfl (lv_at hl 0 rfl) ?_
  refine lv_iload_n M.1 M.2.1 dX6_proofAct_1 rfl (lv_at hl 1 rfl) ?_
  obtain ⟨o1, e1, hL1, hK1, h⟩ := h
  refine g_callr (k1 := 0) (k2 := 0) B (g_runV (n := 1) (As := [.int v1]) (rm := rmX6_findAt) M B e1 (kX6_findAt (v0 := v0) (v1 := v1) l D cy h _) wmX6_186 wiX6_findAt wsX6_findAt wnX6 wcdX6_findAt ⟨rfl, by decide, by decide, by decide +kernel⟩ ⟨Nat.le_trans (by decide) hRf, Nat.le_trans (by decide) hRl⟩ ⟨Nat.le_trans (by decide) hRc, Nat.le_trans (by decide) hRs⟩ hL1 hK1 (by decide) rfl rfl rfl hl.1 rfl ct_0 (by decide) dX6_proofAct_2) (by decide) (by decide) (fun a2 S1 H locs h B => ?_)
  refine g_astore_n (lv' := [(3, va_rf a2), (0, va_rf v0), (1, .int v1), (2, .int v2)]) M dX6_proofAct_5 rfl hl (by decide) (fl_e (fl_k rfl rfl (fl_k rfl rfl (fl_i rfl fl_0)))) (fun ls hl => ?_)
  refine g_aload_n M dX6_proofAct_6 rfl (lv_at hl 0 rfl) ?_
  refine g_ifnull (tgt := 25) M dX6_proofAct_7 (by decide) (fun c3 => ?_) (fun c3 => ?_)
  · have h := h.1 c3
    refine lv_iconst (v := (-1)) M.1 M.2.1 dX6_proofAct_25 (by decide) ?_
    exact g_iret M B hr hlk h (by decide) (by decide) dX6_proofAct_26
  · have h := h.2 c3
    refine lv_iload_n M.1 M.2.1 dX6_proofAct_10 rfl (lv_at hl 3 rfl) ?_
    refine lv_if_lt (tgt := 25) M.1 M.2.1 dX6_proofAct_11 (by decide) (fun c4 => ?_) (fun c4 => ?_)
    · have h := h.1 c4
      refine lv_iconst (v := (-1)) M.1 M.2.1 dX6_proofAct_25 (by decide) ?_
      exact g_iret M B hr hlk h (by decide) (by decide) dX6_proofAct_26
    · have h := h.2 c4
      refine lv_iload_n M.1 M.2.1 dX6_proofAct_14 rfl (lv_at hl 3 rfl) ?_
      refine g_aload_n M dX6_proofAct_15 rfl (lv_at hl 1 rfl) ?_
      refine gfX6_47 M B dX6_proofAct_16 h (fun a5 h => ?_)
      refine gfX6_150 M B dX6_proofAct_19 h (fun a6 h => ?_)
      refine lv_icmp_lt (tgt := 27) M.1 M.2.1 dX6_proofAct_22 (by decide) (fun c7 => ?_) (fun c7 => ?_)
      · have h := h.1 c7
        refine g_aload_n M dX6_proofAct_27 rfl (lv_at hl 0 rfl) ?_
        refine gfX6_90 M B dX6_proofAct_28 h (fun a8 h => ?_)
        refine lv_istore (lv' := [(4, .int a8), (3, va_rf a2), (0, va_rf v0), (1, .int v1), (2, .int v2)]) M.1 M.2.1 dX6_proofAct_31 hl (by decide) (fl_e (fl_r rfl (fl_k rfl rfl (fl_k rfl rfl (fl_k rfl rfl fl_0))))) (fun ls hl => ?_)
        refine g_aload_n M dX6_proofAct_33 rfl (lv_at hl 2 rfl) ?_
        refine gfX6_47 M B dX6_proofAct_34 h (fun a9 h => ?_)
        refine gfX6_150 M B dX6_proofAct_37 h (fun a10 h => ?_)
        refine lv_iconst (v := 1) M.1 M.2.1 dX6_proofAct_40 (by decide) ?_
        refine lv_isub M.1 M.2.1 dX6_proofAct_41 ?_
        refine lv_istore (lv' := [(5, .int (a10 - 1)), (4, .int a8), (3, va_rf a2), (0, va_rf v0), (1, .int v1), (2, .int v2)]) M.1 M.2.1 dX6_proofAct_42 hl (by decide) (fl_e (fl_i rfl (fl_k rfl rfl (fl_k rfl rfl (fl_k rfl rfl (fl_k rfl rfl fl_0)))))) (fun ls hl => ?_)
        obtain ⟨n1, h⟩ := h
        exact tX6_proofAct_44 M hr hlk hRf hRl hRc hRs n1 _ _ _ _ _ h _ _ _ B (lv_sub hl [3, 5, 1, 0] rfl)
      · have h := h.2 c7
        refine lv_iconst (v := (-1)) M.1 M.2.1 dX6_proofAct_25 (by decide) ?_
        exact g_iret M B hr hlk h (by decide) (by decide) dX6_proofAct_26
end
set_option maxRecDepth 100000 in
set_option maxHeartbeats 4000000 in
theorem kX6_proofAct (l : Launch) (D : va_G) (cy : Nat → ClassId) {post : Int32 → Pool → Prop} {v0 : Option Nat} {v1 : Int32} {v2 : Int32} {S : Pool} (h : wX6_proofAct post v0 v1 v2 S) : MetI l yX6_proofAct cX6_proofAct 6 (some FieldType.int) rmX6_proofAct [va_rf v0, .int v1, .int v2] D cy S post := by
  intro sz
  refine Met.ofW (cc := cX6_proofAct) (maxL := 6) (ret := (some FieldType.int)) (by decide) rfl ?_
  intro p e s m args below meth c s₁ B0 hml hv
  obtain ⟨rfl, hpp⟩ := hv
  have hts := atoms_spec (ws := .code yX6_proofAct cX6_proofAct 6 (some FieldType.int) :: Gw) B0.pre
  obtain rfl : s.heap.size = sz := hpp.1
  have hl := lv_entry [va_rf v0, .int v1, .int v2] (n := 6) (by rw [sl_r, sl_i, sl_i, sl_0]; decide)
  rw [lg_entry_eq]
  rw [la_r, la_i, la_i, la_0] at hl
  exact tX6_proofAct (l := l) (R := rmX6_proofAct) ⟨B0.exec, B0.bytes, hml, findClass_of_methodNamed B0.named, fun w hw => hts w (List.mem_cons_of_mem _ hw)⟩ B0.returns B0.notSynchronized (Nat.le_refl _) (Nat.le_refl _) (Nat.le_refl _) (Nat.le_refl _) _ _ _ _ h _ _ _ hpp.pb (lv_sub hl [0, 1, 2] rfl)
-- X6_fewestFits: LogHunt$Sweep.fewestFits()I
def wX6_fewestFits_6 (post : Int32 → Pool → Prop) : Nat → Option Nat → Int32 → Int32 → Pool → Prop
  | 0 => fun _ _ _ _ => False
  | n + 1 => fun v0 v1 v2 S => xR S v0 6 10 fun a1 => xI S a1 3 2 fun a2 => br (a2 ≤ v2) (post v1 S) (xR S v0 6 3 fun a4 => xaI S a4 10 v2 fun a5 => wX6_fewestFits_6 post n v0 (if a5 < v1 then a5 else v1) (v2 + 1) S)
def wX6_fewestFits (post : Int32 → Pool → Prop) (v0 : Option Nat) (S : Pool) : Prop := ∃ n1, wX6_fewestFits_6 post n1 v0 250 0 S
def rmX6_fewestFits : Room := { frames := 1, cells := 0, slots := 0, locals := 21 }
section
variable {p : Program} {l : Launch} {e : Env} {R : Room} {s : State} {m : MethodId} {args : Array Value} {below : List Frame} {meth : Method} {c : Code} {D : va_G} {cy : Nat → ClassId} {A : Nat → Prop}
set_option maxRecDepth 100000 in
set_option maxHeartbeats 4000000 in
theorem tX6_fewestFits_6 {post : Int32 → Pool → Prop} (M : MC p m c cX6_fewestFits 3 s args RX6) (hr : meth.sig.returnType = (some FieldType.int)) (hlk : meth.locks = false) (hRf : 1 ≤ R.frames) (hRl : 21 ≤ R.locals) (hRc : 0 ≤ R.cells) (hRs : 0 ≤ R.slots) : ∀ (n : Nat) (v0 : Option Nat) (v1 : Int32) (v2 : Int32) (S : Pool), wX6_fewestFits_6 post n v0 v1 v2 S → ∀ (H : Heap) (locs : List Loc) (ls : Array Slot), PB D cy A s S H locs → lv_has ls 3 [(0, va_rf v0), (1, .int v1), (2, .int v2)] → W p l e R s m args below meth c H locs 0 0 (MQ below (va_Qi post (PQ D cy A) A) args s 0 0 A) (F0 m 6 ls []) := by
  intro n
  induction n with
  | zero => intro v0 v1 v2 S h; exact False.elim h
  | succ n ih =>
    intro v0 v1 v2 S h H locs ls B hl
    unfold wX6_fewestFits_6 at h
    refine lv_iload_n M.1 M.2.1 dX6_fewestFits_6 rfl (lv_at hl 2 rfl) ?_
    refine g_aload_n M dX6_fewestFits_7 rfl (lv_at hl 0 rfl) ?_
    refine gfX6_47 M B dX6_fewestFits_8 h (fun a1 h => ?_)
    refine gfX6_150 M B dX6_fewestFits_11 h (fun a2 h => ?_)
    refine lv_icmp_ge (tgt := 34) M.1 M.2.1 dX6_fewestFits_14 (by decide) (fun c3 => ?_) (fun c3 => ?_)
    · have h := h.1 c3
      refine lv_iload_n M.1 M.2.1 dX6_fewestFits_34 rfl (lv_at hl 1 rfl) ?_
      exact g_iret M B hr hlk h (by decide) (by decide) dX6_fewestFits_35
    · have h := h.2 c3
      refine lv_iload_n M.1 M.2.1 dX6_fewestFits_17 rfl (lv_at hl 1 rfl) ?_
      refine g_aload_n M dX6_fewestFits_18 rfl (lv_at hl 0 rfl) ?_
      refine gfX6_22 M B dX6_fewestFits_19 h (fun a4 h => ?_)
      refine lv_iload_n M.1 M.2.1 dX6_fewestFits_22 rfl (lv_at hl 2 rfl) ?_
      refine g_iald M B dX6_fewestFits_23 h (fun a5 h => ?_)
      refine g_min M wmX6_190 hl.1 (Nat.le_trans (by decide) hRf) (Nat.le_trans (by decide) hRl) (Nat.le_trans (by decide) hRc) (Nat.le_trans (by decide) hRs) ct_0 (by decide) dX6_fewestFits_24 ?_
      refine lv_istore_n (lv' := [(1, .int (if a5 < v1 then a5 else v1)), (0, va_rf v0), (2, .int v2)]) M.1 M.2.1 dX6_fewestFits_27 rfl hl (by decide) (fl_e (fl_r rfl (fl_d rfl (fl_k rfl rfl fl_0)))) (fun ls hl => ?_)
      refine lv_iinc (v := v2 + 1) (lv' := [(2, .int (v2 + 1)), (1, .int (if a5 < v1 then a5 else v1)), (0, va_rf v0)]) M.1 M.2.1 dX6_fewestFits_28 hl (k := 2) rfl (by rfl) (by decide) (fl_e (fl_i rfl (fl_k rfl rfl (fl_d rfl fl_0)))) (fun ls hl => ?_)
      refine lv_goto (tgt := 6) M.1 M.2.1 dX6_fewestFits_31 (by decide) ?_
      exact ih _ _ _ _ h _ _ _ B (lv_sub hl [2, 1, 0] rfl)
set_option maxRecDepth 100000 in
set_option maxHeartbeats 4000000 in
theorem tX6_fewestFits {post : Int32 → Pool → Prop} (M : MC p m c cX6_fewestFits 3 s args RX6) (hr : meth.sig.returnType = (some FieldType.int)) (hlk : meth.locks = false) (hRf : 1 ≤ R.frames) (hRl : 21 ≤ R.locals) (hRc : 0 ≤ R.cells) (hRs : 0 ≤ R.slots) : ∀ (v0 : Option Nat) (S : Pool), wX6_fewestFits post v0 S → ∀ (H : Heap) (locs : List Loc) (ls : Array Slot), PB D cy A s S H locs → lv_has ls 3 [(0, va_rf v0)] → W p l e R s m args below meth c H locs 0 0 (MQ below (va_Qi post (PQ D cy A) A) args s 0 0 A) (F0 m 0 ls []) := by
  intro v0 S h H locs ls B hl
  unfold wX6_fewestFits at h
  refine lv_sipush (v := 250) M.1 M.2.1 dX6_fewestFits_0 (by decide) ?_
  refine lv_istore_n (lv' := [(1, .int 250), (0, va_rf v0)]) M.1 M.2.1 dX6_fewestFits_3 rfl hl (by decide) (fl_e (fl_r rfl fl_0)) (fun ls hl => ?_)
  refine lv_iconst (v := 0) M.1 M.2.1 dX6_fewestFits_4 (by decide) ?_
  refine lv_istore_n (lv' := [(2, .int 0), (1, .int 250), (0, va_rf v0)]) M.1 M.2.1 dX6_fewestFits_5 rfl hl (by decide) (fl_e (fl_i rfl (fl_k rfl rfl fl_0))) (fun ls hl => ?_)
  obtain ⟨n1, h⟩ := h
  exact tX6_fewestFits_6 M hr hlk hRf hRl hRc hRs n1 _ _ _ _ h _ _ _ B (lv_sub hl [2, 1, 0] rfl)
end
set_option maxRecDepth 100000 in
set_option maxHeartbeats 4000000 in
theorem kX6_fewestFits (l : Launch) (D : va_G) (cy : Nat → ClassId) {post : Int32 → Pool → Prop} {v0 : Option Nat} {S : Pool} (h : wX6_fewestFits post v0 S) : MetI l yX6_fewestFits cX6_fewestFits 3 (some FieldType.int) rmX6_fewestFits [va_rf v0] D cy S post := by
  intro sz
  refine Met.ofW (cc := cX6_fewestFits) (maxL := 3) (ret := (some FieldType.int)) (by decide) rfl ?_
  intro p e s m args below meth c s₁ B0 hml hv
  obtain ⟨rfl, hpp⟩ := hv
  have hts := atoms_spec (ws := .code yX6_fewestFits cX6_fewestFits 3 (some FieldType.int) :: Gw) B0.pre
  obtain rfl : s.heap.size = sz := hpp.1
  have hl := lv_entry [va_rf v0] (n := 3) (by rw [sl_r, sl_0]; decide)
  rw [lg_entry_eq]
  rw [la_r, la_0] at hl
  exact tX6_fewestFits (l := l) (R := rmX6_fewestFits) ⟨B0.exec, B0.bytes, hml, findClass_of_methodNamed B0.named, fun w hw => hts w (List.mem_cons_of_mem _ hw)⟩ B0.returns B0.notSynchronized (Nat.le_refl _) (Nat.le_refl _) (Nat.le_refl _) (Nat.le_refl _) _ _ h _ _ _ hpp.pb (lv_sub hl [0] rfl)
-- X6_widestField: LogHunt$Sweep.widestField()I
def wX6_widestField_67 (K6 : Option Nat → Int32 → Int32 → Int32 → Pool → Prop) (post : Int32 → Pool → Prop) (v0 : Option Nat) (v1 : Int32) (v2 : Int32) (v3 : Int32) (S : Pool) : Prop := K6 v0 v1 v2 (v3 + 1) S
def wX6_widestField_17 (K6 : Option Nat → Int32 → Int32 → Int32 → Pool → Prop) (post : Int32 → Pool → Prop) : Nat → Option Nat → Int32 → Int32 → Int32 → Int32 → Int32 → Pool → Prop
  | 0 => fun _ _ _ _ _ _ _ => False
  | n + 1 => fun v0 v1 v2 v3 v4 v5 S => xI S v0 6 15 fun a1 => br (a1 ≤ v5) (wJ6_bitCount_0f7a4 (fun a4 S3 => br (a4 ≤ v2) (wX6_widestField_67 K6 post v0 v1 v2 v3 S3) (wJ6_bitCount_0f7a4 (fun a7 S6 => wX6_widestField_67 K6 post v0 v3 a7 v3 S6) v4 S3)) v4 S) (xR S v0 6 1 fun a8 => xaR S a8 12 v5 fun a9 => xrc S a9 0 (wX0_valueIn (fun a11 S10 => wX6_widestField_17 K6 post n v0 v1 v2 v3 (v4 ||| ((1 : Int32) <<< (a11 &&& 31))) (v5 + 1) S10) a9 v3 S))
def wX6_widestField_6 (post : Int32 → Pool → Prop) : Nat → Option Nat → Int32 → Int32 → Int32 → Pool → Prop
  | 0 => fun _ _ _ _ _ => False
  | n + 1 => fun v0 v1 v2 v3 S => br (3 ≤ v3) (post v1 S) (∃ n1, wX6_widestField_17 (wX6_widestField_6 post n) post n1 v0 v1 v2 v3 0 0 S)
def wX6_widestField (post : Int32 → Pool → Prop) (v0 : Option Nat) (S : Pool) : Prop := ∃ n1, wX6_widestField_6 post n1 v0 ((-1)) 0 0 S
def rmX6_widestField : Room := { frames := 1, cells := 0, slots := 0, locals := 21 }
section
variable {p : Program} {l : Launch} {e : Env} {R : Room} {s : State} {m : MethodId} {args : Array Value} {below : List Frame} {meth : Method} {c : Code} {D : va_G} {cy : Nat → ClassId} {A : Nat → Prop}
set_option maxRecDepth 100000 in
set_option maxHeartbeats 4000000 in
theorem tX6_widestField_67 {K6 : Option Nat → Int32 → Int32 → Int32 → Pool → Prop} {post : Int32 → Pool → Prop} (M : MC p m c cX6_widestField 6 s args RX6) (hr : meth.sig.returnType = (some FieldType.int)) (hlk : meth.locks = false) (hRf : 1 ≤ R.frames) (hRl : 21 ≤ R.locals) (hRc : 0 ≤ R.cells) (hRs : 0 ≤ R.slots) (hK6 : ∀ (v0 : Option Nat) (v1 : Int32) (v2 : Int32) (v3 : Int32) (S : Pool), K6 v0 v1 v2 v3 S → ∀ (H : Heap) (locs : List Loc) (ls : Array Slot), PB D cy A s S H locs → lv_has ls 6 [(0, va_rf v0), (1, .int v1), (2, .int v2), (3, .int v3)] → W p l e R s m args below meth c H locs 0 0 (MQ below (va_Qi post (PQ D cy A) A) args s 0 0 A) (F0 m 6 ls [])) : ∀ (v0 : Option Nat) (v1 : Int32) (v2 : Int32) (v3 : Int32) (S : Pool), wX6_widestField_67 K6 post v0 v1 v2 v3 S → ∀ (H : Heap) (locs : List Loc) (ls : Array Slot), PB D cy A s S H locs → lv_has ls 6 [(0, va_rf v0), (1, .int v1), (2, .int v2), (3, .int v3)] → W p l e R s m args below meth c H locs 0 0 (MQ below (va_Qi post (PQ D cy A) A) args s 0 0 A) (F0 m 67 ls []) := by
  intro v0 v1 v2 v3 S h H locs ls B hl
  unfold wX6_widestField_67 at h
  refine lv_iinc (v := v3 + 1) (lv' := [(3, .int (v3 + 1)), (0, va_rf v0), (1, .int v1), (2, .int v2)]) M.1 M.2.1 dX6_widestField_67 hl (k := 3) rfl (by rfl) (by decide) (fl_e (fl_k rfl rfl (fl_k rfl rfl (fl_i rfl (fl_d rfl fl_0))))) (fun ls hl => ?_)
  refine lv_goto (tgt := 6) M.1 M.2.1 dX6_widestField_70 (by decide) ?_
  exact hK6 _ _ _ _ _ h _ _ _ B (lv_sub hl [1, 2, 3, 0] rfl)
set_option maxRecDepth 100000 in
set_option maxHeartbeats 4000000 in
theorem tX6_widestField_17 {K6 : Option Nat → Int32 → Int32 → Int32 → Pool → Prop} {post : Int32 → Pool → Prop} (M : MC p m c cX6_widestField 6 s args RX6) (hr : meth.sig.returnType = (some FieldType.int)) (hlk : meth.locks = false) (hRf : 1 ≤ R.frames) (hRl : 21 ≤ R.locals) (hRc : 0 ≤ R.cells) (hRs : 0 ≤ R.slots) (hK6 : ∀ (v0 : Option Nat) (v1 : Int32) (v2 : Int32) (v3 : Int32) (S : Pool), K6 v0 v1 v2 v3 S → ∀ (H : Heap) (locs : List Loc) (ls : Array Slot), PB D cy A s S H locs → lv_has ls 6 [(0, va_rf v0), (1, .int v1), (2, .int v2), (3, .int v3)] → W p l e R s m args below meth c H locs 0 0 (MQ below (va_Qi post (PQ D cy A) A) args s 0 0 A) (F0 m 6 ls [])) : ∀ (n : Nat) (v0 : Option Nat) (v1 : Int32) (v2 : Int32) (v3 : Int32) (v4 : Int32) (v5 : Int32) (S : Pool), wX6_widestField_17 K6 post n v0 v1 v2 v3 v4 v5 S → ∀ (H : Heap) (locs : List Loc) (ls : Array Slot), PB D cy A s S H locs → lv_has ls 6 [(0, va_rf v0), (1, .int v1), (2, .int v2), (3, .int v3), (4, .int v4), (5, .int v5)] → W p l e R s m args below meth c H locs 0 0 (MQ below (va_Qi post (PQ D cy A) A) args s 0 0 A) (F0 m 17 ls []) := by
  intro n
  induction n with
  | zero => intro v0 v1 v2 v3 v4 v5 S h; exact False.elim h
  | succ n ih =>
    intro v0 v1 v2 v3 v4 v5 S h H locs ls B hl
    unfold wX6_widestField_17 at h
    refine lv_iload M.1 M.2.1 dX6_widestField_17 (lv_at hl 5 rfl) ?_
    refine g_aload_n M dX6_widestField_19 rfl (lv_at hl 0 rfl) ?_
    refine gfX6_100 M B dX6_widestField_20 h (fun a1 h => ?_)
    refine lv_icmp_ge (tgt := 50) M.1 M.2.1 dX6_widestField_23 (by decide) (fun c2 => ?_) (fun c2 => ?_)
    · have h := h.1 c2
      refine lv_iload M.1 M.2.1 dX6_widestField_50 (lv_at hl 4 rfl) ?_
      refine g_calli (k1 := 0) (k2 := 0) B (g_runS (n := 1) (As := [.int v4]) (rm := rmJ6_bitCount_0f7a4) M B (kJ6_bitCount_0f7a4 (v0 := v4) l D cy h _) wmX6_196 wstJ6_bitCount_0f7a4 wnJ6 wcdJ6_bitCount_0f7a4 ⟨by decide, by decide, by decide +kernel⟩ ⟨Nat.le_trans (by decide) hRf, Nat.le_trans (by decide) hRl⟩ ⟨Nat.le_trans (by decide) hRc, Nat.le_trans (by decide) hRs⟩ rfl hl.1 rfl ct_0 (by decide) dX6_widestField_52) (by decide) (by decide) (fun a4 S3 H locs h B => ?_)
      refine lv_iload_n M.1 M.2.1 dX6_widestField_55 rfl (lv_at hl 2 rfl) ?_
      refine lv_icmp_le (tgt := 67) M.1 M.2.1 dX6_widestField_56 (by decide) (fun c5 => ?_) (fun c5 => ?_)
      · have h := h.1 c5
        exact tX6_widestField_67 M hr hlk hRf hRl hRc hRs hK6 _ _ _ _ _ h _ _ _ B (lv_sub hl [0, 1, 2, 3] rfl)
      · have h := h.2 c5
        refine lv_iload M.1 M.2.1 dX6_widestField_59 (lv_at hl 4 rfl) ?_
        refine g_calli (k1 := 0) (k2 := 0) B (g_runS (n := 1) (As := [.int v4]) (rm := rmJ6_bitCount_0f7a4) M B (kJ6_bitCount_0f7a4 (v0 := v4) l D cy h _) wmX6_196 wstJ6_bitCount_0f7a4 wnJ6 wcdJ6_bitCount_0f7a4 ⟨by decide, by decide, by decide +kernel⟩ ⟨Nat.le_trans (by decide) hRf, Nat.le_trans (by decide) hRl⟩ ⟨Nat.le_trans (by decide) hRc, Nat.le_trans (by decide) hRs⟩ rfl hl.1 rfl ct_0 (by decide) dX6_widestField_61) (by decide) (by decide) (fun a7 S6 H locs h B => ?_)
        refine lv_istore_n (lv' := [(2, .int a7), (0, va_rf v0), (1, .int v1), (3, .int v3), (4, .int v4), (5, .int v5)]) M.1 M.2.1 dX6_widestField_64 rfl hl (by decide) (fl_e (fl_k rfl rfl (fl_i rfl (fl_d rfl (fl_k rfl rfl (fl_k rfl rfl (fl_k rfl rfl fl_0))))))) (fun ls hl => ?_)
        refine lv_iload_n M.1 M.2.1 dX6_widestField_65 rfl (lv_at hl 3 rfl) ?_
        refine lv_istore_n (lv' := [(1, .int v3), (2, .int a7), (0, va_rf v0), (3, .int v3), (4, .int v4), (5, .int v5)]) M.1 M.2.1 dX6_widestField_66 rfl hl (by decide) (fl_e (fl_k rfl rfl (fl_r rfl (fl_d rfl (fl_k rfl rfl (fl_k rfl rfl (fl_k rfl rfl fl_0))))))) (fun ls hl => ?_)
        exact tX6_widestField_67 M hr hlk hRf hRl hRc hRs hK6 _ _ _ _ _ h _ _ _ B (lv_sub hl [2, 0, 1, 3] rfl)
    · have h := h.2 c2
      refine lv_iload M.1 M.2.1 dX6_widestField_26 (lv_at hl 4 rfl) ?_
      refine lv_iconst (v := 1) M.1 M.2.1 dX6_widestField_28 (by decide) ?_
      refine g_aload_n M dX6_widestField_29 rfl (lv_at hl 0 rfl) ?_
      refine gfX6_11 M B dX6_widestField_30 h (fun a8 h => ?_)
      refine lv_iload M.1 M.2.1 dX6_widestField_33 (lv_at hl 5 rfl) ?_
      refine g_aald (kd := 12) (t0 := 2) M B ⟨by decide, by decide⟩ rfl dX6_widestField_35 h (fun a9 h => ?_)
      refine lv_iload_n M.1 M.2.1 dX6_widestField_36 rfl (lv_at hl 3 rfl) ?_
      obtain ⟨o1, e1, hL1, hK1, h⟩ := h
      refine g_calli (k1 := 0) (k2 := 0) B (g_runV (n := 1) (As := [.int v3]) (rm := rmX0_valueIn) M B e1 (kX0_valueIn (v0 := a9) (v1 := v3) l D cy h _) wmX6_147 wiX0_valueIn wsX0_valueIn wnX0 wcdX0_valueIn ⟨rfl, by decide, by decide, by decide +kernel⟩ ⟨Nat.le_trans (by decide) hRf, Nat.le_trans (by decide) hRl⟩ ⟨Nat.le_trans (by decide) hRc, Nat.le_trans (by decide) hRs⟩ hL1 hK1 (by decide) rfl rfl rfl hl.1 rfl (ct_i (ct_i ct_0)) (by decide) dX6_widestField_37) (by decide) (by decide) (fun a11 S10 H locs h B => ?_)
      refine lv_ishl M.1 M.2.1 dX6_widestField_40 ?_
      refine lv_ior M.1 M.2.1 dX6_widestField_41 ?_
      refine lv_istore (lv' := [(4, .int (v4 ||| ((1 : Int32) <<< (a11 &&& 31)))), (0, va_rf v0), (1, .int v1), (2, .int v2), (3, .int v3), (5, .int v5)]) M.1 M.2.1 dX6_widestField_42 hl (by decide) (fl_e (fl_k rfl rfl (fl_k rfl rfl (fl_k rfl rfl (fl_i rfl (fl_d rfl (fl_k rfl rfl fl_0))))))) (fun ls hl => ?_)
      refine lv_iinc (v := v5 + 1) (lv' := [(5, .int (v5 + 1)), (4, .int (v4 ||| ((1 : Int32) <<< (a11 &&& 31)))), (0, va_rf v0), (1, .int v1), (2, .int v2), (3, .int v3)]) M.1 M.2.1 dX6_widestField_44 hl (k := 5) rfl (by rfl) (by decide) (fl_e (fl_i rfl (fl_k rfl rfl (fl_k rfl rfl (fl_k rfl rfl (fl_k rfl rfl (fl_d rfl fl_0))))))) (fun ls hl => ?_)
      refine lv_goto (tgt := 17) M.1 M.2.1 dX6_widestField_47 (by decide) ?_
      exact ih _ _ _ _ _ _ _ h _ _ _ B (lv_sub hl [2, 3, 4, 5, 1, 0] rfl)
set_option maxRecDepth 100000 in
set_option maxHeartbeats 4000000 in
theorem tX6_widestField_6 {post : Int32 → Pool → Prop} (M : MC p m c cX6_widestField 6 s args RX6) (hr : meth.sig.returnType = (some FieldType.int)) (hlk : meth.locks = false) (hRf : 1 ≤ R.frames) (hRl : 21 ≤ R.locals) (hRc : 0 ≤ R.cells) (hRs : 0 ≤ R.slots) : ∀ (n : Nat) (v0 : Option Nat) (v1 : Int32) (v2 : Int32) (v3 : Int32) (S : Pool), wX6_widestField_6 post n v0 v1 v2 v3 S → ∀ (H : Heap) (locs : List Loc) (ls : Array Slot), PB D cy A s S H locs → lv_has ls 6 [(0, va_rf v0), (1, .int v1), (2, .int v2), (3, .int v3)] → W p l e R s m args below meth c H locs 0 0 (MQ below (va_Qi post (PQ D cy A) A) args s 0 0 A) (F0 m 6 ls []) := by
  intro n
  induction n with
  | zero => intro v0 v1 v2 v3 S h; exact False.elim h
  | succ n ih =>
    intro v0 v1 v2 v3 S h H locs ls B hl
    unfold wX6_widestField_6 at h
    refine lv_iload_n M.1 M.2.1 dX6_widestField_6 rfl (lv_at hl 3 rfl) ?_
    refine lv_iconst (v := 3) M.1 M.2.1 dX6_widestField_7 (by decide) ?_
    refine lv_icmp_ge (tgt := 73) M.1 M.2.1 dX6_widestField_8 (by decide) (fun c1 => ?_) (fun c1 => ?_)
    · have h := h.1 c1
      refine lv_iload_n M.1 M.2.1 dX6_widestField_73 rfl (lv_at hl 1 rfl) ?_
      exact g_iret M B hr hlk h (by decide) (by decide) dX6_widestField_74
    · have h := h.2 c1
      refine lv_iconst (v := 0) M.1 M.2.1 dX6_widestField_11 (by decide) ?_
      refine lv_istore (lv' := [(4, .int 0), (0, va_rf v0), (1, .int v1), (2, .int v2), (3, .int v3)]) M.1 M.2.1 dX6_widestField_12 hl (by decide) (fl_e (fl_k rfl rfl (fl_k rfl rfl (fl_k rfl rfl (fl_i rfl fl_0))))) (fun ls hl => ?_)
      refine lv_iconst (v := 0) M.1 M.2.1 dX6_widestField_14 (by decide) ?_
      refine lv_istore (lv' := [(5, .int 0), (4, .int 0), (0, va_rf v0), (1, .int v1), (2, .int v2), (3, .int v3)]) M.1 M.2.1 dX6_widestField_15 hl (by decide) (fl_e (fl_i rfl (fl_k rfl rfl (fl_k rfl rfl (fl_k rfl rfl (fl_k rfl rfl fl_0)))))) (fun ls hl => ?_)
      obtain ⟨n1, h⟩ := h
      exact tX6_widestField_17 M hr hlk hRf hRl hRc hRs ih n1 _ _ _ _ _ _ _ h _ _ _ B (lv_sub hl [2, 3, 4, 5, 1, 0] rfl)
set_option maxRecDepth 100000 in
set_option maxHeartbeats 4000000 in
theorem tX6_widestField {post : Int32 → Pool → Prop} (M : MC p m c cX6_widestField 6 s args RX6) (hr : meth.sig.returnType = (some FieldType.int)) (hlk : meth.locks = false) (hRf : 1 ≤ R.frames) (hRl : 21 ≤ R.locals) (hRc : 0 ≤ R.cells) (hRs : 0 ≤ R.slots) : ∀ (v0 : Option Nat) (S : Pool), wX6_widestField post v0 S → ∀ (H : Heap) (locs : List Loc) (ls : Array Slot), PB D cy A s S H locs → lv_has ls 6 [(0, va_rf v0)] → W p l e R s m args below meth c H locs 0 0 (MQ below (va_Qi post (PQ D cy A) A) args s 0 0 A) (F0 m 0 ls []) := by
  intro v0 S h H locs ls B hl
  unfold wX6_widestField at h
  refine lv_iconst (v := (-1)) M.1 M.2.1 dX6_widestField_0 (by decide) ?_
  refine lv_istore_n (lv' := [(1, .int ((-1))), (0, va_rf v0)]) M.1 M.2.1 dX6_widestField_1 rfl hl (by decide) (fl_e (fl_r rfl fl_0)) (fun ls hl => ?_)
  refine lv_iconst (v := 0) M.1 M.2.1 dX6_widestField_2 (by decide) ?_
  refine lv_istore_n (lv' := [(2, .int 0), (1, .int ((-1))), (0, va_rf v0)]) M.1 M.2.1 dX6_widestField_3 rfl hl (by decide) (fl_e (fl_i rfl (fl_k rfl rfl fl_0))) (fun ls hl => ?_)
  refine lv_iconst (v := 0) M.1 M.2.1 dX6_widestField_4 (by decide) ?_
  refine lv_istore_n (lv' := [(3, .int 0), (2, .int 0), (1, .int ((-1))), (0, va_rf v0)]) M.1 M.2.1 dX6_widestField_5 rfl hl (by decide) (fl_e (fl_i rfl (fl_k rfl rfl (fl_k rfl rfl fl_0)))) (fun ls hl => ?_)
  obtain ⟨n1, h⟩ := h
  exact tX6_widestField_6 M hr hlk hRf hRl hRc hRs n1 _ _ _ _ _ h _ _ _ B (lv_sub hl [3, 2, 1, 0] rfl)
end
set_option maxRecDepth 100000 in
set_option maxHeartbeats 4000000 in
theorem kX6_widestField (l : Launch) (D : va_G) (cy : Nat → ClassId) {post : Int32 → Pool → Prop} {v0 : Option Nat} {S : Pool} (h : wX6_widestField post v0 S) : MetI l yX6_widestField cX6_widestField 6 (some FieldType.int) rmX6_widestField [va_rf v0] D cy S post := by
  intro sz
  refine Met.ofW (cc := cX6_widestField) (maxL := 6) (ret := (some FieldType.int)) (by decide) rfl ?_
  intro p e s m args below meth c s₁ B0 hml hv
  obtain ⟨rfl, hpp⟩ := hv
  have hts := atoms_spec (ws := .code yX6_widestField cX6_widestField 6 (some FieldType.int) :: Gw) B0.pre
  obtain rfl : s.heap.size = sz := hpp.1
  have hl := lv_entry [va_rf v0] (n := 6) (by rw [sl_r, sl_0]; decide)
  rw [lg_entry_eq]
  rw [la_r, la_0] at hl
  exact tX6_widestField (l := l) (R := rmX6_widestField) ⟨B0.exec, B0.bytes, hml, findClass_of_methodNamed B0.named, fun w hw => hts w (List.mem_cons_of_mem _ hw)⟩ B0.returns B0.notSynchronized (Nat.le_refl _) (Nat.le_refl _) (Nat.le_refl _) (Nat.le_refl _) _ _ h _ _ _ hpp.pb (lv_sub hl [0] rfl)
