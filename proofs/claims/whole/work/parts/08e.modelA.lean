-- X9_init: LogHuntModel.<init>()V
def wX9_init_245 (post : Pool → Prop) : Nat → Option Nat → Int32 → Pool → Prop
  | 0 => fun _ _ _ => False
  | n + 1 => fun v0 v1 S => br (4 ≤ v1) (post S) (xR S v0 9 3 fun a2 => xsI S a2 10 v1 7 fun S3 => wX9_init_245 post n v0 (v1 + 1) S3)
def wX9_init (post : Pool → Prop) (v0 : Option Nat) (S : Pool) : Prop := xnn v0 (xpI S v0 9 2 100 fun S1 => xna S1 10 4 4 fun a2 S3 => xpR S3 v0 9 3 a2 fun S4 => xna S4 10 250 250 fun a5 S6 => xpR S6 v0 9 6 a5 fun S7 => xna S7 10 750 750 fun a8 S9 => xpR S9 v0 9 7 a8 fun S10 => xna S10 10 250 250 fun a11 S12 => xpR S12 v0 9 8 a11 fun S13 => xna S13 10 250 250 fun a14 S15 => xpR S15 v0 9 9 a14 fun S16 => xna S16 10 250 250 fun a17 S18 => xpR S18 v0 9 10 a17 fun S19 => xna S19 10 9 9 fun a20 S21 => xpR S21 v0 9 12 a20 fun S22 => xna S22 10 9 9 fun a23 S24 => xpR S24 v0 9 13 a23 fun S25 => xna S25 11 54 54 fun a26 S27 => xpR S27 v0 9 14 a26 fun S28 => xna S28 10 54 54 fun a29 S30 => xpR S30 v0 9 15 a29 fun S31 => xna S31 10 162 162 fun a32 S33 => xpR S33 v0 9 16 a32 fun S34 => xna S34 11 54 54 fun a35 S36 => xpR S36 v0 9 17 a35 fun S37 => xna S37 10 54 54 fun a38 S39 => xpR S39 v0 9 18 a38 fun S40 => xna S40 10 9 9 fun a41 S42 => xpR S42 v0 9 19 a41 fun S43 => xna S43 10 9 9 fun a44 S45 => xpR S45 v0 9 20 a44 fun S46 => xna S46 10 9 9 fun a47 S48 => xpR S48 v0 9 21 a47 fun S49 => xna S49 10 40 40 fun a50 S51 => xpR S51 v0 9 23 a50 fun S52 => xna S52 10 40 40 fun a53 S54 => xpR S54 v0 9 24 a53 fun S55 => xna S55 10 40 40 fun a56 S57 => xpR S57 v0 9 25 a56 fun S58 => xna S58 10 400 400 fun a59 S60 => xpR S60 v0 9 26 a59 fun S61 => xpI S61 v0 9 30 ((-1)) fun S62 => xna S62 11 1500 1500 fun a63 S64 => xpR S64 v0 9 33 a63 fun S65 => xna S65 11 1500 1500 fun a66 S67 => xpR S67 v0 9 34 a66 fun S68 => xna S68 10 6 6 fun a69 S70 => xpR S70 v0 9 35 a69 fun S71 => xna S71 10 250 250 fun a72 S73 => xpR S73 v0 9 37 a72 fun S74 => xna S74 10 2000 2000 fun a75 S76 => xpR S76 v0 9 39 a75 fun S77 => xna S77 10 2000 2000 fun a78 S79 => xpR S79 v0 9 40 a78 fun S80 => xna S80 10 2000 2000 fun a81 S82 => xpR S82 v0 9 41 a81 fun S83 => ∃ n1, wX9_init_245 post n1 v0 0 S83)
def rmX9_init : Room := { frames := 1, cells := 27, slots := 11953, locals := 12 }
section
variable {p : Program} {l : Launch} {e : Env} {R : Room} {s : State} {m : MethodId} {args : Array Value} {below : List Frame} {meth : Method} {c : Code} {D : va_G} {cy : Nat → ClassId} {A : Nat → Prop}
set_option maxRecDepth 100000 in
set_option maxHeartbeats 4000000 in
theorem tX9_init_245 {post : Pool → Prop} (M : MC p m c cX9_init 2 s args RX9) (hr : meth.sig.returnType = none) (hlk : meth.locks = false) (hRf : 1 ≤ R.frames) (hRl : 12 ≤ R.locals) (hRc : 27 ≤ R.cells) (hRs : 11953 ≤ R.slots) (hin : meth.name = "<init>") : ∀ (n : Nat) (v0 : Option Nat) (v1 : Int32) (S : Pool), wX9_init_245 post n v0 v1 S → ∀ (H : Heap) (locs : List Loc) (ls : Array Slot), PB D cy A s S H locs → lv_has ls 2 [(0, va_rf v0), (1, .int v1)] → W p l e R s m args below meth c H locs 27 11953 (MQ below (va_Qv post (PQ D cy A) A) args s 27 11953 A) (F0 m 245 ls []) := by
  intro n
  induction n with
  | zero => intro v0 v1 S h; exact False.elim h
  | succ n ih =>
    intro v0 v1 S h H locs ls B hl
    unfold wX9_init_245 at h
    refine lv_iload_n M.1 M.2.1 dX9_init_245 rfl (lv_at hl 1 rfl) ?_
    refine lv_iconst (v := 4) M.1 M.2.1 dX9_init_246 (by decide) ?_
    refine lv_icmp_ge (tgt := 264) M.1 M.2.1 dX9_init_247 (by decide) (fun c1 => ?_) (fun c1 => ?_)
    · have h := h.1 c1
      exact g_vret M B hr hlk h (by decide) (by decide) dX9_init_264
    · have h := h.2 c1
      refine g_aload_n M dX9_init_250 rfl (lv_at hl 0 rfl) ?_
      refine gfX9_13 M B dX9_init_251 h (fun a2 h => ?_)
      refine lv_iload_n M.1 M.2.1 dX9_init_254 rfl (lv_at hl 1 rfl) ?_
      refine lv_bipush (v := 7) M.1 M.2.1 dX9_init_255 (by decide) ?_
      refine g_iast M B dX9_init_257 h (fun S3 H locs h B => ?_)
      refine lv_iinc (v := v1 + 1) (lv' := [(1, .int (v1 + 1)), (0, va_rf v0)]) M.1 M.2.1 dX9_init_258 hl (k := 1) rfl (by rfl) (by decide) (fl_e (fl_r rfl (fl_d rfl fl_0))) (fun ls hl => ?_)
      refine lv_goto (tgt := 245) M.1 M.2.1 dX9_init_261 (by decide) ?_
      exact ih _ _ _ h _ _ _ B (lv_sub hl [1, 0] rfl)
set_option maxRecDepth 100000 in
set_option maxHeartbeats 4000000 in
theorem tX9_init {post : Pool → Prop} (M : MC p m c cX9_init 2 s args RX9) (hr : meth.sig.returnType = none) (hlk : meth.locks = false) (hRf : 1 ≤ R.frames) (hRl : 12 ≤ R.locals) (hRc : 27 ≤ R.cells) (hRs : 11953 ≤ R.slots) (hin : meth.name = "<init>") : ∀ (v0 : Option Nat) (S : Pool), wX9_init post v0 S → ∀ (H : Heap) (locs : List Loc) (ls : Array Slot), PB D cy A s S H locs → lv_has ls 2 [(0, va_rf v0)] → W p l e R s m args below meth c H locs 0 0 (MQ below (va_Qv post (PQ D cy A) A) args s 27 11953 A) (F0 m 0 ls []) := by
  intro v0 S h H locs ls B hl
  unfold wX9_init at h
  refine g_aload_n M dX9_init_0 rfl (lv_at hl 0 rfl) ?_
  obtain ⟨⟨o1, e1⟩, h⟩ := h
  refine g_objInit M e1 wmX9_1 hl.1 dX9_init_1 rfl (Nat.le_trans (by decide) hRf) (Nat.le_trans (by decide) hRl) ?_
  refine g_aload_n M dX9_init_4 rfl (lv_at hl 0 rfl) ?_
  refine lv_bipush (v := 100) M.1 M.2.1 dX9_init_5 (by decide) ?_
  refine gpX9_7 M B dX9_init_7 h (fun S1 H locs h B => ?_)
  refine g_aload_n M dX9_init_10 rfl (lv_at hl 0 rfl) ?_
  refine lv_iconst (v := 4) M.1 M.2.1 dX9_init_11 (by decide) ?_
  refine g_newI (N := 4) M B (by decide) (Nat.le_trans (by decide) hRc) (Nat.le_trans (by decide) hRs) dX9_init_12 h (fun a2 S3 H locs h B => ?_)
  refine W.widen (k := 1) (n := 4) (by decide) (by decide) ?_
  refine gpX9_13 M B hin dX9_init_14 h (fun S4 H locs h B => ?_)
  refine g_aload_n M dX9_init_17 rfl (lv_at hl 0 rfl) ?_
  refine lv_sipush (v := 250) M.1 M.2.1 dX9_init_18 (by decide) ?_
  refine g_newI (N := 250) M B (by decide) (Nat.le_trans (by decide) hRc) (Nat.le_trans (by decide) hRs) dX9_init_21 h (fun a5 S6 H locs h B => ?_)
  refine W.widen (k := 2) (n := 254) (by decide) (by decide) ?_
  refine gpX9_17 M B hin dX9_init_23 h (fun S7 H locs h B => ?_)
  refine g_aload_n M dX9_init_26 rfl (lv_at hl 0 rfl) ?_
  refine lv_sipush (v := 750) M.1 M.2.1 dX9_init_27 (by decide) ?_
  refine g_newI (N := 750) M B (by decide) (Nat.le_trans (by decide) hRc) (Nat.le_trans (by decide) hRs) dX9_init_30 h (fun a8 S9 H locs h B => ?_)
  refine W.widen (k := 3) (n := 1004) (by decide) (by decide) ?_
  refine gpX9_20 M B hin dX9_init_32 h (fun S10 H locs h B => ?_)
  refine g_aload_n M dX9_init_35 rfl (lv_at hl 0 rfl) ?_
  refine lv_sipush (v := 250) M.1 M.2.1 dX9_init_36 (by decide) ?_
  refine g_newI (N := 250) M B (by decide) (Nat.le_trans (by decide) hRc) (Nat.le_trans (by decide) hRs) dX9_init_39 h (fun a11 S12 H locs h B => ?_)
  refine W.widen (k := 4) (n := 1254) (by decide) (by decide) ?_
  refine gpX9_23 M B hin dX9_init_41 h (fun S13 H locs h B => ?_)
  refine g_aload_n M dX9_init_44 rfl (lv_at hl 0 rfl) ?_
  refine lv_sipush (v := 250) M.1 M.2.1 dX9_init_45 (by decide) ?_
  refine g_newI (N := 250) M B (by decide) (Nat.le_trans (by decide) hRc) (Nat.le_trans (by decide) hRs) dX9_init_48 h (fun a14 S15 H locs h B => ?_)
  refine W.widen (k := 5) (n := 1504) (by decide) (by decide) ?_
  refine gpX9_26 M B hin dX9_init_50 h (fun S16 H locs h B => ?_)
  refine g_aload_n M dX9_init_53 rfl (lv_at hl 0 rfl) ?_
  refine lv_sipush (v := 250) M.1 M.2.1 dX9_init_54 (by decide) ?_
  refine g_newI (N := 250) M B (by decide) (Nat.le_trans (by decide) hRc) (Nat.le_trans (by decide) hRs) dX9_init_57 h (fun a17 S18 H locs h B => ?_)
  refine W.widen (k := 6) (n := 1754) (by decide) (by decide) ?_
  refine gpX9_29 M B hin dX9_init_59 h (fun S19 H locs h B => ?_)
  refine g_aload_n M dX9_init_62 rfl (lv_at hl 0 rfl) ?_
  refine lv_bipush (v := 9) M.1 M.2.1 dX9_init_63 (by decide) ?_
  refine g_newI (N := 9) M B (by decide) (Nat.le_trans (by decide) hRc) (Nat.le_trans (by decide) hRs) dX9_init_65 h (fun a20 S21 H locs h B => ?_)
  refine W.widen (k := 7) (n := 1763) (by decide) (by decide) ?_
  refine gpX9_32 M B hin dX9_init_67 h (fun S22 H locs h B => ?_)
  refine g_aload_n M dX9_init_70 rfl (lv_at hl 0 rfl) ?_
  refine lv_bipush (v := 9) M.1 M.2.1 dX9_init_71 (by decide) ?_
  refine g_newI (N := 9) M B (by decide) (Nat.le_trans (by decide) hRc) (Nat.le_trans (by decide) hRs) dX9_init_73 h (fun a23 S24 H locs h B => ?_)
  refine W.widen (k := 8) (n := 1772) (by decide) (by decide) ?_
  refine gpX9_35 M B hin dX9_init_75 h (fun S25 H locs h B => ?_)
  refine g_aload_n M dX9_init_78 rfl (lv_at hl 0 rfl) ?_
  refine lv_bipush (v := 54) M.1 M.2.1 dX9_init_79 (by decide) ?_
  refine g_newZ (N := 54) M B (by decide) (Nat.le_trans (by decide) hRc) (Nat.le_trans (by decide) hRs) dX9_init_81 h (fun a26 S27 H locs h B => ?_)
  refine W.widen (k := 9) (n := 1826) (by decide) (by decide) ?_
  refine gpX9_38 M B hin dX9_init_83 h (fun S28 H locs h B => ?_)
  refine g_aload_n M dX9_init_86 rfl (lv_at hl 0 rfl) ?_
  refine lv_bipush (v := 54) M.1 M.2.1 dX9_init_87 (by decide) ?_
  refine g_newI (N := 54) M B (by decide) (Nat.le_trans (by decide) hRc) (Nat.le_trans (by decide) hRs) dX9_init_89 h (fun a29 S30 H locs h B => ?_)
  refine W.widen (k := 10) (n := 1880) (by decide) (by decide) ?_
  refine gpX9_42 M B hin dX9_init_91 h (fun S31 H locs h B => ?_)
  refine g_aload_n M dX9_init_94 rfl (lv_at hl 0 rfl) ?_
  refine lv_sipush (v := 162) M.1 M.2.1 dX9_init_95 (by decide) ?_
  refine g_newI (N := 162) M B (by decide) (Nat.le_trans (by decide) hRc) (Nat.le_trans (by decide) hRs) dX9_init_98 h (fun a32 S33 H locs h B => ?_)
  refine W.widen (k := 11) (n := 2042) (by decide) (by decide) ?_
  refine gpX9_45 M B hin dX9_init_100 h (fun S34 H locs h B => ?_)
  refine g_aload_n M dX9_init_103 rfl (lv_at hl 0 rfl) ?_
  refine lv_bipush (v := 54) M.1 M.2.1 dX9_init_104 (by decide) ?_
  refine g_newZ (N := 54) M B (by decide) (Nat.le_trans (by decide) hRc) (Nat.le_trans (by decide) hRs) dX9_init_106 h (fun a35 S36 H locs h B => ?_)
  refine W.widen (k := 12) (n := 2096) (by decide) (by decide) ?_
  refine gpX9_48 M B hin dX9_init_108 h (fun S37 H locs h B => ?_)
  refine g_aload_n M dX9_init_111 rfl (lv_at hl 0 rfl) ?_
  refine lv_bipush (v := 54) M.1 M.2.1 dX9_init_112 (by decide) ?_
  refine g_newI (N := 54) M B (by decide) (Nat.le_trans (by decide) hRc) (Nat.le_trans (by decide) hRs) dX9_init_114 h (fun a38 S39 H locs h B => ?_)
  refine W.widen (k := 13) (n := 2150) (by decide) (by decide) ?_
  refine gpX9_51 M B hin dX9_init_116 h (fun S40 H locs h B => ?_)
  refine g_aload_n M dX9_init_119 rfl (lv_at hl 0 rfl) ?_
  refine lv_bipush (v := 9) M.1 M.2.1 dX9_init_120 (by decide) ?_
  refine g_newI (N := 9) M B (by decide) (Nat.le_trans (by decide) hRc) (Nat.le_trans (by decide) hRs) dX9_init_122 h (fun a41 S42 H locs h B => ?_)
  refine W.widen (k := 14) (n := 2159) (by decide) (by decide) ?_
  refine gpX9_54 M B hin dX9_init_124 h (fun S43 H locs h B => ?_)
  refine g_aload_n M dX9_init_127 rfl (lv_at hl 0 rfl) ?_
  refine lv_bipush (v := 9) M.1 M.2.1 dX9_init_128 (by decide) ?_
  refine g_newI (N := 9) M B (by decide) (Nat.le_trans (by decide) hRc) (Nat.le_trans (by decide) hRs) dX9_init_130 h (fun a44 S45 H locs h B => ?_)
  refine W.widen (k := 15) (n := 2168) (by decide) (by decide) ?_
  refine gpX9_57 M B hin dX9_init_132 h (fun S46 H locs h B => ?_)
  refine g_aload_n M dX9_init_135 rfl (lv_at hl 0 rfl) ?_
  refine lv_bipush (v := 9) M.1 M.2.1 dX9_init_136 (by decide) ?_
  refine g_newI (N := 9) M B (by decide) (Nat.le_trans (by decide) hRc) (Nat.le_trans (by decide) hRs) dX9_init_138 h (fun a47 S48 H locs h B => ?_)
  refine W.widen (k := 16) (n := 2177) (by decide) (by decide) ?_
  refine gpX9_60 M B hin dX9_init_140 h (fun S49 H locs h B => ?_)
  refine g_aload_n M dX9_init_143 rfl (lv_at hl 0 rfl) ?_
  refine lv_bipush (v := 40) M.1 M.2.1 dX9_init_144 (by decide) ?_
  refine g_newI (N := 40) M B (by decide) (Nat.le_trans (by decide) hRc) (Nat.le_trans (by decide) hRs) dX9_init_146 h (fun a50 S51 H locs h B => ?_)
  refine W.widen (k := 17) (n := 2217) (by decide) (by decide) ?_
  refine gpX9_63 M B hin dX9_init_148 h (fun S52 H locs h B => ?_)
  refine g_aload_n M dX9_init_151 rfl (lv_at hl 0 rfl) ?_
  refine lv_bipush (v := 40) M.1 M.2.1 dX9_init_152 (by decide) ?_
  refine g_newI (N := 40) M B (by decide) (Nat.le_trans (by decide) hRc) (Nat.le_trans (by decide) hRs) dX9_init_154 h (fun a53 S54 H locs h B => ?_)
  refine W.widen (k := 18) (n := 2257) (by decide) (by decide) ?_
  refine gpX9_66 M B hin dX9_init_156 h (fun S55 H locs h B => ?_)
  refine g_aload_n M dX9_init_159 rfl (lv_at hl 0 rfl) ?_
  refine lv_bipush (v := 40) M.1 M.2.1 dX9_init_160 (by decide) ?_
  refine g_newI (N := 40) M B (by decide) (Nat.le_trans (by decide) hRc) (Nat.le_trans (by decide) hRs) dX9_init_162 h (fun a56 S57 H locs h B => ?_)
  refine W.widen (k := 19) (n := 2297) (by decide) (by decide) ?_
  refine gpX9_69 M B hin dX9_init_164 h (fun S58 H locs h B => ?_)
  refine g_aload_n M dX9_init_167 rfl (lv_at hl 0 rfl) ?_
  refine lv_sipush (v := 400) M.1 M.2.1 dX9_init_168 (by decide) ?_
  refine g_newI (N := 400) M B (by decide) (Nat.le_trans (by decide) hRc) (Nat.le_trans (by decide) hRs) dX9_init_171 h (fun a59 S60 H locs h B => ?_)
  refine W.widen (k := 20) (n := 2697) (by decide) (by decide) ?_
  refine gpX9_72 M B hin dX9_init_173 h (fun S61 H locs h B => ?_)
  refine g_aload_n M dX9_init_176 rfl (lv_at hl 0 rfl) ?_
  refine lv_iconst (v := (-1)) M.1 M.2.1 dX9_init_177 (by decide) ?_
  refine gpX9_75 M B dX9_init_178 h (fun S62 H locs h B => ?_)
  refine g_aload_n M dX9_init_181 rfl (lv_at hl 0 rfl) ?_
  refine lv_sipush (v := 1500) M.1 M.2.1 dX9_init_182 (by decide) ?_
  refine g_newZ (N := 1500) M B (by decide) (Nat.le_trans (by decide) hRc) (Nat.le_trans (by decide) hRs) dX9_init_185 h (fun a63 S64 H locs h B => ?_)
  refine W.widen (k := 21) (n := 4197) (by decide) (by decide) ?_
  refine gpX9_78 M B hin dX9_init_187 h (fun S65 H locs h B => ?_)
  refine g_aload_n M dX9_init_190 rfl (lv_at hl 0 rfl) ?_
  refine lv_sipush (v := 1500) M.1 M.2.1 dX9_init_191 (by decide) ?_
  refine g_newZ (N := 1500) M B (by decide) (Nat.le_trans (by decide) hRc) (Nat.le_trans (by decide) hRs) dX9_init_194 h (fun a66 S67 H locs h B => ?_)
  refine W.widen (k := 22) (n := 5697) (by decide) (by decide) ?_
  refine gpX9_81 M B hin dX9_init_196 h (fun S68 H locs h B => ?_)
  refine g_aload_n M dX9_init_199 rfl (lv_at hl 0 rfl) ?_
  refine lv_bipush (v := 6) M.1 M.2.1 dX9_init_200 (by decide) ?_
  refine g_newI (N := 6) M B (by decide) (Nat.le_trans (by decide) hRc) (Nat.le_trans (by decide) hRs) dX9_init_202 h (fun a69 S70 H locs h B => ?_)
  refine W.widen (k := 23) (n := 5703) (by decide) (by decide) ?_
  refine gpX9_84 M B hin dX9_init_204 h (fun S71 H locs h B => ?_)
  refine g_aload_n M dX9_init_207 rfl (lv_at hl 0 rfl) ?_
  refine lv_sipush (v := 250) M.1 M.2.1 dX9_init_208 (by decide) ?_
  refine g_newI (N := 250) M B (by decide) (Nat.le_trans (by decide) hRc) (Nat.le_trans (by decide) hRs) dX9_init_211 h (fun a72 S73 H locs h B => ?_)
  refine W.widen (k := 24) (n := 5953) (by decide) (by decide) ?_
  refine gpX9_87 M B hin dX9_init_213 h (fun S74 H locs h B => ?_)
  refine g_aload_n M dX9_init_216 rfl (lv_at hl 0 rfl) ?_
  refine lv_sipush (v := 2000) M.1 M.2.1 dX9_init_217 (by decide) ?_
  refine g_newI (N := 2000) M B (by decide) (Nat.le_trans (by decide) hRc) (Nat.le_trans (by decide) hRs) dX9_init_220 h (fun a75 S76 H locs h B => ?_)
  refine W.widen (k := 25) (n := 7953) (by decide) (by decide) ?_
  refine gpX9_90 M B hin dX9_init_222 h (fun S77 H locs h B => ?_)
  refine g_aload_n M dX9_init_225 rfl (lv_at hl 0 rfl) ?_
  refine lv_sipush (v := 2000) M.1 M.2.1 dX9_init_226 (by decide) ?_
  refine g_newI (N := 2000) M B (by decide) (Nat.le_trans (by decide) hRc) (Nat.le_trans (by decide) hRs) dX9_init_229 h (fun a78 S79 H locs h B => ?_)
  refine W.widen (k := 26) (n := 9953) (by decide) (by decide) ?_
  refine gpX9_93 M B hin dX9_init_231 h (fun S80 H locs h B => ?_)
  refine g_aload_n M dX9_init_234 rfl (lv_at hl 0 rfl) ?_
  refine lv_sipush (v := 2000) M.1 M.2.1 dX9_init_235 (by decide) ?_
  refine g_newI (N := 2000) M B (by decide) (Nat.le_trans (by decide) hRc) (Nat.le_trans (by decide) hRs) dX9_init_238 h (fun a81 S82 H locs h B => ?_)
  refine W.widen (k := 27) (n := 11953) (by decide) (by decide) ?_
  refine gpX9_96 M B hin dX9_init_240 h (fun S83 H locs h B => ?_)
  refine lv_iconst (v := 0) M.1 M.2.1 dX9_init_243 (by decide) ?_
  refine lv_istore_n (lv' := [(1, .int 0), (0, va_rf v0)]) M.1 M.2.1 dX9_init_244 rfl hl (by decide) (fl_e (fl_r rfl fl_0)) (fun ls hl => ?_)
  obtain ⟨n1, h⟩ := h
  exact tX9_init_245 M hr hlk hRf hRl hRc hRs hin n1 _ _ _ h _ _ _ B (lv_sub hl [1, 0] rfl)
end
set_option maxRecDepth 100000 in
set_option maxHeartbeats 4000000 in
theorem kX9_init (l : Launch) (D : va_G) (cy : Nat → ClassId) {post : Pool → Prop} {v0 : Option Nat} {S : Pool} (h : wX9_init post v0 S) : MetV l yX9_init cX9_init 2 rmX9_init [va_rf v0] D cy S post := by
  intro sz
  refine Met.ofW (cc := cX9_init) (maxL := 2) (ret := none) (by decide) rfl ?_
  intro p e s m args below meth c s₁ B0 hml hv
  obtain ⟨rfl, hpp⟩ := hv
  have hts := atoms_spec (ws := .code yX9_init cX9_init 2 none :: Gw) B0.pre
  obtain rfl : s.heap.size = sz := hpp.1
  have hl := lv_entry [va_rf v0] (n := 2) (by rw [sl_r, sl_0]; decide)
  rw [lg_entry_eq]
  rw [la_r, la_0] at hl
  exact tX9_init (l := l) (R := rmX9_init) ⟨B0.exec, B0.bytes, hml, findClass_of_methodNamed B0.named, fun w hw => hts w (List.mem_cons_of_mem _ hw)⟩ B0.returns B0.notSynchronized (Nat.le_refl _) (Nat.le_refl _) (Nat.le_refl _) (Nat.le_refl _) (name_of_methodNamed B0.named B0.method).1 _ _ h _ _ _ hpp.pb (lv_sub hl [0] rfl)
-- X9_thrown: LogHuntModel.thrown()I
def wX9_thrown (post : Int32 → Pool → Prop) (v0 : Option Nat) (S : Pool) : Prop := xI S v0 9 0 fun a1 => post a1 S
def rmX9_thrown : Room := { frames := 0, cells := 0, slots := 0, locals := 0 }
section
variable {p : Program} {l : Launch} {e : Env} {R : Room} {s : State} {m : MethodId} {args : Array Value} {below : List Frame} {meth : Method} {c : Code} {D : va_G} {cy : Nat → ClassId} {A : Nat → Prop}
set_option maxRecDepth 100000 in
set_option maxHeartbeats 4000000 in
theorem tX9_thrown {post : Int32 → Pool → Prop} (M : MC p m c cX9_thrown 1 s args RX9) (hr : meth.sig.returnType = (some FieldType.int)) (hlk : meth.locks = false) (hRf : 0 ≤ R.frames) (hRl : 0 ≤ R.locals) (hRc : 0 ≤ R.cells) (hRs : 0 ≤ R.slots) : ∀ (v0 : Option Nat) (S : Pool), wX9_thrown post v0 S → ∀ (H : Heap) (locs : List Loc) (ls : Array Slot), PB D cy A s S H locs → lv_has ls 1 [(0, va_rf v0)] → W p l e R s m args below meth c H locs 0 0 (MQ below (va_Qi post (PQ D cy A) A) args s 0 0 A) (F0 m 0 ls []) := by
  intro v0 S h H locs ls B hl
  unfold wX9_thrown at h
  refine g_aload_n M dX9_thrown_0 rfl (lv_at hl 0 rfl) ?_
  refine gfX9_99 M B dX9_thrown_1 h (fun a1 h => ?_)
  exact g_iret M B hr hlk h (by decide) (by decide) dX9_thrown_4
end
set_option maxRecDepth 100000 in
set_option maxHeartbeats 4000000 in
theorem kX9_thrown (l : Launch) (D : va_G) (cy : Nat → ClassId) {post : Int32 → Pool → Prop} {v0 : Option Nat} {S : Pool} (h : wX9_thrown post v0 S) : MetI l yX9_thrown cX9_thrown 1 (some FieldType.int) rmX9_thrown [va_rf v0] D cy S post := by
  intro sz
  refine Met.ofW (cc := cX9_thrown) (maxL := 1) (ret := (some FieldType.int)) (by decide) rfl ?_
  intro p e s m args below meth c s₁ B0 hml hv
  obtain ⟨rfl, hpp⟩ := hv
  have hts := atoms_spec (ws := .code yX9_thrown cX9_thrown 1 (some FieldType.int) :: Gw) B0.pre
  obtain rfl : s.heap.size = sz := hpp.1
  have hl := lv_entry [va_rf v0] (n := 1) (by rw [sl_r, sl_0]; decide)
  rw [lg_entry_eq]
  rw [la_r, la_0] at hl
  exact tX9_thrown (l := l) (R := rmX9_thrown) ⟨B0.exec, B0.bytes, hml, findClass_of_methodNamed B0.named, fun w hw => hts w (List.mem_cons_of_mem _ hw)⟩ B0.returns B0.notSynchronized (Nat.le_refl _) (Nat.le_refl _) (Nat.le_refl _) (Nat.le_refl _) _ _ h _ _ _ hpp.pb (lv_sub hl [0] rfl)
-- X9_isIn: LogHuntModel.isIn(III)Z
def wX9_isIn (post : Int32 → Pool → Prop) (v0 : Int32) (v1 : Int32) (v2 : Int32) (S : Pool) : Prop := br (v0 < v1) (((0 : Int32) = 0 ∨ (0 : Int32) = 1) ∧ post (0 : Int32) S) (br (v2 < v0) (((0 : Int32) = 0 ∨ (0 : Int32) = 1) ∧ post (0 : Int32) S) (((1 : Int32) = 0 ∨ (1 : Int32) = 1) ∧ post (1 : Int32) S))
def rmX9_isIn : Room := { frames := 0, cells := 0, slots := 0, locals := 0 }
section
variable {p : Program} {l : Launch} {e : Env} {R : Room} {s : State} {m : MethodId} {args : Array Value} {below : List Frame} {meth : Method} {c : Code} {D : va_G} {cy : Nat → ClassId} {A : Nat → Prop}
set_option maxRecDepth 100000 in
set_option maxHeartbeats 4000000 in
theorem tX9_isIn {post : Int32 → Pool → Prop} (M : MC p m c cX9_isIn 3 s args RX9) (hr : meth.sig.returnType = (some FieldType.boolean)) (hlk : meth.locks = false) (hRf : 0 ≤ R.frames) (hRl : 0 ≤ R.locals) (hRc : 0 ≤ R.cells) (hRs : 0 ≤ R.slots) : ∀ (v0 : Int32) (v1 : Int32) (v2 : Int32) (S : Pool), wX9_isIn post v0 v1 v2 S → ∀ (H : Heap) (locs : List Loc) (ls : Array Slot), PB D cy A s S H locs → lv_has ls 3 [(0, .int v0), (1, .int v1), (2, .int v2)] → W p l e R s m args below meth c H locs 0 0 (MQ below (va_Qi post (PQ D cy A) A) args s 0 0 A) (F0 m 0 ls []) := by
  intro v0 v1 v2 S h H locs ls B hl
  unfold wX9_isIn at h
  refine lv_iload_n M.1 M.2.1 dX9_isIn_0 rfl (lv_at hl 0 rfl) ?_
  refine lv_iload_n M.1 M.2.1 dX9_isIn_1 rfl (lv_at hl 1 rfl) ?_
  refine lv_icmp_lt (tgt := 14) M.1 M.2.1 dX9_isIn_2 (by decide) (fun c1 => ?_) (fun c1 => ?_)
  · have h := h.1 c1
    refine lv_iconst (v := 0) M.1 M.2.1 dX9_isIn_14 (by decide) ?_
    exact g_zret M B hr hlk h (by decide) (by decide) dX9_isIn_15
  · have h := h.2 c1
    refine lv_iload_n M.1 M.2.1 dX9_isIn_5 rfl (lv_at hl 0 rfl) ?_
    refine lv_iload_n M.1 M.2.1 dX9_isIn_6 rfl (lv_at hl 2 rfl) ?_
    refine lv_icmp_gt (tgt := 14) M.1 M.2.1 dX9_isIn_7 (by decide) (fun c2 => ?_) (fun c2 => ?_)
    · have h := h.1 c2
      refine lv_iconst (v := 0) M.1 M.2.1 dX9_isIn_14 (by decide) ?_
      exact g_zret M B hr hlk h (by decide) (by decide) dX9_isIn_15
    · have h := h.2 c2
      refine lv_iconst (v := 1) M.1 M.2.1 dX9_isIn_10 (by decide) ?_
      refine lv_goto (tgt := 15) M.1 M.2.1 dX9_isIn_11 (by decide) ?_
      exact g_zret M B hr hlk h (by decide) (by decide) dX9_isIn_15
end
set_option maxRecDepth 100000 in
set_option maxHeartbeats 4000000 in
theorem kX9_isIn (l : Launch) (D : va_G) (cy : Nat → ClassId) {post : Int32 → Pool → Prop} {v0 : Int32} {v1 : Int32} {v2 : Int32} {S : Pool} (h : wX9_isIn post v0 v1 v2 S) : MetI l yX9_isIn cX9_isIn 3 (some FieldType.boolean) rmX9_isIn [.int v0, .int v1, .int v2] D cy S post := by
  intro sz
  refine Met.ofW (cc := cX9_isIn) (maxL := 3) (ret := (some FieldType.boolean)) (by decide) rfl ?_
  intro p e s m args below meth c s₁ B0 hml hv
  obtain ⟨rfl, hpp⟩ := hv
  have hts := atoms_spec (ws := .code yX9_isIn cX9_isIn 3 (some FieldType.boolean) :: Gw) B0.pre
  obtain rfl : s.heap.size = sz := hpp.1
  have hl := lv_entry [.int v0, .int v1, .int v2] (n := 3) (by rw [sl_i, sl_i, sl_i, sl_0]; decide)
  rw [lg_entry_eq]
  rw [la_i, la_i, la_i, la_0] at hl
  exact tX9_isIn (l := l) (R := rmX9_isIn) ⟨B0.exec, B0.bytes, hml, findClass_of_methodNamed B0.named, fun w hw => hts w (List.mem_cons_of_mem _ hw)⟩ B0.returns B0.notSynchronized (Nat.le_refl _) (Nat.le_refl _) (Nat.le_refl _) (Nat.le_refl _) _ _ _ _ h _ _ _ hpp.pb (lv_sub hl [0, 1, 2] rfl)
-- X9_isQuestion: LogHuntModel.isQuestion(I)Z
def wX9_isQuestion (post : Int32 → Pool → Prop) (v0 : Option Nat) (v1 : Int32) (S : Pool) : Prop := br (v1 < 0) (((0 : Int32) = 0 ∨ (0 : Int32) = 1) ∧ post (0 : Int32) S) (xI S v0 9 11 fun a2 => br (a2 ≤ v1) (((0 : Int32) = 0 ∨ (0 : Int32) = 1) ∧ post (0 : Int32) S) (((1 : Int32) = 0 ∨ (1 : Int32) = 1) ∧ post (1 : Int32) S))
def rmX9_isQuestion : Room := { frames := 0, cells := 0, slots := 0, locals := 0 }
section
variable {p : Program} {l : Launch} {e : Env} {R : Room} {s : State} {m : MethodId} {args : Array Value} {below : List Frame} {meth : Method} {c : Code} {D : va_G} {cy : Nat → ClassId} {A : Nat → Prop}
set_option maxRecDepth 100000 in
set_option maxHeartbeats 4000000 in
theorem tX9_isQuestion {post : Int32 → Pool → Prop} (M : MC p m c cX9_isQuestion 2 s args RX9) (hr : meth.sig.returnType = (some FieldType.boolean)) (hlk : meth.locks = false) (hRf : 0 ≤ R.frames) (hRl : 0 ≤ R.locals) (hRc : 0 ≤ R.cells) (hRs : 0 ≤ R.slots) : ∀ (v0 : Option Nat) (v1 : Int32) (S : Pool), wX9_isQuestion post v0 v1 S → ∀ (H : Heap) (locs : List Loc) (ls : Array Slot), PB D cy A s S H locs → lv_has ls 2 [(0, va_rf v0), (1, .int v1)] → W p l e R s m args below meth c H locs 0 0 (MQ below (va_Qi post (PQ D cy A) A) args s 0 0 A) (F0 m 0 ls []) := by
  intro v0 v1 S h H locs ls B hl
  unfold wX9_isQuestion at h
  refine lv_iload_n M.1 M.2.1 dX9_isQuestion_0 rfl (lv_at hl 1 rfl) ?_
  refine lv_if_lt (tgt := 16) M.1 M.2.1 dX9_isQuestion_1 (by decide) (fun c1 => ?_) (fun c1 => ?_)
  · have h := h.1 c1
    refine lv_iconst (v := 0) M.1 M.2.1 dX9_isQuestion_16 (by decide) ?_
    exact g_zret M B hr hlk h (by decide) (by decide) dX9_isQuestion_17
  · have h := h.2 c1
    refine lv_iload_n M.1 M.2.1 dX9_isQuestion_4 rfl (lv_at hl 1 rfl) ?_
    refine g_aload_n M dX9_isQuestion_5 rfl (lv_at hl 0 rfl) ?_
    refine gfX9_102 M B dX9_isQuestion_6 h (fun a2 h => ?_)
    refine lv_icmp_ge (tgt := 16) M.1 M.2.1 dX9_isQuestion_9 (by decide) (fun c3 => ?_) (fun c3 => ?_)
    · have h := h.1 c3
      refine lv_iconst (v := 0) M.1 M.2.1 dX9_isQuestion_16 (by decide) ?_
      exact g_zret M B hr hlk h (by decide) (by decide) dX9_isQuestion_17
    · have h := h.2 c3
      refine lv_iconst (v := 1) M.1 M.2.1 dX9_isQuestion_12 (by decide) ?_
      refine lv_goto (tgt := 17) M.1 M.2.1 dX9_isQuestion_13 (by decide) ?_
      exact g_zret M B hr hlk h (by decide) (by decide) dX9_isQuestion_17
end
set_option maxRecDepth 100000 in
set_option maxHeartbeats 4000000 in
theorem kX9_isQuestion (l : Launch) (D : va_G) (cy : Nat → ClassId) {post : Int32 → Pool → Prop} {v0 : Option Nat} {v1 : Int32} {S : Pool} (h : wX9_isQuestion post v0 v1 S) : MetI l yX9_isQuestion cX9_isQuestion 2 (some FieldType.boolean) rmX9_isQuestion [va_rf v0, .int v1] D cy S post := by
  intro sz
  refine Met.ofW (cc := cX9_isQuestion) (maxL := 2) (ret := (some FieldType.boolean)) (by decide) rfl ?_
  intro p e s m args below meth c s₁ B0 hml hv
  obtain ⟨rfl, hpp⟩ := hv
  have hts := atoms_spec (ws := .code yX9_isQuestion cX9_isQuestion 2 (some FieldType.boolean) :: Gw) B0.pre
  obtain rfl : s.heap.size = sz := hpp.1
  have hl := lv_entry [va_rf v0, .int v1] (n := 2) (by rw [sl_r, sl_i, sl_0]; decide)
  rw [lg_entry_eq]
  rw [la_r, la_i, la_0] at hl
  exact tX9_isQuestion (l := l) (R := rmX9_isQuestion) ⟨B0.exec, B0.bytes, hml, findClass_of_methodNamed B0.named, fun w hw => hts w (List.mem_cons_of_mem _ hw)⟩ B0.returns B0.notSynchronized (Nat.le_refl _) (Nat.le_refl _) (Nat.le_refl _) (Nat.le_refl _) _ _ _ h _ _ _ hpp.pb (lv_sub hl [0, 1] rfl)
-- X9_isAct: LogHuntModel.isAct(I)Z
def wX9_isAct (post : Int32 → Pool → Prop) (v0 : Option Nat) (v1 : Int32) (S : Pool) : Prop := br (v1 < 0) (((0 : Int32) = 0 ∨ (0 : Int32) = 1) ∧ post (0 : Int32) S) (xI S v0 9 4 fun a2 => br (a2 ≤ v1) (((0 : Int32) = 0 ∨ (0 : Int32) = 1) ∧ post (0 : Int32) S) (((1 : Int32) = 0 ∨ (1 : Int32) = 1) ∧ post (1 : Int32) S))
def rmX9_isAct : Room := { frames := 0, cells := 0, slots := 0, locals := 0 }
section
variable {p : Program} {l : Launch} {e : Env} {R : Room} {s : State} {m : MethodId} {args : Array Value} {below : List Frame} {meth : Method} {c : Code} {D : va_G} {cy : Nat → ClassId} {A : Nat → Prop}
set_option maxRecDepth 100000 in
set_option maxHeartbeats 4000000 in
theorem tX9_isAct {post : Int32 → Pool → Prop} (M : MC p m c cX9_isAct 2 s args RX9) (hr : meth.sig.returnType = (some FieldType.boolean)) (hlk : meth.locks = false) (hRf : 0 ≤ R.frames) (hRl : 0 ≤ R.locals) (hRc : 0 ≤ R.cells) (hRs : 0 ≤ R.slots) : ∀ (v0 : Option Nat) (v1 : Int32) (S : Pool), wX9_isAct post v0 v1 S → ∀ (H : Heap) (locs : List Loc) (ls : Array Slot), PB D cy A s S H locs → lv_has ls 2 [(0, va_rf v0), (1, .int v1)] → W p l e R s m args below meth c H locs 0 0 (MQ below (va_Qi post (PQ D cy A) A) args s 0 0 A) (F0 m 0 ls []) := by
  intro v0 v1 S h H locs ls B hl
  unfold wX9_isAct at h
  refine lv_iload_n M.1 M.2.1 dX9_isAct_0 rfl (lv_at hl 1 rfl) ?_
  refine lv_if_lt (tgt := 16) M.1 M.2.1 dX9_isAct_1 (by decide) (fun c1 => ?_) (fun c1 => ?_)
  · have h := h.1 c1
    refine lv_iconst (v := 0) M.1 M.2.1 dX9_isAct_16 (by decide) ?_
    exact g_zret M B hr hlk h (by decide) (by decide) dX9_isAct_17
  · have h := h.2 c1
    refine lv_iload_n M.1 M.2.1 dX9_isAct_4 rfl (lv_at hl 1 rfl) ?_
    refine g_aload_n M dX9_isAct_5 rfl (lv_at hl 0 rfl) ?_
    refine gfX9_105 M B dX9_isAct_6 h (fun a2 h => ?_)
    refine lv_icmp_ge (tgt := 16) M.1 M.2.1 dX9_isAct_9 (by decide) (fun c3 => ?_) (fun c3 => ?_)
    · have h := h.1 c3
      refine lv_iconst (v := 0) M.1 M.2.1 dX9_isAct_16 (by decide) ?_
      exact g_zret M B hr hlk h (by decide) (by decide) dX9_isAct_17
    · have h := h.2 c3
      refine lv_iconst (v := 1) M.1 M.2.1 dX9_isAct_12 (by decide) ?_
      refine lv_goto (tgt := 17) M.1 M.2.1 dX9_isAct_13 (by decide) ?_
      exact g_zret M B hr hlk h (by decide) (by decide) dX9_isAct_17
end
set_option maxRecDepth 100000 in
set_option maxHeartbeats 4000000 in
theorem kX9_isAct (l : Launch) (D : va_G) (cy : Nat → ClassId) {post : Int32 → Pool → Prop} {v0 : Option Nat} {v1 : Int32} {S : Pool} (h : wX9_isAct post v0 v1 S) : MetI l yX9_isAct cX9_isAct 2 (some FieldType.boolean) rmX9_isAct [va_rf v0, .int v1] D cy S post := by
  intro sz
  refine Met.ofW (cc := cX9_isAct) (maxL := 2) (ret := (some FieldType.boolean)) (by decide) rfl ?_
  intro p e s m args below meth c s₁ B0 hml hv
  obtain ⟨rfl, hpp⟩ := hv
  have hts := atoms_spec (ws := .code yX9_isAct cX9_isAct 2 (some FieldType.boolean) :: Gw) B0.pre
  obtain rfl : s.heap.size = sz := hpp.1
  have hl := lv_entry [va_rf v0, .int v1] (n := 2) (by rw [sl_r, sl_i, sl_0]; decide)
  rw [lg_entry_eq]
  rw [la_r, la_i, la_0] at hl
  exact tX9_isAct (l := l) (R := rmX9_isAct) ⟨B0.exec, B0.bytes, hml, findClass_of_methodNamed B0.named, fun w hw => hts w (List.mem_cons_of_mem _ hw)⟩ B0.returns B0.notSynchronized (Nat.le_refl _) (Nat.le_refl _) (Nat.le_refl _) (Nat.le_refl _) _ _ _ h _ _ _ hpp.pb (lv_sub hl [0, 1] rfl)
-- X9_byteCame: LogHuntModel.byteCame(I)V
def wX9_byteCame (post : Pool → Prop) (v0 : Option Nat) (v1 : Int32) (S : Pool) : Prop := xR S v0 9 26 fun a1 => xI S v0 9 27 fun a2 => xsI S a1 10 a2 (v1 &&& 255) fun S3 => xI S3 v0 9 27 fun a4 => xpI S3 v0 9 27 (a4 + 1) fun S5 => post S5
def rmX9_byteCame : Room := { frames := 0, cells := 0, slots := 0, locals := 0 }
section
variable {p : Program} {l : Launch} {e : Env} {R : Room} {s : State} {m : MethodId} {args : Array Value} {below : List Frame} {meth : Method} {c : Code} {D : va_G} {cy : Nat → ClassId} {A : Nat → Prop}
set_option maxRecDepth 100000 in
set_option maxHeartbeats 4000000 in
theorem tX9_byteCame {post : Pool → Prop} (M : MC p m c cX9_byteCame 2 s args RX9) (hr : meth.sig.returnType = none) (hlk : meth.locks = false) (hRf : 0 ≤ R.frames) (hRl : 0 ≤ R.locals) (hRc : 0 ≤ R.cells) (hRs : 0 ≤ R.slots) : ∀ (v0 : Option Nat) (v1 : Int32) (S : Pool), wX9_byteCame post v0 v1 S → ∀ (H : Heap) (locs : List Loc) (ls : Array Slot), PB D cy A s S H locs → lv_has ls 2 [(0, va_rf v0), (1, .int v1)] → W p l e R s m args below meth c H locs 0 0 (MQ below (va_Qv post (PQ D cy A) A) args s 0 0 A) (F0 m 0 ls []) := by
  intro v0 v1 S h H locs ls B hl
  unfold wX9_byteCame at h
  refine g_aload_n M dX9_byteCame_0 rfl (lv_at hl 0 rfl) ?_
  refine gfX9_72 M B dX9_byteCame_1 h (fun a1 h => ?_)
  refine g_aload_n M dX9_byteCame_4 rfl (lv_at hl 0 rfl) ?_
  refine gfX9_108 M B dX9_byteCame_5 h (fun a2 h => ?_)
  refine lv_iload_n M.1 M.2.1 dX9_byteCame_8 rfl (lv_at hl 1 rfl) ?_
  refine lv_sipush (v := 255) M.1 M.2.1 dX9_byteCame_9 (by decide) ?_
  refine lv_iand M.1 M.2.1 dX9_byteCame_12 ?_
  refine g_iast M B dX9_byteCame_13 h (fun S3 H locs h B => ?_)
  refine g_aload_n M dX9_byteCame_14 rfl (lv_at hl 0 rfl) ?_
  refine lv_dup M.1 M.2.1 dX9_byteCame_15 (rf_cat _) ?_
  refine gfX9_108 M B dX9_byteCame_16 h (fun a4 h => ?_)
  refine lv_iconst (v := 1) M.1 M.2.1 dX9_byteCame_19 (by decide) ?_
  refine lv_iadd M.1 M.2.1 dX9_byteCame_20 ?_
  refine gpX9_108 M B dX9_byteCame_21 h (fun S5 H locs h B => ?_)
  exact g_vret M B hr hlk h (by decide) (by decide) dX9_byteCame_24
end
set_option maxRecDepth 100000 in
set_option maxHeartbeats 4000000 in
theorem kX9_byteCame (l : Launch) (D : va_G) (cy : Nat → ClassId) {post : Pool → Prop} {v0 : Option Nat} {v1 : Int32} {S : Pool} (h : wX9_byteCame post v0 v1 S) : MetV l yX9_byteCame cX9_byteCame 2 rmX9_byteCame [va_rf v0, .int v1] D cy S post := by
  intro sz
  refine Met.ofW (cc := cX9_byteCame) (maxL := 2) (ret := none) (by decide) rfl ?_
  intro p e s m args below meth c s₁ B0 hml hv
  obtain ⟨rfl, hpp⟩ := hv
  have hts := atoms_spec (ws := .code yX9_byteCame cX9_byteCame 2 none :: Gw) B0.pre
  obtain rfl : s.heap.size = sz := hpp.1
  have hl := lv_entry [va_rf v0, .int v1] (n := 2) (by rw [sl_r, sl_i, sl_0]; decide)
  rw [lg_entry_eq]
  rw [la_r, la_i, la_0] at hl
  exact tX9_byteCame (l := l) (R := rmX9_byteCame) ⟨B0.exec, B0.bytes, hml, findClass_of_methodNamed B0.named, fun w hw => hts w (List.mem_cons_of_mem _ hw)⟩ B0.returns B0.notSynchronized (Nat.le_refl _) (Nat.le_refl _) (Nat.le_refl _) (Nat.le_refl _) _ _ _ h _ _ _ hpp.pb (lv_sub hl [0, 1] rfl)
-- X9_feed: LogHuntModel.feed(IIIII)I
def wX9_feed_117 (post : Int32 → Pool → Prop) : Nat → Option Nat → Int32 → Int32 → Pool → Prop
  | 0 => fun _ _ _ _ => False
  | n + 1 => fun v0 v5 v6 S => br (v6 < 0) (xI S v0 9 27 fun a2 => post a2 S) (xrc S v0 9 (wX9_byteCame (fun S3 => wX9_feed_117 post n v0 v5 (v6 + (-8)) S3) v0 (v5 >>> (v6 &&& 31)) S))
def wX9_feed_93 (post : Int32 → Pool → Prop) : Nat → Option Nat → Int32 → Int32 → Int32 → Pool → Prop
  | 0 => fun _ _ _ _ _ => False
  | n + 1 => fun v0 v4 v5 v6 S => br (v6 < 0) (∃ n1, wX9_feed_117 post n1 v0 v5 24 S) (xrc S v0 9 (wX9_byteCame (fun S2 => wX9_feed_93 post n v0 v4 v5 (v6 + (-8)) S2) v0 (v4 >>> (v6 &&& 31)) S))
def wX9_feed_70 (post : Int32 → Pool → Prop) : Nat → Option Nat → Int32 → Int32 → Int32 → Int32 → Pool → Prop
  | 0 => fun _ _ _ _ _ _ => False
  | n + 1 => fun v0 v3 v4 v5 v6 S => br (v6 < 0) (∃ n1, wX9_feed_93 post n1 v0 v4 v5 24 S) (xrc S v0 9 (wX9_byteCame (fun S2 => wX9_feed_70 post n v0 v3 v4 v5 (v6 + (-8)) S2) v0 (v3 >>> (v6 &&& 31)) S))
def wX9_feed_47 (post : Int32 → Pool → Prop) : Nat → Option Nat → Int32 → Int32 → Int32 → Int32 → Int32 → Pool → Prop
  | 0 => fun _ _ _ _ _ _ _ => False
  | n + 1 => fun v0 v2 v3 v4 v5 v6 S => br (v6 < 0) (∃ n1, wX9_feed_70 post n1 v0 v3 v4 v5 24 S) (xrc S v0 9 (wX9_byteCame (fun S2 => wX9_feed_47 post n v0 v2 v3 v4 v5 (v6 + (-8)) S2) v0 (v2 >>> (v6 &&& 31)) S))
def wX9_feed_24 (post : Int32 → Pool → Prop) : Nat → Option Nat → Int32 → Int32 → Int32 → Int32 → Int32 → Int32 → Pool → Prop
  | 0 => fun _ _ _ _ _ _ _ _ => False
  | n + 1 => fun v0 v1 v2 v3 v4 v5 v6 S => br (v6 < 0) (∃ n1, wX9_feed_47 post n1 v0 v2 v3 v4 v5 24 S) (xrc S v0 9 (wX9_byteCame (fun S2 => wX9_feed_24 post n v0 v1 v2 v3 v4 v5 (v6 + (-8)) S2) v0 (v1 >>> (v6 &&& 31)) S))
def wX9_feed (post : Int32 → Pool → Prop) (v0 : Option Nat) (v1 : Int32) (v2 : Int32) (v3 : Int32) (v4 : Int32) (v5 : Int32) (S : Pool) : Prop := xpI S v0 9 0 0 fun S1 => xI S1 v0 9 27 fun a2 => br ((a2 + 20) ≤ 400) (∃ n1, wX9_feed_24 post n1 v0 v1 v2 v3 v4 v5 24 S1) (post ((-1)) S1)
def rmX9_feed : Room := { frames := 1, cells := 0, slots := 0, locals := 21 }
section
variable {p : Program} {l : Launch} {e : Env} {R : Room} {s : State} {m : MethodId} {args : Array Value} {below : List Frame} {meth : Method} {c : Code} {D : va_G} {cy : Nat → ClassId} {A : Nat → Prop}
set_option maxRecDepth 100000 in
set_option maxHeartbeats 4000000 in
theorem tX9_feed_117 {post : Int32 → Pool → Prop} (M : MC p m c cX9_feed 7 s args RX9) (hr : meth.sig.returnType = (some FieldType.int)) (hlk : meth.locks = false) (hRf : 1 ≤ R.frames) (hRl : 21 ≤ R.locals) (hRc : 0 ≤ R.cells) (hRs : 0 ≤ R.slots) : ∀ (n : Nat) (v0 : Option Nat) (v5 : Int32) (v6 : Int32) (S : Pool), wX9_feed_117 post n v0 v5 v6 S → ∀ (H : Heap) (locs : List Loc) (ls : Array Slot), PB D cy A s S H locs → lv_has ls 7 [(0, va_rf v0), (5, .int v5), (6, .int v6)] → W p l e R s m args below meth c H locs 0 0 (MQ below (va_Qi post (PQ D cy A) A) args s 0 0 A) (F0 m 117 ls []) := by
  intro n
  induction n with
  | zero => intro v0 v5 v6 S h; exact False.elim h
  | succ n ih =>
    intro v0 v5 v6 S h H locs ls B hl
    unfold wX9_feed_117 at h
    refine lv_iload M.1 M.2.1 dX9_feed_117 (lv_at hl 2 rfl) ?_
    refine lv_if_lt (tgt := 137) M.1 M.2.1 dX9_feed_119 (by decide) (fun c1 => ?_) (fun c1 => ?_)
    · have h := h.1 c1
      refine g_aload_n M dX9_feed_137 rfl (lv_at hl 0 rfl) ?_
      refine gfX9_108 M B dX9_feed_138 h (fun a2 h => ?_)
      exact g_iret M B hr hlk h (by decide) (by decide) dX9_feed_141
    · have h := h.2 c1
      refine g_aload_n M dX9_feed_122 rfl (lv_at hl 0 rfl) ?_
      refine lv_iload M.1 M.2.1 dX9_feed_123 (lv_at hl 1 rfl) ?_
      refine lv_iload M.1 M.2.1 dX9_feed_125 (lv_at hl 2 rfl) ?_
      refine lv_ishr M.1 M.2.1 dX9_feed_127 ?_
      obtain ⟨o1, e1, hL1, hK1, h⟩ := h
      refine g_callv (k1 := 0) (k2 := 0) B (g_runV (n := 1) (As := [.int (v5 >>> (v6 &&& 31))]) (rm := rmX9_byteCame) M B e1 (kX9_byteCame (v0 := v0) (v1 := v5 >>> (v6 &&& 31)) l D cy h _) wmX9_111 wiX9_byteCame wsX9_byteCame wnX9 wcdX9_byteCame ⟨rfl, by decide, by decide, by decide +kernel⟩ ⟨Nat.le_trans (by decide) hRf, Nat.le_trans (by decide) hRl⟩ ⟨Nat.le_trans (by decide) hRc, Nat.le_trans (by decide) hRs⟩ hL1 hK1 (by decide) rfl rfl rfl hl.1 rfl ct_0 (by decide) dX9_feed_128) (by decide) (by decide) (fun S3 H locs h B => ?_)
      refine lv_iinc (v := v6 + (-8)) (lv' := [(6, .int (v6 + (-8))), (0, va_rf v0), (5, .int v5)]) M.1 M.2.1 dX9_feed_131 hl (k := 2) rfl (by rfl) (by decide) (fl_e (fl_k rfl rfl (fl_i rfl (fl_d rfl fl_0)))) (fun ls hl => ?_)
      refine lv_goto (tgt := 117) M.1 M.2.1 dX9_feed_134 (by decide) ?_
      exact ih _ _ _ _ h _ _ _ B (lv_sub hl [1, 2, 0] rfl)
set_option maxRecDepth 100000 in
set_option maxHeartbeats 4000000 in
theorem tX9_feed_93 {post : Int32 → Pool → Prop} (M : MC p m c cX9_feed 7 s args RX9) (hr : meth.sig.returnType = (some FieldType.int)) (hlk : meth.locks = false) (hRf : 1 ≤ R.frames) (hRl : 21 ≤ R.locals) (hRc : 0 ≤ R.cells) (hRs : 0 ≤ R.slots) : ∀ (n : Nat) (v0 : Option Nat) (v4 : Int32) (v5 : Int32) (v6 : Int32) (S : Pool), wX9_feed_93 post n v0 v4 v5 v6 S → ∀ (H : Heap) (locs : List Loc) (ls : Array Slot), PB D cy A s S H locs → lv_has ls 7 [(0, va_rf v0), (4, .int v4), (5, .int v5), (6, .int v6)] → W p l e R s m args below meth c H locs 0 0 (MQ below (va_Qi post (PQ D cy A) A) args s 0 0 A) (F0 m 93 ls []) := by
  intro n
  induction n with
  | zero => intro v0 v4 v5 v6 S h; exact False.elim h
  | succ n ih =>
    intro v0 v4 v5 v6 S h H locs ls B hl
    unfold wX9_feed_93 at h
    refine lv_iload M.1 M.2.1 dX9_feed_93 (lv_at hl 3 rfl) ?_
    refine lv_if_lt (tgt := 113) M.1 M.2.1 dX9_feed_95 (by decide) (fun c1 => ?_) (fun c1 => ?_)
    · have h := h.1 c1
      refine lv_bipush (v := 24) M.1 M.2.1 dX9_feed_113 (by decide) ?_
      refine lv_istore (lv' := [(6, .int 24), (0, va_rf v0), (4, .int v4), (5, .int v5)]) M.1 M.2.1 dX9_feed_115 hl (by decide) (fl_e (fl_k rfl rfl (fl_k rfl rfl (fl_i rfl (fl_d rfl fl_0))))) (fun ls hl => ?_)
      obtain ⟨n1, h⟩ := h
      exact tX9_feed_117 M hr hlk hRf hRl hRc hRs n1 _ _ _ _ h _ _ _ B (lv_sub hl [1, 3, 0] rfl)
    · have h := h.2 c1
      refine g_aload_n M dX9_feed_98 rfl (lv_at hl 0 rfl) ?_
      refine lv_iload M.1 M.2.1 dX9_feed_99 (lv_at hl 1 rfl) ?_
      refine lv_iload M.1 M.2.1 dX9_feed_101 (lv_at hl 3 rfl) ?_
      refine lv_ishr M.1 M.2.1 dX9_feed_103 ?_
      obtain ⟨o1, e1, hL1, hK1, h⟩ := h
      refine g_callv (k1 := 0) (k2 := 0) B (g_runV (n := 1) (As := [.int (v4 >>> (v6 &&& 31))]) (rm := rmX9_byteCame) M B e1 (kX9_byteCame (v0 := v0) (v1 := v4 >>> (v6 &&& 31)) l D cy h _) wmX9_111 wiX9_byteCame wsX9_byteCame wnX9 wcdX9_byteCame ⟨rfl, by decide, by decide, by decide +kernel⟩ ⟨Nat.le_trans (by decide) hRf, Nat.le_trans (by decide) hRl⟩ ⟨Nat.le_trans (by decide) hRc, Nat.le_trans (by decide) hRs⟩ hL1 hK1 (by decide) rfl rfl rfl hl.1 rfl ct_0 (by decide) dX9_feed_104) (by decide) (by decide) (fun S2 H locs h B => ?_)
      refine lv_iinc (v := v6 + (-8)) (lv' := [(6, .int (v6 + (-8))), (0, va_rf v0), (4, .int v4), (5, .int v5)]) M.1 M.2.1 dX9_feed_107 hl (k := 3) rfl (by rfl) (by decide) (fl_e (fl_k rfl rfl (fl_k rfl rfl (fl_i rfl (fl_d rfl fl_0))))) (fun ls hl => ?_)
      refine lv_goto (tgt := 93) M.1 M.2.1 dX9_feed_110 (by decide) ?_
      exact ih _ _ _ _ _ h _ _ _ B (lv_sub hl [1, 2, 3, 0] rfl)
set_option maxRecDepth 100000 in
set_option maxHeartbeats 4000000 in
theorem tX9_feed_70 {post : Int32 → Pool → Prop} (M : MC p m c cX9_feed 7 s args RX9) (hr : meth.sig.returnType = (some FieldType.int)) (hlk : meth.locks = false) (hRf : 1 ≤ R.frames) (hRl : 21 ≤ R.locals) (hRc : 0 ≤ R.cells) (hRs : 0 ≤ R.slots) : ∀ (n : Nat) (v0 : Option Nat) (v3 : Int32) (v4 : Int32) (v5 : Int32) (v6 : Int32) (S : Pool), wX9_feed_70 post n v0 v3 v4 v5 v6 S → ∀ (H : Heap) (locs : List Loc) (ls : Array Slot), PB D cy A s S H locs → lv_has ls 7 [(0, va_rf v0), (3, .int v3), (4, .int v4), (5, .int v5), (6, .int v6)] → W p l e R s m args below meth c H locs 0 0 (MQ below (va_Qi post (PQ D cy A) A) args s 0 0 A) (F0 m 70 ls []) := by
  intro n
  induction n with
  | zero => intro v0 v3 v4 v5 v6 S h; exact False.elim h
  | succ n ih =>
    intro v0 v3 v4 v5 v6 S h H locs ls B hl
    unfold wX9_feed_70 at h
    refine lv_iload M.1 M.2.1 dX9_feed_70 (lv_at hl 4 rfl) ?_
    refine lv_if_lt (tgt := 89) M.1 M.2.1 dX9_feed_72 (by decide) (fun c1 => ?_) (fun c1 => ?_)
    · have h := h.1 c1
      refine lv_bipush (v := 24) M.1 M.2.1 dX9_feed_89 (by decide) ?_
      refine lv_istore (lv' := [(6, .int 24), (0, va_rf v0), (3, .int v3), (4, .int v4), (5, .int v5)]) M.1 M.2.1 dX9_feed_91 hl (by decide) (fl_e (fl_k rfl rfl (fl_k rfl rfl (fl_k rfl rfl (fl_i rfl (fl_d rfl fl_0)))))) (fun ls hl => ?_)
      obtain ⟨n1, h⟩ := h
      exact tX9_feed_93 M hr hlk hRf hRl hRc hRs n1 _ _ _ _ _ h _ _ _ B (lv_sub hl [1, 3, 4, 0] rfl)
    · have h := h.2 c1
      refine g_aload_n M dX9_feed_75 rfl (lv_at hl 0 rfl) ?_
      refine lv_iload_n M.1 M.2.1 dX9_feed_76 rfl (lv_at hl 1 rfl) ?_
      refine lv_iload M.1 M.2.1 dX9_feed_77 (lv_at hl 4 rfl) ?_
      refine lv_ishr M.1 M.2.1 dX9_feed_79 ?_
      obtain ⟨o1, e1, hL1, hK1, h⟩ := h
      refine g_callv (k1 := 0) (k2 := 0) B (g_runV (n := 1) (As := [.int (v3 >>> (v6 &&& 31))]) (rm := rmX9_byteCame) M B e1 (kX9_byteCame (v0 := v0) (v1 := v3 >>> (v6 &&& 31)) l D cy h _) wmX9_111 wiX9_byteCame wsX9_byteCame wnX9 wcdX9_byteCame ⟨rfl, by decide, by decide, by decide +kernel⟩ ⟨Nat.le_trans (by decide) hRf, Nat.le_trans (by decide) hRl⟩ ⟨Nat.le_trans (by decide) hRc, Nat.le_trans (by decide) hRs⟩ hL1 hK1 (by decide) rfl rfl rfl hl.1 rfl ct_0 (by decide) dX9_feed_80) (by decide) (by decide) (fun S2 H locs h B => ?_)
      refine lv_iinc (v := v6 + (-8)) (lv' := [(6, .int (v6 + (-8))), (0, va_rf v0), (3, .int v3), (4, .int v4), (5, .int v5)]) M.1 M.2.1 dX9_feed_83 hl (k := 4) rfl (by rfl) (by decide) (fl_e (fl_k rfl rfl (fl_k rfl rfl (fl_k rfl rfl (fl_i rfl (fl_d rfl fl_0)))))) (fun ls hl => ?_)
      refine lv_goto (tgt := 70) M.1 M.2.1 dX9_feed_86 (by decide) ?_
      exact ih _ _ _ _ _ _ h _ _ _ B (lv_sub hl [1, 2, 3, 4, 0] rfl)
set_option maxRecDepth 100000 in
set_option maxHeartbeats 4000000 in
theorem tX9_feed_47 {post : Int32 → Pool → Prop} (M : MC p m c cX9_feed 7 s args RX9) (hr : meth.sig.returnType = (some FieldType.int)) (hlk : meth.locks = false) (hRf : 1 ≤ R.frames) (hRl : 21 ≤ R.locals) (hRc : 0 ≤ R.cells) (hRs : 0 ≤ R.slots) : ∀ (n : Nat) (v0 : Option Nat) (v2 : Int32) (v3 : Int32) (v4 : Int32) (v5 : Int32) (v6 : Int32) (S : Pool), wX9_feed_47 post n v0 v2 v3 v4 v5 v6 S → ∀ (H : Heap) (locs : List Loc) (ls : Array Slot), PB D cy A s S H locs → lv_has ls 7 [(0, va_rf v0), (2, .int v2), (3, .int v3), (4, .int v4), (5, .int v5), (6, .int v6)] → W p l e R s m args below meth c H locs 0 0 (MQ below (va_Qi post (PQ D cy A) A) args s 0 0 A) (F0 m 47 ls []) := by
  intro n
  induction n with
  | zero => intro v0 v2 v3 v4 v5 v6 S h; exact False.elim h
  | succ n ih =>
    intro v0 v2 v3 v4 v5 v6 S h H locs ls B hl
    unfold wX9_feed_47 at h
    refine lv_iload M.1 M.2.1 dX9_feed_47 (lv_at hl 5 rfl) ?_
    refine lv_if_lt (tgt := 66) M.1 M.2.1 dX9_feed_49 (by decide) (fun c1 => ?_) (fun c1 => ?_)
    · have h := h.1 c1
      refine lv_bipush (v := 24) M.1 M.2.1 dX9_feed_66 (by decide) ?_
      refine lv_istore (lv' := [(6, .int 24), (0, va_rf v0), (2, .int v2), (3, .int v3), (4, .int v4), (5, .int v5)]) M.1 M.2.1 dX9_feed_68 hl (by decide) (fl_e (fl_k rfl rfl (fl_k rfl rfl (fl_k rfl rfl (fl_k rfl rfl (fl_i rfl (fl_d rfl fl_0))))))) (fun ls hl => ?_)
      obtain ⟨n1, h⟩ := h
      exact tX9_feed_70 M hr hlk hRf hRl hRc hRs n1 _ _ _ _ _ _ h _ _ _ B (lv_sub hl [1, 3, 4, 5, 0] rfl)
    · have h := h.2 c1
      refine g_aload_n M dX9_feed_52 rfl (lv_at hl 0 rfl) ?_
      refine lv_iload_n M.1 M.2.1 dX9_feed_53 rfl (lv_at hl 1 rfl) ?_
      refine lv_iload M.1 M.2.1 dX9_feed_54 (lv_at hl 5 rfl) ?_
      refine lv_ishr M.1 M.2.1 dX9_feed_56 ?_
      obtain ⟨o1, e1, hL1, hK1, h⟩ := h
      refine g_callv (k1 := 0) (k2 := 0) B (g_runV (n := 1) (As := [.int (v2 >>> (v6 &&& 31))]) (rm := rmX9_byteCame) M B e1 (kX9_byteCame (v0 := v0) (v1 := v2 >>> (v6 &&& 31)) l D cy h _) wmX9_111 wiX9_byteCame wsX9_byteCame wnX9 wcdX9_byteCame ⟨rfl, by decide, by decide, by decide +kernel⟩ ⟨Nat.le_trans (by decide) hRf, Nat.le_trans (by decide) hRl⟩ ⟨Nat.le_trans (by decide) hRc, Nat.le_trans (by decide) hRs⟩ hL1 hK1 (by decide) rfl rfl rfl hl.1 rfl ct_0 (by decide) dX9_feed_57) (by decide) (by decide) (fun S2 H locs h B => ?_)
      refine lv_iinc (v := v6 + (-8)) (lv' := [(6, .int (v6 + (-8))), (0, va_rf v0), (2, .int v2), (3, .int v3), (4, .int v4), (5, .int v5)]) M.1 M.2.1 dX9_feed_60 hl (k := 5) rfl (by rfl) (by decide) (fl_e (fl_k rfl rfl (fl_k rfl rfl (fl_k rfl rfl (fl_k rfl rfl (fl_i rfl (fl_d rfl fl_0))))))) (fun ls hl => ?_)
      refine lv_goto (tgt := 47) M.1 M.2.1 dX9_feed_63 (by decide) ?_
      exact ih _ _ _ _ _ _ _ h _ _ _ B (lv_sub hl [1, 2, 3, 4, 5, 0] rfl)
set_option maxRecDepth 100000 in
set_option maxHeartbeats 4000000 in
theorem tX9_feed_24 {post : Int32 → Pool → Prop} (M : MC p m c cX9_feed 7 s args RX9) (hr : meth.sig.returnType = (some FieldType.int)) (hlk : meth.locks = false) (hRf : 1 ≤ R.frames) (hRl : 21 ≤ R.locals) (hRc : 0 ≤ R.cells) (hRs : 0 ≤ R.slots) : ∀ (n : Nat) (v0 : Option Nat) (v1 : Int32) (v2 : Int32) (v3 : Int32) (v4 : Int32) (v5 : Int32) (v6 : Int32) (S : Pool), wX9_feed_24 post n v0 v1 v2 v3 v4 v5 v6 S → ∀ (H : Heap) (locs : List Loc) (ls : Array Slot), PB D cy A s S H locs → lv_has ls 7 [(0, va_rf v0), (1, .int v1), (2, .int v2), (3, .int v3), (4, .int v4), (5, .int v5), (6, .int v6)] → W p l e R s m args below meth c H locs 0 0 (MQ below (va_Qi post (PQ D cy A) A) args s 0 0 A) (F0 m 24 ls []) := by
  intro n
  induction n with
  | zero => intro v0 v1 v2 v3 v4 v5 v6 S h; exact False.elim h
  | succ n ih =>
    intro v0 v1 v2 v3 v4 v5 v6 S h H locs ls B hl
    unfold wX9_feed_24 at h
    refine lv_iload M.1 M.2.1 dX9_feed_24 (lv_at hl 6 rfl) ?_
    refine lv_if_lt (tgt := 43) M.1 M.2.1 dX9_feed_26 (by decide) (fun c1 => ?_) (fun c1 => ?_)
    · have h := h.1 c1
      refine lv_bipush (v := 24) M.1 M.2.1 dX9_feed_43 (by decide) ?_
      refine lv_istore (lv' := [(6, .int 24), (0, va_rf v0), (1, .int v1), (2, .int v2), (3, .int v3), (4, .int v4), (5, .int v5)]) M.1 M.2.1 dX9_feed_45 hl (by decide) (fl_e (fl_k rfl rfl (fl_k rfl rfl (fl_k rfl rfl (fl_k rfl rfl (fl_k rfl rfl (fl_i rfl (fl_d rfl fl_0)))))))) (fun ls hl => ?_)
      obtain ⟨n1, h⟩ := h
      exact tX9_feed_47 M hr hlk hRf hRl hRc hRs n1 _ _ _ _ _ _ _ h _ _ _ B (lv_sub hl [1, 3, 4, 5, 6, 0] rfl)
    · have h := h.2 c1
      refine g_aload_n M dX9_feed_29 rfl (lv_at hl 0 rfl) ?_
      refine lv_iload_n M.1 M.2.1 dX9_feed_30 rfl (lv_at hl 1 rfl) ?_
      refine lv_iload M.1 M.2.1 dX9_feed_31 (lv_at hl 6 rfl) ?_
      refine lv_ishr M.1 M.2.1 dX9_feed_33 ?_
      obtain ⟨o1, e1, hL1, hK1, h⟩ := h
      refine g_callv (k1 := 0) (k2 := 0) B (g_runV (n := 1) (As := [.int (v1 >>> (v6 &&& 31))]) (rm := rmX9_byteCame) M B e1 (kX9_byteCame (v0 := v0) (v1 := v1 >>> (v6 &&& 31)) l D cy h _) wmX9_111 wiX9_byteCame wsX9_byteCame wnX9 wcdX9_byteCame ⟨rfl, by decide, by decide, by decide +kernel⟩ ⟨Nat.le_trans (by decide) hRf, Nat.le_trans (by decide) hRl⟩ ⟨Nat.le_trans (by decide) hRc, Nat.le_trans (by decide) hRs⟩ hL1 hK1 (by decide) rfl rfl rfl hl.1 rfl ct_0 (by decide) dX9_feed_34) (by decide) (by decide) (fun S2 H locs h B => ?_)
      refine lv_iinc (v := v6 + (-8)) (lv' := [(6, .int (v6 + (-8))), (0, va_rf v0), (1, .int v1), (2, .int v2), (3, .int v3), (4, .int v4), (5, .int v5)]) M.1 M.2.1 dX9_feed_37 hl (k := 6) rfl (by rfl) (by decide) (fl_e (fl_k rfl rfl (fl_k rfl rfl (fl_k rfl rfl (fl_k rfl rfl (fl_k rfl rfl (fl_i rfl (fl_d rfl fl_0)))))))) (fun ls hl => ?_)
      refine lv_goto (tgt := 24) M.1 M.2.1 dX9_feed_40 (by decide) ?_
      exact ih _ _ _ _ _ _ _ _ h _ _ _ B (lv_sub hl [1, 2, 3, 4, 5, 6, 0] rfl)
set_option maxRecDepth 100000 in
set_option maxHeartbeats 4000000 in
theorem tX9_feed {post : Int32 → Pool → Prop} (M : MC p m c cX9_feed 7 s args RX9) (hr : meth.sig.returnType = (some FieldType.int)) (hlk : meth.locks = false) (hRf : 1 ≤ R.frames) (hRl : 21 ≤ R.locals) (hRc : 0 ≤ R.cells) (hRs : 0 ≤ R.slots) : ∀ (v0 : Option Nat) (v1 : Int32) (v2 : Int32) (v3 : Int32) (v4 : Int32) (v5 : Int32) (S : Pool), wX9_feed post v0 v1 v2 v3 v4 v5 S → ∀ (H : Heap) (locs : List Loc) (ls : Array Slot), PB D cy A s S H locs → lv_has ls 7 [(0, va_rf v0), (1, .int v1), (2, .int v2), (3, .int v3), (4, .int v4), (5, .int v5)] → W p l e R s m args below meth c H locs 0 0 (MQ below (va_Qi post (PQ D cy A) A) args s 0 0 A) (F0 m 0 ls []) := by
  intro v0 v1 v2 v3 v4 v5 S h H locs ls B hl
  unfold wX9_feed at h
  refine g_aload_n M dX9_feed_0 rfl (lv_at hl 0 rfl) ?_
  refine lv_iconst (v := 0) M.1 M.2.1 dX9_feed_1 (by decide) ?_
  refine gpX9_99 M B dX9_feed_2 h (fun S1 H locs h B => ?_)
  refine g_aload_n M dX9_feed_5 rfl (lv_at hl 0 rfl) ?_
  refine gfX9_108 M B dX9_feed_6 h (fun a2 h => ?_)
  refine lv_bipush (v := 20) M.1 M.2.1 dX9_feed_9 (by decide) ?_
  refine lv_iadd M.1 M.2.1 dX9_feed_11 ?_
  refine lv_sipush (v := 400) M.1 M.2.1 dX9_feed_12 (by decide) ?_
  refine lv_icmp_le (tgt := 20) M.1 M.2.1 dX9_feed_15 (by decide) (fun c3 => ?_) (fun c3 => ?_)
  · have h := h.1 c3
    refine lv_bipush (v := 24) M.1 M.2.1 dX9_feed_20 (by decide) ?_
    refine lv_istore (lv' := [(6, .int 24), (0, va_rf v0), (1, .int v1), (2, .int v2), (3, .int v3), (4, .int v4), (5, .int v5)]) M.1 M.2.1 dX9_feed_22 hl (by decide) (fl_e (fl_k rfl rfl (fl_k rfl rfl (fl_k rfl rfl (fl_k rfl rfl (fl_k rfl rfl (fl_i rfl fl_0))))))) (fun ls hl => ?_)
    obtain ⟨n1, h⟩ := h
    exact tX9_feed_24 M hr hlk hRf hRl hRc hRs n1 _ _ _ _ _ _ _ _ h _ _ _ B (lv_sub hl [1, 2, 3, 4, 5, 6, 0] rfl)
  · have h := h.2 c3
    refine lv_iconst (v := (-1)) M.1 M.2.1 dX9_feed_18 (by decide) ?_
    exact g_iret M B hr hlk h (by decide) (by decide) dX9_feed_19
end
set_option maxRecDepth 100000 in
set_option maxHeartbeats 4000000 in
theorem kX9_feed (l : Launch) (D : va_G) (cy : Nat → ClassId) {post : Int32 → Pool → Prop} {v0 : Option Nat} {v1 : Int32} {v2 : Int32} {v3 : Int32} {v4 : Int32} {v5 : Int32} {S : Pool} (h : wX9_feed post v0 v1 v2 v3 v4 v5 S) : MetI l yX9_feed cX9_feed 7 (some FieldType.int) rmX9_feed [va_rf v0, .int v1, .int v2, .int v3, .int v4, .int v5] D cy S post := by
  intro sz
  refine Met.ofW (cc := cX9_feed) (maxL := 7) (ret := (some FieldType.int)) (by decide) rfl ?_
  intro p e s m args below meth c s₁ B0 hml hv
  obtain ⟨rfl, hpp⟩ := hv
  have hts := atoms_spec (ws := .code yX9_feed cX9_feed 7 (some FieldType.int) :: Gw) B0.pre
  obtain rfl : s.heap.size = sz := hpp.1
  have hl := lv_entry [va_rf v0, .int v1, .int v2, .int v3, .int v4, .int v5] (n := 7) (by rw [sl_r, sl_i, sl_i, sl_i, sl_i, sl_i, sl_0]; decide)
  rw [lg_entry_eq]
  rw [la_r, la_i, la_i, la_i, la_i, la_i, la_0] at hl
  exact tX9_feed (l := l) (R := rmX9_feed) ⟨B0.exec, B0.bytes, hml, findClass_of_methodNamed B0.named, fun w hw => hts w (List.mem_cons_of_mem _ hw)⟩ B0.returns B0.notSynchronized (Nat.le_refl _) (Nat.le_refl _) (Nat.le_refl _) (Nat.le_refl _) _ _ _ _ _ _ _ h _ _ _ hpp.pb (lv_sub hl [0, 1, 2, 3, 4, 5] rfl)
-- X9_end: LogHuntModel.end(I)Z
def wX9_end (post : Int32 → Pool → Prop) (v0 : Option Nat) (v1 : Int32) (S : Pool) : Prop := xpI S v0 9 0 0 fun S1 => br (v1 < 0) (((0 : Int32) = 0 ∨ (0 : Int32) = 1) ∧ post (0 : Int32) S1) (xI S1 v0 9 27 fun a3 => br (v1 ≤ a3) (xpI S1 v0 9 27 v1 fun S5 => ((1 : Int32) = 0 ∨ (1 : Int32) = 1) ∧ post (1 : Int32) S5) (((0 : Int32) = 0 ∨ (0 : Int32) = 1) ∧ post (0 : Int32) S1))
def rmX9_end : Room := { frames := 0, cells := 0, slots := 0, locals := 0 }
section
variable {p : Program} {l : Launch} {e : Env} {R : Room} {s : State} {m : MethodId} {args : Array Value} {below : List Frame} {meth : Method} {c : Code} {D : va_G} {cy : Nat → ClassId} {A : Nat → Prop}
set_option maxRecDepth 100000 in
set_option maxHeartbeats 4000000 in
theorem tX9_end {post : Int32 → Pool → Prop} (M : MC p m c cX9_end 2 s args RX9) (hr : meth.sig.returnType = (some FieldType.boolean)) (hlk : meth.locks = false) (hRf : 0 ≤ R.frames) (hRl : 0 ≤ R.locals) (hRc : 0 ≤ R.cells) (hRs : 0 ≤ R.slots) : ∀ (v0 : Option Nat) (v1 : Int32) (S : Pool), wX9_end post v0 v1 S → ∀ (H : Heap) (locs : List Loc) (ls : Array Slot), PB D cy A s S H locs → lv_has ls 2 [(0, va_rf v0), (1, .int v1)] → W p l e R s m args below meth c H locs 0 0 (MQ below (va_Qi post (PQ D cy A) A) args s 0 0 A) (F0 m 0 ls []) := by
  intro v0 v1 S h H locs ls B hl
  unfold wX9_end at h
  refine g_aload_n M dX9_end_0 rfl (lv_at hl 0 rfl) ?_
  refine lv_iconst (v := 0) M.1 M.2.1 dX9_end_1 (by decide) ?_
  refine gpX9_99 M B dX9_end_2 h (fun S1 H locs h B => ?_)
  refine lv_iload_n M.1 M.2.1 dX9_end_5 rfl (lv_at hl 1 rfl) ?_
  refine lv_if_lt (tgt := 17) M.1 M.2.1 dX9_end_6 (by decide) (fun c2 => ?_) (fun c2 => ?_)
  · have h := h.1 c2
    refine lv_iconst (v := 0) M.1 M.2.1 dX9_end_17 (by decide) ?_
    exact g_zret M B hr hlk h (by decide) (by decide) dX9_end_18
  · have h := h.2 c2
    refine lv_iload_n M.1 M.2.1 dX9_end_9 rfl (lv_at hl 1 rfl) ?_
    refine g_aload_n M dX9_end_10 rfl (lv_at hl 0 rfl) ?_
    refine gfX9_108 M B dX9_end_11 h (fun a3 h => ?_)
    refine lv_icmp_le (tgt := 19) M.1 M.2.1 dX9_end_14 (by decide) (fun c4 => ?_) (fun c4 => ?_)
    · have h := h.1 c4
      refine g_aload_n M dX9_end_19 rfl (lv_at hl 0 rfl) ?_
      refine lv_iload_n M.1 M.2.1 dX9_end_20 rfl (lv_at hl 1 rfl) ?_
      refine gpX9_108 M B dX9_end_21 h (fun S5 H locs h B => ?_)
      refine lv_iconst (v := 1) M.1 M.2.1 dX9_end_24 (by decide) ?_
      exact g_zret M B hr hlk h (by decide) (by decide) dX9_end_25
    · have h := h.2 c4
      refine lv_iconst (v := 0) M.1 M.2.1 dX9_end_17 (by decide) ?_
      exact g_zret M B hr hlk h (by decide) (by decide) dX9_end_18
end
set_option maxRecDepth 100000 in
set_option maxHeartbeats 4000000 in
theorem kX9_end (l : Launch) (D : va_G) (cy : Nat → ClassId) {post : Int32 → Pool → Prop} {v0 : Option Nat} {v1 : Int32} {S : Pool} (h : wX9_end post v0 v1 S) : MetI l yX9_end cX9_end 2 (some FieldType.boolean) rmX9_end [va_rf v0, .int v1] D cy S post := by
  intro sz
  refine Met.ofW (cc := cX9_end) (maxL := 2) (ret := (some FieldType.boolean)) (by decide) rfl ?_
  intro p e s m args below meth c s₁ B0 hml hv
  obtain ⟨rfl, hpp⟩ := hv
  have hts := atoms_spec (ws := .code yX9_end cX9_end 2 (some FieldType.boolean) :: Gw) B0.pre
  obtain rfl : s.heap.size = sz := hpp.1
  have hl := lv_entry [va_rf v0, .int v1] (n := 2) (by rw [sl_r, sl_i, sl_0]; decide)
  rw [lg_entry_eq]
  rw [la_r, la_i, la_0] at hl
  exact tX9_end (l := l) (R := rmX9_end) ⟨B0.exec, B0.bytes, hml, findClass_of_methodNamed B0.named, fun w hw => hts w (List.mem_cons_of_mem _ hw)⟩ B0.returns B0.notSynchronized (Nat.le_refl _) (Nat.le_refl _) (Nat.le_refl _) (Nat.le_refl _) _ _ _ h _ _ _ hpp.pb (lv_sub hl [0, 1] rfl)
-- X9_ticks: LogHuntModel.ticks(I)I
def wX9_ticks_51 (post : Int32 → Pool → Prop) (v0 : Option Nat) (z0 : Int32) (z1 : Option Nat) (S : Pool) : Prop := xpI S z1 9 1 z0 fun S1 => xI S1 v0 9 1 fun a2 => post a2 S1
def wX9_ticks_16 (post : Int32 → Pool → Prop) (v0 : Option Nat) (v1 : Int32) (z0 : Int32) (z1 : Option Nat) (S : Pool) : Prop := xpI S z1 9 0 z0 fun S1 => xI S1 v0 9 0 fun a2 => br (a2 ≤ 0) (xI S1 v0 9 1 fun a4 => br ((a4 + v1) ≤ 1000000) (xI S1 v0 9 1 fun a6 => wX9_ticks_51 post v0 (a6 + v1) v0 S1) (wX9_ticks_51 post v0 1000000 v0 S1)) (post 0 S1)
def wX9_ticks (post : Int32 → Pool → Prop) (v0 : Option Nat) (v1 : Int32) (S : Pool) : Prop := wX9_isIn (fun a2 S1 => br (a2 = 0) (wX9_ticks_16 post v0 v1 1 v0 S1) (wX9_ticks_16 post v0 v1 0 v0 S1)) v1 0 100000 S
def rmX9_ticks : Room := { frames := 1, cells := 0, slots := 0, locals := 22 }
section
variable {p : Program} {l : Launch} {e : Env} {R : Room} {s : State} {m : MethodId} {args : Array Value} {below : List Frame} {meth : Method} {c : Code} {D : va_G} {cy : Nat → ClassId} {A : Nat → Prop}
set_option maxRecDepth 100000 in
set_option maxHeartbeats 4000000 in
theorem tX9_ticks_51 {post : Int32 → Pool → Prop} (M : MC p m c cX9_ticks 2 s args RX9) (hr : meth.sig.returnType = (some FieldType.int)) (hlk : meth.locks = false) (hRf : 1 ≤ R.frames) (hRl : 22 ≤ R.locals) (hRc : 0 ≤ R.cells) (hRs : 0 ≤ R.slots) : ∀ (v0 : Option Nat) (z0 : Int32) (z1 : Option Nat) (S : Pool), wX9_ticks_51 post v0 z0 z1 S → ∀ (H : Heap) (locs : List Loc) (ls : Array Slot), PB D cy A s S H locs → lv_has ls 2 [(0, va_rf v0)] → W p l e R s m args below meth c H locs 0 0 (MQ below (va_Qi post (PQ D cy A) A) args s 0 0 A) (F0 m 51 ls [.int z0, va_rf z1]) := by
  intro v0 z0 z1 S h H locs ls B hl
  unfold wX9_ticks_51 at h
  refine gpX9_120 M B dX9_ticks_51 h (fun S1 H locs h B => ?_)
  refine g_aload_n M dX9_ticks_54 rfl (lv_at hl 0 rfl) ?_
  refine gfX9_120 M B dX9_ticks_55 h (fun a2 h => ?_)
  exact g_iret M B hr hlk h (by decide) (by decide) dX9_ticks_58
set_option maxRecDepth 100000 in
set_option maxHeartbeats 4000000 in
theorem tX9_ticks_16 {post : Int32 → Pool → Prop} (M : MC p m c cX9_ticks 2 s args RX9) (hr : meth.sig.returnType = (some FieldType.int)) (hlk : meth.locks = false) (hRf : 1 ≤ R.frames) (hRl : 22 ≤ R.locals) (hRc : 0 ≤ R.cells) (hRs : 0 ≤ R.slots) : ∀ (v0 : Option Nat) (v1 : Int32) (z0 : Int32) (z1 : Option Nat) (S : Pool), wX9_ticks_16 post v0 v1 z0 z1 S → ∀ (H : Heap) (locs : List Loc) (ls : Array Slot), PB D cy A s S H locs → lv_has ls 2 [(0, va_rf v0), (1, .int v1)] → W p l e R s m args below meth c H locs 0 0 (MQ below (va_Qi post (PQ D cy A) A) args s 0 0 A) (F0 m 16 ls [.int z0, va_rf z1]) := by
  intro v0 v1 z0 z1 S h H locs ls B hl
  unfold wX9_ticks_16 at h
  refine gpX9_99 M B dX9_ticks_16 h (fun S1 H locs h B => ?_)
  refine g_aload_n M dX9_ticks_19 rfl (lv_at hl 0 rfl) ?_
  refine gfX9_99 M B dX9_ticks_20 h (fun a2 h => ?_)
  refine lv_if_le (tgt := 28) M.1 M.2.1 dX9_ticks_23 (by decide) (fun c3 => ?_) (fun c3 => ?_)
  · have h := h.1 c3
    refine g_aload_n M dX9_ticks_28 rfl (lv_at hl 0 rfl) ?_
    refine g_aload_n M dX9_ticks_29 rfl (lv_at hl 0 rfl) ?_
    refine gfX9_120 M B dX9_ticks_30 h (fun a4 h => ?_)
    refine lv_iload_n M.1 M.2.1 dX9_ticks_33 rfl (lv_at hl 1 rfl) ?_
    refine lv_iadd M.1 M.2.1 dX9_ticks_34 ?_
    refine lv_ldc (v := 1000000) M.1 M.2.1 M.2.2.2.1 (M.2.2.2.2 _ wkX9_123) dX9_ticks_35 ?_
    refine lv_icmp_le (tgt := 45) M.1 M.2.1 dX9_ticks_37 (by decide) (fun c5 => ?_) (fun c5 => ?_)
    · have h := h.1 c5
      refine g_aload_n M dX9_ticks_45 rfl (lv_at hl 0 rfl) ?_
      refine gfX9_120 M B dX9_ticks_46 h (fun a6 h => ?_)
      refine lv_iload_n M.1 M.2.1 dX9_ticks_49 rfl (lv_at hl 1 rfl) ?_
      refine lv_iadd M.1 M.2.1 dX9_ticks_50 ?_
      exact tX9_ticks_51 M hr hlk hRf hRl hRc hRs _ _ _ _ h _ _ _ B (lv_sub hl [0] rfl)
    · have h := h.2 c5
      refine lv_ldc (v := 1000000) M.1 M.2.1 M.2.2.2.1 (M.2.2.2.2 _ wkX9_123) dX9_ticks_40 ?_
      refine lv_goto (tgt := 51) M.1 M.2.1 dX9_ticks_42 (by decide) ?_
      exact tX9_ticks_51 M hr hlk hRf hRl hRc hRs _ _ _ _ h _ _ _ B (lv_sub hl [0] rfl)
  · have h := h.2 c3
    refine lv_iconst (v := 0) M.1 M.2.1 dX9_ticks_26 (by decide) ?_
    exact g_iret M B hr hlk h (by decide) (by decide) dX9_ticks_27
set_option maxRecDepth 100000 in
set_option maxHeartbeats 4000000 in
theorem tX9_ticks {post : Int32 → Pool → Prop} (M : MC p m c cX9_ticks 2 s args RX9) (hr : meth.sig.returnType = (some FieldType.int)) (hlk : meth.locks = false) (hRf : 1 ≤ R.frames) (hRl : 22 ≤ R.locals) (hRc : 0 ≤ R.cells) (hRs : 0 ≤ R.slots) : ∀ (v0 : Option Nat) (v1 : Int32) (S : Pool), wX9_ticks post v0 v1 S → ∀ (H : Heap) (locs : List Loc) (ls : Array Slot), PB D cy A s S H locs → lv_has ls 2 [(0, va_rf v0), (1, .int v1)] → W p l e R s m args below meth c H locs 0 0 (MQ below (va_Qi post (PQ D cy A) A) args s 0 0 A) (F0 m 0 ls []) := by
  intro v0 v1 S h H locs ls B hl
  unfold wX9_ticks at h
  refine g_aload_n M dX9_ticks_0 rfl (lv_at hl 0 rfl) ?_
  refine lv_iload_n M.1 M.2.1 dX9_ticks_1 rfl (lv_at hl 1 rfl) ?_
  refine lv_iconst (v := 0) M.1 M.2.1 dX9_ticks_2 (by decide) ?_
  refine lv_ldc (v := 100000) M.1 M.2.1 M.2.2.2.1 (M.2.2.2.2 _ wkX9_115) dX9_ticks_3 ?_
  refine g_calli (k1 := 0) (k2 := 0) B (g_runS (n := 3) (As := [.int v1, .int 0, .int 100000]) (rm := rmX9_isIn) M B (kX9_isIn (v0 := v1) (v1 := 0) (v2 := 100000) l D cy h _) wmX9_116 wstX9_isIn wnX9 wcdX9_isIn ⟨by decide, by decide, by decide +kernel⟩ ⟨Nat.le_trans (by decide) hRf, Nat.le_trans (by decide) hRl⟩ ⟨Nat.le_trans (by decide) hRc, Nat.le_trans (by decide) hRs⟩ rfl hl.1 rfl (ct_r ct_0) (by decide) dX9_ticks_5) (by decide) (by decide) (fun a2 S1 H locs h B => ?_)
  refine lv_if_ne (tgt := 15) M.1 M.2.1 dX9_ticks_8 (by decide) (fun c3 => ?_) (fun c3 => ?_)
  · have h := h.2 c3
    refine lv_iconst (v := 0) M.1 M.2.1 dX9_ticks_15 (by decide) ?_
    exact tX9_ticks_16 M hr hlk hRf hRl hRc hRs _ _ _ _ _ h _ _ _ B (lv_sub hl [0, 1] rfl)
  · have h := h.1 c3
    refine lv_iconst (v := 1) M.1 M.2.1 dX9_ticks_11 (by decide) ?_
    refine lv_goto (tgt := 16) M.1 M.2.1 dX9_ticks_12 (by decide) ?_
    exact tX9_ticks_16 M hr hlk hRf hRl hRc hRs _ _ _ _ _ h _ _ _ B (lv_sub hl [0, 1] rfl)
end
set_option maxRecDepth 100000 in
set_option maxHeartbeats 4000000 in
theorem kX9_ticks (l : Launch) (D : va_G) (cy : Nat → ClassId) {post : Int32 → Pool → Prop} {v0 : Option Nat} {v1 : Int32} {S : Pool} (h : wX9_ticks post v0 v1 S) : MetI l yX9_ticks cX9_ticks 2 (some FieldType.int) rmX9_ticks [va_rf v0, .int v1] D cy S post := by
  intro sz
  refine Met.ofW (cc := cX9_ticks) (maxL := 2) (ret := (some FieldType.int)) (by decide) rfl ?_
  intro p e s m args below meth c s₁ B0 hml hv
  obtain ⟨rfl, hpp⟩ := hv
  have hts := atoms_spec (ws := .code yX9_ticks cX9_ticks 2 (some FieldType.int) :: Gw) B0.pre
  obtain rfl : s.heap.size = sz := hpp.1
  have hl := lv_entry [va_rf v0, .int v1] (n := 2) (by rw [sl_r, sl_i, sl_0]; decide)
  rw [lg_entry_eq]
  rw [la_r, la_i, la_0] at hl
  exact tX9_ticks (l := l) (R := rmX9_ticks) ⟨B0.exec, B0.bytes, hml, findClass_of_methodNamed B0.named, fun w hw => hts w (List.mem_cons_of_mem _ hw)⟩ B0.returns B0.notSynchronized (Nat.le_refl _) (Nat.le_refl _) (Nat.le_refl _) (Nat.le_refl _) _ _ _ h _ _ _ hpp.pb (lv_sub hl [0, 1] rfl)
-- X9_act: LogHuntModel.act(IIIII)I
def wX9_act_223 (post : Int32 → Pool → Prop) (v0 : Option Nat) (v1 : Int32) (v2 : Int32) (v3 : Int32) (v4 : Int32) (v5 : Int32) (z0 : Int32) (z1 : Option Nat) (S : Pool) : Prop := xpI S z1 9 0 z0 fun S1 => xI S1 v0 9 0 fun a2 => br (a2 ≤ 0) (xR S1 v0 9 6 fun a4 => xI S1 v0 9 4 fun a5 => xsI S1 a4 10 a5 v1 fun S6 => xR S6 v0 9 7 fun a7 => xI S6 v0 9 4 fun a8 => xsI S6 a7 10 ((3 : Int32) * a8) v2 fun S9 => xR S9 v0 9 7 fun a10 => xI S9 v0 9 4 fun a11 => xsI S9 a10 10 (((3 : Int32) * a11) + 1) v3 fun S12 => xR S12 v0 9 7 fun a13 => xI S12 v0 9 4 fun a14 => xsI S12 a13 10 (((3 : Int32) * a14) + 2) v4 fun S15 => xR S15 v0 9 8 fun a16 => xI S15 v0 9 4 fun a17 => xsI S15 a16 10 a17 v5 fun S18 => xR S18 v0 9 9 fun a19 => xI S18 v0 9 4 fun a20 => xI S18 v0 9 1 fun a21 => xsI S18 a19 10 a20 a21 fun S22 => xR S22 v0 9 10 fun a23 => xI S22 v0 9 4 fun a24 => xsI S22 a23 10 a24 0 fun S25 => xI S25 v0 9 4 fun a26 => xpI S25 v0 9 4 (a26 + 1) fun S27 => xI S27 v0 9 4 fun a28 => post (a28 - 1) S27) (post 0 S1)
def wX9_act_168 (K87 : Option Nat → Int32 → Int32 → Int32 → Int32 → Int32 → Int32 → Pool → Prop) (post : Int32 → Pool → Prop) (v0 : Option Nat) (v1 : Int32) (v2 : Int32) (v3 : Int32) (v4 : Int32) (v5 : Int32) (v7 : Int32) (z0 : Int32) (S : Pool) : Prop := br (z0 = 0) (K87 v0 v1 v2 v3 v4 v5 (v7 + 1) S) (xR S v0 9 10 fun a2 => xaI S a2 10 v7 fun a3 => xsI S a2 10 v7 (a3 + 1) fun S4 => xI S4 v0 9 5 fun a5 => xpI S4 v0 9 5 (a5 + 1) fun S6 => post ((-1)) S6)
def wX9_act_167 (K87 : Option Nat → Int32 → Int32 → Int32 → Int32 → Int32 → Int32 → Pool → Prop) (post : Int32 → Pool → Prop) (v0 : Option Nat) (v1 : Int32) (v2 : Int32) (v3 : Int32) (v4 : Int32) (v5 : Int32) (v7 : Int32) (S : Pool) : Prop := wX9_act_168 K87 post v0 v1 v2 v3 v4 v5 v7 0 S
def wX9_act_87 (post : Int32 → Pool → Prop) : Nat → Option Nat → Int32 → Int32 → Int32 → Int32 → Int32 → Int32 → Pool → Prop
  | 0 => fun _ _ _ _ _ _ _ _ => False
  | n + 1 => fun v0 v1 v2 v3 v4 v5 v7 S => xI S v0 9 4 fun a1 => br (a1 ≤ v7) (xI S v0 9 4 fun a3 => br (a3 = 250) (wX9_act_223 post v0 v1 v2 v3 v4 v5 2 v0 S) (wX9_act_223 post v0 v1 v2 v3 v4 v5 0 v0 S)) (xR S v0 9 6 fun a5 => xaI S a5 10 v7 fun a6 => br (a6 = v1) (xR S v0 9 7 fun a8 => xaI S a8 10 ((3 : Int32) * v7) fun a9 => br (a9 = v2) (xR S v0 9 7 fun a11 => xaI S a11 10 (((3 : Int32) * v7) + 1) fun a12 => br (a12 = v3) (xR S v0 9 7 fun a14 => xaI S a14 10 (((3 : Int32) * v7) + 2) fun a15 => br (a15 = v4) (xR S v0 9 8 fun a17 => xaI S a17 10 v7 fun a18 => br (a18 = v5) (wX9_act_168 (wX9_act_87 post n) post v0 v1 v2 v3 v4 v5 v7 1 S) (wX9_act_167 (wX9_act_87 post n) post v0 v1 v2 v3 v4 v5 v7 S)) (wX9_act_167 (wX9_act_87 post n) post v0 v1 v2 v3 v4 v5 v7 S)) (wX9_act_167 (wX9_act_87 post n) post v0 v1 v2 v3 v4 v5 v7 S)) (wX9_act_167 (wX9_act_87 post n) post v0 v1 v2 v3 v4 v5 v7 S)) (wX9_act_167 (wX9_act_87 post n) post v0 v1 v2 v3 v4 v5 v7 S))
def wX9_act_72 (post : Int32 → Pool → Prop) (v0 : Option Nat) (v1 : Int32) (v2 : Int32) (v3 : Int32) (v4 : Int32) (v5 : Int32) (z0 : Int32) (z1 : Option Nat) (S : Pool) : Prop := xpI S z1 9 0 z0 fun S1 => xI S1 v0 9 0 fun a2 => br (a2 ≤ 0) (∃ n1, wX9_act_87 post n1 v0 v1 v2 v3 v4 v5 0 S1) (post 0 S1)
def wX9_act_59 (post : Int32 → Pool → Prop) (v0 : Option Nat) (v1 : Int32) (v2 : Int32) (v3 : Int32) (v4 : Int32) (v5 : Int32) (z0 : Int32) (S : Pool) : Prop := br (z0 = 0) (wX9_act_72 post v0 v1 v2 v3 v4 v5 1 v0 S) (wX9_act_72 post v0 v1 v2 v3 v4 v5 0 v0 S)
def wX9_act_58 (post : Int32 → Pool → Prop) (v0 : Option Nat) (v1 : Int32) (v2 : Int32) (v3 : Int32) (v4 : Int32) (v5 : Int32) (S : Pool) : Prop := wX9_act_59 post v0 v1 v2 v3 v4 v5 0 S
def wX9_act (post : Int32 → Pool → Prop) (v0 : Option Nat) (v1 : Int32) (v2 : Int32) (v3 : Int32) (v4 : Int32) (v5 : Int32) (S : Pool) : Prop := wX9_isIn (fun a2 S1 => br (a2 = 0) (wX9_act_58 post v0 v1 v2 v3 v4 v5 S1) (wX9_isIn (fun a5 S4 => br (a5 = 0) (wX9_act_58 post v0 v1 v2 v3 v4 v5 S4) (wX9_isIn (fun a8 S7 => br (a8 = 0) (wX9_act_58 post v0 v1 v2 v3 v4 v5 S7) (wX9_isIn (fun a11 S10 => br (a11 = 0) (wX9_act_58 post v0 v1 v2 v3 v4 v5 S10) (xI S10 v0 9 1 fun a13 => wX9_isIn (fun a15 S14 => br (a15 = 0) (wX9_act_58 post v0 v1 v2 v3 v4 v5 S14) (wX9_act_59 post v0 v1 v2 v3 v4 v5 1 S14)) v5 0 a13 S10)) v4 0 15 S7)) v3 0 30 S4)) v2 0 30 S1)) v1 0 7 S
def rmX9_act : Room := { frames := 1, cells := 0, slots := 0, locals := 22 }
section
variable {p : Program} {l : Launch} {e : Env} {R : Room} {s : State} {m : MethodId} {args : Array Value} {below : List Frame} {meth : Method} {c : Code} {D : va_G} {cy : Nat → ClassId} {A : Nat → Prop}
set_option maxRecDepth 100000 in
set_option maxHeartbeats 4000000 in
theorem tX9_act_223 {post : Int32 → Pool → Prop} (M : MC p m c cX9_act 9 s args RX9) (hr : meth.sig.returnType = (some FieldType.int)) (hlk : meth.locks = false) (hRf : 1 ≤ R.frames) (hRl : 22 ≤ R.locals) (hRc : 0 ≤ R.cells) (hRs : 0 ≤ R.slots) : ∀ (v0 : Option Nat) (v1 : Int32) (v2 : Int32) (v3 : Int32) (v4 : Int32) (v5 : Int32) (z0 : Int32) (z1 : Option Nat) (S : Pool), wX9_act_223 post v0 v1 v2 v3 v4 v5 z0 z1 S → ∀ (H : Heap) (locs : List Loc) (ls : Array Slot), PB D cy A s S H locs → lv_has ls 9 [(0, va_rf v0), (1, .int v1), (2, .int v2), (3, .int v3), (4, .int v4), (5, .int v5)] → W p l e R s m args below meth c H locs 0 0 (MQ below (va_Qi post (PQ D cy A) A) args s 0 0 A) (F0 m 223 ls [.int z0, va_rf z1]) := by
  intro v0 v1 v2 v3 v4 v5 z0 z1 S h H locs ls B hl
  unfold wX9_act_223 at h
  refine gpX9_99 M B dX9_act_223 h (fun S1 H locs h B => ?_)
  refine g_aload_n M dX9_act_226 rfl (lv_at hl 0 rfl) ?_
  refine gfX9_99 M B dX9_act_227 h (fun a2 h => ?_)
  refine lv_if_le (tgt := 235) M.1 M.2.1 dX9_act_230 (by decide) (fun c3 => ?_) (fun c3 => ?_)
  · have h := h.1 c3
    refine g_aload_n M dX9_act_235 rfl (lv_at hl 0 rfl) ?_
    refine gfX9_17 M B dX9_act_236 h (fun a4 h => ?_)
    refine g_aload_n M dX9_act_239 rfl (lv_at hl 0 rfl) ?_
    refine gfX9_105 M B dX9_act_240 h (fun a5 h => ?_)
    refine lv_iload_n M.1 M.2.1 dX9_act_243 rfl (lv_at hl 1 rfl) ?_
    refine g_iast M B dX9_act_244 h (fun S6 H locs h B => ?_)
    refine g_aload_n M dX9_act_245 rfl (lv_at hl 0 rfl) ?_
    refine gfX9_20 M B dX9_act_246 h (fun a7 h => ?_)
    refine lv_iconst (v := 3) M.1 M.2.1 dX9_act_249 (by decide) ?_
    refine g_aload_n M dX9_act_250 rfl (lv_at hl 0 rfl) ?_
    refine gfX9_105 M B dX9_act_251 h (fun a8 h => ?_)
    refine lv_imul M.1 M.2.1 dX9_act_254 ?_
    refine lv_iload_n M.1 M.2.1 dX9_act_255 rfl (lv_at hl 2 rfl) ?_
    refine g_iast M B dX9_act_256 h (fun S9 H locs h B => ?_)
    refine g_aload_n M dX9_act_257 rfl (lv_at hl 0 rfl) ?_
    refine gfX9_20 M B dX9_act_258 h (fun a10 h => ?_)
    refine lv_iconst (v := 3) M.1 M.2.1 dX9_act_261 (by decide) ?_
    refine g_aload_n M dX9_act_262 rfl (lv_at hl 0 rfl) ?_
    refine gfX9_105 M B dX9_act_263 h (fun a11 h => ?_)
    refine lv_imul M.1 M.2.1 dX9_act_266 ?_
    refine lv_iconst (v := 1) M.1 M.2.1 dX9_act_267 (by decide) ?_
    refine lv_iadd M.1 M.2.1 dX9_act_268 ?_
    refine lv_iload_n M.1 M.2.1 dX9_act_269 rfl (lv_at hl 3 rfl) ?_
    refine g_iast M B dX9_act_270 h (fun S12 H locs h B => ?_)
    refine g_aload_n M dX9_act_271 rfl (lv_at hl 0 rfl) ?_
    refine gfX9_20 M B dX9_act_272 h (fun a13 h => ?_)
    refine lv_iconst (v := 3) M.1 M.2.1 dX9_act_275 (by decide) ?_
    refine g_aload_n M dX9_act_276 rfl (lv_at hl 0 rfl) ?_
    refine gfX9_105 M B dX9_act_277 h (fun a14 h => ?_)
    refine lv_imul M.1 M.2.1 dX9_act_280 ?_
    refine lv_iconst (v := 2) M.1 M.2.1 dX9_act_281 (by decide) ?_
    refine lv_iadd M.1 M.2.1 dX9_act_282 ?_
    refine lv_iload M.1 M.2.1 dX9_act_283 (lv_at hl 4 rfl) ?_
    refine g_iast M B dX9_act_285 h (fun S15 H locs h B => ?_)
    refine g_aload_n M dX9_act_286 rfl (lv_at hl 0 rfl) ?_
    refine gfX9_23 M B dX9_act_287 h (fun a16 h => ?_)
    refine g_aload_n M dX9_act_290 rfl (lv_at hl 0 rfl) ?_
    refine gfX9_105 M B dX9_act_291 h (fun a17 h => ?_)
    refine lv_iload M.1 M.2.1 dX9_act_294 (lv_at hl 5 rfl) ?_
    refine g_iast M B dX9_act_296 h (fun S18 H locs h B => ?_)
    refine g_aload_n M dX9_act_297 rfl (lv_at hl 0 rfl) ?_
    refine gfX9_26 M B dX9_act_298 h (fun a19 h => ?_)
    refine g_aload_n M dX9_act_301 rfl (lv_at hl 0 rfl) ?_
    refine gfX9_105 M B dX9_act_302 h (fun a20 h => ?_)
    refine g_aload_n M dX9_act_305 rfl (lv_at hl 0 rfl) ?_
    refine gfX9_120 M B dX9_act_306 h (fun a21 h => ?_)
    refine g_iast M B dX9_act_309 h (fun S22 H locs h B => ?_)
    refine g_aload_n M dX9_act_310 rfl (lv_at hl 0 rfl) ?_
    refine gfX9_29 M B dX9_act_311 h (fun a23 h => ?_)
    refine g_aload_n M dX9_act_314 rfl (lv_at hl 0 rfl) ?_
    refine gfX9_105 M B dX9_act_315 h (fun a24 h => ?_)
    refine lv_iconst (v := 0) M.1 M.2.1 dX9_act_318 (by decide) ?_
    refine g_iast M B dX9_act_319 h (fun S25 H locs h B => ?_)
    refine g_aload_n M dX9_act_320 rfl (lv_at hl 0 rfl) ?_
    refine lv_dup M.1 M.2.1 dX9_act_321 (rf_cat _) ?_
    refine gfX9_105 M B dX9_act_322 h (fun a26 h => ?_)
    refine lv_iconst (v := 1) M.1 M.2.1 dX9_act_325 (by decide) ?_
    refine lv_iadd M.1 M.2.1 dX9_act_326 ?_
    refine gpX9_105 M B dX9_act_327 h (fun S27 H locs h B => ?_)
    refine g_aload_n M dX9_act_330 rfl (lv_at hl 0 rfl) ?_
    refine gfX9_105 M B dX9_act_331 h (fun a28 h => ?_)
    refine lv_iconst (v := 1) M.1 M.2.1 dX9_act_334 (by decide) ?_
    refine lv_isub M.1 M.2.1 dX9_act_335 ?_
    exact g_iret M B hr hlk h (by decide) (by decide) dX9_act_336
  · have h := h.2 c3
    refine lv_iconst (v := 0) M.1 M.2.1 dX9_act_233 (by decide) ?_
    exact g_iret M B hr hlk h (by decide) (by decide) dX9_act_234
set_option maxRecDepth 100000 in
set_option maxHeartbeats 4000000 in
theorem tX9_act_168 {K87 : Option Nat → Int32 → Int32 → Int32 → Int32 → Int32 → Int32 → Pool → Prop} {post : Int32 → Pool → Prop} (M : MC p m c cX9_act 9 s args RX9) (hr : meth.sig.returnType = (some FieldType.int)) (hlk : meth.locks = false) (hRf : 1 ≤ R.frames) (hRl : 22 ≤ R.locals) (hRc : 0 ≤ R.cells) (hRs : 0 ≤ R.slots) (hK87 : ∀ (v0 : Option Nat) (v1 : Int32) (v2 : Int32) (v3 : Int32) (v4 : Int32) (v5 : Int32) (v7 : Int32) (S : Pool), K87 v0 v1 v2 v3 v4 v5 v7 S → ∀ (H : Heap) (locs : List Loc) (ls : Array Slot), PB D cy A s S H locs → lv_has ls 9 [(0, va_rf v0), (1, .int v1), (2, .int v2), (3, .int v3), (4, .int v4), (5, .int v5), (7, .int v7)] → W p l e R s m args below meth c H locs 0 0 (MQ below (va_Qi post (PQ D cy A) A) args s 0 0 A) (F0 m 87 ls [])) : ∀ (v0 : Option Nat) (v1 : Int32) (v2 : Int32) (v3 : Int32) (v4 : Int32) (v5 : Int32) (v7 : Int32) (z0 : Int32) (S : Pool), wX9_act_168 K87 post v0 v1 v2 v3 v4 v5 v7 z0 S → ∀ (H : Heap) (locs : List Loc) (ls : Array Slot), PB D cy A s S H locs → lv_has ls 9 [(0, va_rf v0), (1, .int v1), (2, .int v2), (3, .int v3), (4, .int v4), (5, .int v5), (7, .int v7)] → W p l e R s m args below meth c H locs 0 0 (MQ below (va_Qi post (PQ D cy A) A) args s 0 0 A) (F0 m 168 ls [.int z0]) := by
  intro v0 v1 v2 v3 v4 v5 v7 z0 S h H locs ls B hl
  unfold wX9_act_168 at h
  refine lv_istore (lv' := [(8, .int z0), (0, va_rf v0), (1, .int v1), (2, .int v2), (3, .int v3), (4, .int v4), (5, .int v5), (7, .int v7)]) M.1 M.2.1 dX9_act_168 hl (by decide) (fl_e (fl_k rfl rfl (fl_k rfl rfl (fl_k rfl rfl (fl_k rfl rfl (fl_k rfl rfl (fl_k rfl rfl (fl_i rfl fl_0)))))))) (fun ls hl => ?_)
  refine lv_iload M.1 M.2.1 dX9_act_170 (lv_at hl 0 rfl) ?_
  refine lv_if_ne (tgt := 178) M.1 M.2.1 dX9_act_172 (by decide) (fun c1 => ?_) (fun c1 => ?_)
  · have h := h.2 c1
    refine g_aload_n M dX9_act_178 rfl (lv_at hl 1 rfl) ?_
    refine gfX9_29 M B dX9_act_179 h (fun a2 h => ?_)
    refine lv_iload M.1 M.2.1 dX9_act_182 (lv_at hl 7 rfl) ?_
    refine lv_dup2_11 M.1 M.2.1 dX9_act_184 (rfl) (rf_cat _) ?_
    refine g_iald M B dX9_act_185 h (fun a3 h => ?_)
    refine lv_iconst (v := 1) M.1 M.2.1 dX9_act_186 (by decide) ?_
    refine lv_iadd M.1 M.2.1 dX9_act_187 ?_
    refine g_iast M B dX9_act_188 h (fun S4 H locs h B => ?_)
    refine g_aload_n M dX9_act_189 rfl (lv_at hl 1 rfl) ?_
    refine lv_dup M.1 M.2.1 dX9_act_190 (rf_cat _) ?_
    refine gfX9_124 M B dX9_act_191 h (fun a5 h => ?_)
    refine lv_iconst (v := 1) M.1 M.2.1 dX9_act_194 (by decide) ?_
    refine lv_iadd M.1 M.2.1 dX9_act_195 ?_
    refine gpX9_124 M B dX9_act_196 h (fun S6 H locs h B => ?_)
    refine lv_iconst (v := (-1)) M.1 M.2.1 dX9_act_199 (by decide) ?_
    exact g_iret M B hr hlk h (by decide) (by decide) dX9_act_200
  · have h := h.1 c1
    refine lv_goto (tgt := 201) M.1 M.2.1 dX9_act_175 (by decide) ?_
    refine lv_iinc (v := v7 + 1) (lv' := [(7, .int (v7 + 1)), (8, .int z0), (0, va_rf v0), (1, .int v1), (2, .int v2), (3, .int v3), (4, .int v4), (5, .int v5)]) M.1 M.2.1 dX9_act_201 hl (k := 7) rfl (by rfl) (by decide) (fl_e (fl_k rfl rfl (fl_k rfl rfl (fl_k rfl rfl (fl_k rfl rfl (fl_k rfl rfl (fl_k rfl rfl (fl_k rfl rfl (fl_d rfl fl_0))))))))) (fun ls hl => ?_)
    refine lv_goto (tgt := 87) M.1 M.2.1 dX9_act_204 (by decide) ?_
    exact hK87 _ _ _ _ _ _ _ _ h _ _ _ B (lv_sub hl [2, 3, 4, 5, 6, 7, 0] rfl)
set_option maxRecDepth 100000 in
set_option maxHeartbeats 4000000 in
theorem tX9_act_167 {K87 : Option Nat → Int32 → Int32 → Int32 → Int32 → Int32 → Int32 → Pool → Prop} {post : Int32 → Pool → Prop} (M : MC p m c cX9_act 9 s args RX9) (hr : meth.sig.returnType = (some FieldType.int)) (hlk : meth.locks = false) (hRf : 1 ≤ R.frames) (hRl : 22 ≤ R.locals) (hRc : 0 ≤ R.cells) (hRs : 0 ≤ R.slots) (hK87 : ∀ (v0 : Option Nat) (v1 : Int32) (v2 : Int32) (v3 : Int32) (v4 : Int32) (v5 : Int32) (v7 : Int32) (S : Pool), K87 v0 v1 v2 v3 v4 v5 v7 S → ∀ (H : Heap) (locs : List Loc) (ls : Array Slot), PB D cy A s S H locs → lv_has ls 9 [(0, va_rf v0), (1, .int v1), (2, .int v2), (3, .int v3), (4, .int v4), (5, .int v5), (7, .int v7)] → W p l e R s m args below meth c H locs 0 0 (MQ below (va_Qi post (PQ D cy A) A) args s 0 0 A) (F0 m 87 ls [])) : ∀ (v0 : Option Nat) (v1 : Int32) (v2 : Int32) (v3 : Int32) (v4 : Int32) (v5 : Int32) (v7 : Int32) (S : Pool), wX9_act_167 K87 post v0 v1 v2 v3 v4 v5 v7 S → ∀ (H : Heap) (locs : List Loc) (ls : Array Slot), PB D cy A s S H locs → lv_has ls 9 [(0, va_rf v0), (1, .int v1), (2, .int v2), (3, .int v3), (4, .int v4), (5, .int v5), (7, .int v7)] → W p l e R s m args below meth c H locs 0 0 (MQ below (va_Qi post (PQ D cy A) A) args s 0 0 A) (F0 m 167 ls []) := by
  intro v0 v1 v2 v3 v4 v5 v7 S h H locs ls B hl
  unfold wX9_act_167 at h
  refine lv_iconst (v := 0) M.1 M.2.1 dX9_act_167 (by decide) ?_
  exact tX9_act_168 M hr hlk hRf hRl hRc hRs hK87 _ _ _ _ _ _ _ _ _ h _ _ _ B (lv_sub hl [0, 1, 2, 3, 4, 5, 6] rfl)
set_option maxRecDepth 100000 in
set_option maxHeartbeats 4000000 in
theorem tX9_act_87 {post : Int32 → Pool → Prop} (M : MC p m c cX9_act 9 s args RX9) (hr : meth.sig.returnType = (some FieldType.int)) (hlk : meth.locks = false) (hRf : 1 ≤ R.frames) (hRl : 22 ≤ R.locals) (hRc : 0 ≤ R.cells) (hRs : 0 ≤ R.slots) : ∀ (n : Nat) (v0 : Option Nat) (v1 : Int32) (v2 : Int32) (v3 : Int32) (v4 : Int32) (v5 : Int32) (v7 : Int32) (S : Pool), wX9_act_87 post n v0 v1 v2 v3 v4 v5 v7 S → ∀ (H : Heap) (locs : List Loc) (ls : Array Slot), PB D cy A s S H locs → lv_has ls 9 [(0, va_rf v0), (1, .int v1), (2, .int v2), (3, .int v3), (4, .int v4), (5, .int v5), (7, .int v7)] → W p l e R s m args below meth c H locs 0 0 (MQ below (va_Qi post (PQ D cy A) A) args s 0 0 A) (F0 m 87 ls []) := by
  intro n
  induction n with
  | zero => intro v0 v1 v2 v3 v4 v5 v7 S h; exact False.elim h
  | succ n ih =>
    intro v0 v1 v2 v3 v4 v5 v7 S h H locs ls B hl
    unfold wX9_act_87 at h
    refine lv_iload M.1 M.2.1 dX9_act_87 (lv_at hl 6 rfl) ?_
    refine g_aload_n M dX9_act_89 rfl (lv_at hl 0 rfl) ?_
    refine gfX9_105 M B dX9_act_90 h (fun a1 h => ?_)
    refine lv_icmp_ge (tgt := 207) M.1 M.2.1 dX9_act_93 (by decide) (fun c2 => ?_) (fun c2 => ?_)
    · have h := h.1 c2
      refine g_aload_n M dX9_act_207 rfl (lv_at hl 0 rfl) ?_
      refine g_aload_n M dX9_act_208 rfl (lv_at hl 0 rfl) ?_
      refine gfX9_105 M B dX9_act_209 h (fun a3 h => ?_)
      refine lv_sipush (v := 250) M.1 M.2.1 dX9_act_212 (by decide) ?_
      refine lv_icmp_ne (tgt := 222) M.1 M.2.1 dX9_act_215 (by decide) (fun c4 => ?_) (fun c4 => ?_)
      · have h := h.2 c4
        refine lv_iconst (v := 0) M.1 M.2.1 dX9_act_222 (by decide) ?_
        exact tX9_act_223 M hr hlk hRf hRl hRc hRs _ _ _ _ _ _ _ _ _ h _ _ _ B (lv_sub hl [0, 1, 2, 3, 4, 5] rfl)
      · have h := h.1 c4
        refine lv_iconst (v := 2) M.1 M.2.1 dX9_act_218 (by decide) ?_
        refine lv_goto (tgt := 223) M.1 M.2.1 dX9_act_219 (by decide) ?_
        exact tX9_act_223 M hr hlk hRf hRl hRc hRs _ _ _ _ _ _ _ _ _ h _ _ _ B (lv_sub hl [0, 1, 2, 3, 4, 5] rfl)
    · have h := h.2 c2
      refine g_aload_n M dX9_act_96 rfl (lv_at hl 0 rfl) ?_
      refine gfX9_17 M B dX9_act_97 h (fun a5 h => ?_)
      refine lv_iload M.1 M.2.1 dX9_act_100 (lv_at hl 6 rfl) ?_
      refine g_iald M B dX9_act_102 h (fun a6 h => ?_)
      refine lv_iload_n M.1 M.2.1 dX9_act_103 rfl (lv_at hl 1 rfl) ?_
      refine lv_icmp_ne (tgt := 167) M.1 M.2.1 dX9_act_104 (by decide) (fun c7 => ?_) (fun c7 => ?_)
      · have h := h.2 c7
        exact tX9_act_167 M hr hlk hRf hRl hRc hRs ih _ _ _ _ _ _ _ _ h _ _ _ B (lv_sub hl [0, 1, 2, 3, 4, 5, 6] rfl)
      · have h := h.1 c7
        refine g_aload_n M dX9_act_107 rfl (lv_at hl 0 rfl) ?_
        refine gfX9_20 M B dX9_act_108 h (fun a8 h => ?_)
        refine lv_iconst (v := 3) M.1 M.2.1 dX9_act_111 (by decide) ?_
        refine lv_iload M.1 M.2.1 dX9_act_112 (lv_at hl 6 rfl) ?_
        refine lv_imul M.1 M.2.1 dX9_act_114 ?_
        refine g_iald M B dX9_act_115 h (fun a9 h => ?_)
        refine lv_iload_n M.1 M.2.1 dX9_act_116 rfl (lv_at hl 2 rfl) ?_
        refine lv_icmp_ne (tgt := 167) M.1 M.2.1 dX9_act_117 (by decide) (fun c10 => ?_) (fun c10 => ?_)
        · have h := h.2 c10
          exact tX9_act_167 M hr hlk hRf hRl hRc hRs ih _ _ _ _ _ _ _ _ h _ _ _ B (lv_sub hl [0, 1, 2, 3, 4, 5, 6] rfl)
        · have h := h.1 c10
          refine g_aload_n M dX9_act_120 rfl (lv_at hl 0 rfl) ?_
          refine gfX9_20 M B dX9_act_121 h (fun a11 h => ?_)
          refine lv_iconst (v := 3) M.1 M.2.1 dX9_act_124 (by decide) ?_
          refine lv_iload M.1 M.2.1 dX9_act_125 (lv_at hl 6 rfl) ?_
          refine lv_imul M.1 M.2.1 dX9_act_127 ?_
          refine lv_iconst (v := 1) M.1 M.2.1 dX9_act_128 (by decide) ?_
          refine lv_iadd M.1 M.2.1 dX9_act_129 ?_
          refine g_iald M B dX9_act_130 h (fun a12 h => ?_)
          refine lv_iload_n M.1 M.2.1 dX9_act_131 rfl (lv_at hl 3 rfl) ?_
          refine lv_icmp_ne (tgt := 167) M.1 M.2.1 dX9_act_132 (by decide) (fun c13 => ?_) (fun c13 => ?_)
          · have h := h.2 c13
            exact tX9_act_167 M hr hlk hRf hRl hRc hRs ih _ _ _ _ _ _ _ _ h _ _ _ B (lv_sub hl [0, 1, 2, 3, 4, 5, 6] rfl)
          · have h := h.1 c13
            refine g_aload_n M dX9_act_135 rfl (lv_at hl 0 rfl) ?_
            refine gfX9_20 M B dX9_act_136 h (fun a14 h => ?_)
            refine lv_iconst (v := 3) M.1 M.2.1 dX9_act_139 (by decide) ?_
            refine lv_iload M.1 M.2.1 dX9_act_140 (lv_at hl 6 rfl) ?_
            refine lv_imul M.1 M.2.1 dX9_act_142 ?_
            refine lv_iconst (v := 2) M.1 M.2.1 dX9_act_143 (by decide) ?_
            refine lv_iadd M.1 M.2.1 dX9_act_144 ?_
            refine g_iald M B dX9_act_145 h (fun a15 h => ?_)
            refine lv_iload M.1 M.2.1 dX9_act_146 (lv_at hl 4 rfl) ?_
            refine lv_icmp_ne (tgt := 167) M.1 M.2.1 dX9_act_148 (by decide) (fun c16 => ?_) (fun c16 => ?_)
            · have h := h.2 c16
              exact tX9_act_167 M hr hlk hRf hRl hRc hRs ih _ _ _ _ _ _ _ _ h _ _ _ B (lv_sub hl [0, 1, 2, 3, 4, 5, 6] rfl)
            · have h := h.1 c16
              refine g_aload_n M dX9_act_151 rfl (lv_at hl 0 rfl) ?_
              refine gfX9_23 M B dX9_act_152 h (fun a17 h => ?_)
              refine lv_iload M.1 M.2.1 dX9_act_155 (lv_at hl 6 rfl) ?_
              refine g_iald M B dX9_act_157 h (fun a18 h => ?_)
              refine lv_iload M.1 M.2.1 dX9_act_158 (lv_at hl 5 rfl) ?_
              refine lv_icmp_ne (tgt := 167) M.1 M.2.1 dX9_act_160 (by decide) (fun c19 => ?_) (fun c19 => ?_)
              · have h := h.2 c19
                exact tX9_act_167 M hr hlk hRf hRl hRc hRs ih _ _ _ _ _ _ _ _ h _ _ _ B (lv_sub hl [0, 1, 2, 3, 4, 5, 6] rfl)
              · have h := h.1 c19
                refine lv_iconst (v := 1) M.1 M.2.1 dX9_act_163 (by decide) ?_
                refine lv_goto (tgt := 168) M.1 M.2.1 dX9_act_164 (by decide) ?_
                exact tX9_act_168 M hr hlk hRf hRl hRc hRs ih _ _ _ _ _ _ _ _ _ h _ _ _ B (lv_sub hl [0, 1, 2, 3, 4, 5, 6] rfl)
set_option maxRecDepth 100000 in
set_option maxHeartbeats 4000000 in
theorem tX9_act_72 {post : Int32 → Pool → Prop} (M : MC p m c cX9_act 9 s args RX9) (hr : meth.sig.returnType = (some FieldType.int)) (hlk : meth.locks = false) (hRf : 1 ≤ R.frames) (hRl : 22 ≤ R.locals) (hRc : 0 ≤ R.cells) (hRs : 0 ≤ R.slots) : ∀ (v0 : Option Nat) (v1 : Int32) (v2 : Int32) (v3 : Int32) (v4 : Int32) (v5 : Int32) (z0 : Int32) (z1 : Option Nat) (S : Pool), wX9_act_72 post v0 v1 v2 v3 v4 v5 z0 z1 S → ∀ (H : Heap) (locs : List Loc) (ls : Array Slot), PB D cy A s S H locs → lv_has ls 9 [(0, va_rf v0), (1, .int v1), (2, .int v2), (3, .int v3), (4, .int v4), (5, .int v5)] → W p l e R s m args below meth c H locs 0 0 (MQ below (va_Qi post (PQ D cy A) A) args s 0 0 A) (F0 m 72 ls [.int z0, va_rf z1]) := by
  intro v0 v1 v2 v3 v4 v5 z0 z1 S h H locs ls B hl
  unfold wX9_act_72 at h
  refine gpX9_99 M B dX9_act_72 h (fun S1 H locs h B => ?_)
  refine g_aload_n M dX9_act_75 rfl (lv_at hl 0 rfl) ?_
  refine gfX9_99 M B dX9_act_76 h (fun a2 h => ?_)
  refine lv_if_le (tgt := 84) M.1 M.2.1 dX9_act_79 (by decide) (fun c3 => ?_) (fun c3 => ?_)
  · have h := h.1 c3
    refine lv_iconst (v := 0) M.1 M.2.1 dX9_act_84 (by decide) ?_
    refine lv_istore (lv' := [(7, .int 0), (0, va_rf v0), (1, .int v1), (2, .int v2), (3, .int v3), (4, .int v4), (5, .int v5)]) M.1 M.2.1 dX9_act_85 hl (by decide) (fl_e (fl_k rfl rfl (fl_k rfl rfl (fl_k rfl rfl (fl_k rfl rfl (fl_k rfl rfl (fl_k rfl rfl fl_0))))))) (fun ls hl => ?_)
    obtain ⟨n1, h⟩ := h
    exact tX9_act_87 M hr hlk hRf hRl hRc hRs n1 _ _ _ _ _ _ _ _ h _ _ _ B (lv_sub hl [1, 2, 3, 4, 5, 6, 0] rfl)
  · have h := h.2 c3
    refine lv_iconst (v := 0) M.1 M.2.1 dX9_act_82 (by decide) ?_
    exact g_iret M B hr hlk h (by decide) (by decide) dX9_act_83
set_option maxRecDepth 100000 in
set_option maxHeartbeats 4000000 in
theorem tX9_act_59 {post : Int32 → Pool → Prop} (M : MC p m c cX9_act 9 s args RX9) (hr : meth.sig.returnType = (some FieldType.int)) (hlk : meth.locks = false) (hRf : 1 ≤ R.frames) (hRl : 22 ≤ R.locals) (hRc : 0 ≤ R.cells) (hRs : 0 ≤ R.slots) : ∀ (v0 : Option Nat) (v1 : Int32) (v2 : Int32) (v3 : Int32) (v4 : Int32) (v5 : Int32) (z0 : Int32) (S : Pool), wX9_act_59 post v0 v1 v2 v3 v4 v5 z0 S → ∀ (H : Heap) (locs : List Loc) (ls : Array Slot), PB D cy A s S H locs → lv_has ls 9 [(0, va_rf v0), (1, .int v1), (2, .int v2), (3, .int v3), (4, .int v4), (5, .int v5)] → W p l e R s m args below meth c H locs 0 0 (MQ below (va_Qi post (PQ D cy A) A) args s 0 0 A) (F0 m 59 ls [.int z0]) := by
  intro v0 v1 v2 v3 v4 v5 z0 S h H locs ls B hl
  unfold wX9_act_59 at h
  refine lv_istore (lv' := [(6, .int z0), (0, va_rf v0), (1, .int v1), (2, .int v2), (3, .int v3), (4, .int v4), (5, .int v5)]) M.1 M.2.1 dX9_act_59 hl (by decide) (fl_e (fl_k rfl rfl (fl_k rfl rfl (fl_k rfl rfl (fl_k rfl rfl (fl_k rfl rfl (fl_i rfl fl_0))))))) (fun ls hl => ?_)
  refine g_aload_n M dX9_act_61 rfl (lv_at hl 1 rfl) ?_
  refine lv_iload M.1 M.2.1 dX9_act_62 (lv_at hl 0 rfl) ?_
  refine lv_if_ne (tgt := 71) M.1 M.2.1 dX9_act_64 (by decide) (fun c1 => ?_) (fun c1 => ?_)
  · have h := h.2 c1
    refine lv_iconst (v := 0) M.1 M.2.1 dX9_act_71 (by decide) ?_
    exact tX9_act_72 M hr hlk hRf hRl hRc hRs _ _ _ _ _ _ _ _ _ h _ _ _ B (lv_sub hl [1, 2, 3, 4, 5, 6] rfl)
  · have h := h.1 c1
    refine lv_iconst (v := 1) M.1 M.2.1 dX9_act_67 (by decide) ?_
    refine lv_goto (tgt := 72) M.1 M.2.1 dX9_act_68 (by decide) ?_
    exact tX9_act_72 M hr hlk hRf hRl hRc hRs _ _ _ _ _ _ _ _ _ h _ _ _ B (lv_sub hl [1, 2, 3, 4, 5, 6] rfl)
set_option maxRecDepth 100000 in
set_option maxHeartbeats 4000000 in
theorem tX9_act_58 {post : Int32 → Pool → Prop} (M : MC p m c cX9_act 9 s args RX9) (hr : meth.sig.returnType = (some FieldType.int)) (hlk : meth.locks = false) (hRf : 1 ≤ R.frames) (hRl : 22 ≤ R.locals) (hRc : 0 ≤ R.cells) (hRs : 0 ≤ R.slots) : ∀ (v0 : Option Nat) (v1 : Int32) (v2 : Int32) (v3 : Int32) (v4 : Int32) (v5 : Int32) (S : Pool), wX9_act_58 post v0 v1 v2 v3 v4 v5 S → ∀ (H : Heap) (locs : List Loc) (ls : Array Slot), PB D cy A s S H locs → lv_has ls 9 [(0, va_rf v0), (1, .int v1), (2, .int v2), (3, .int v3), (4, .int v4), (5, .int v5)] → W p l e R s m args below meth c H locs 0 0 (MQ below (va_Qi post (PQ D cy A) A) args s 0 0 A) (F0 m 58 ls []) := by
  intro v0 v1 v2 v3 v4 v5 S h H locs ls B hl
  unfold wX9_act_58 at h
  refine lv_iconst (v := 0) M.1 M.2.1 dX9_act_58 (by decide) ?_
  exact tX9_act_59 M hr hlk hRf hRl hRc hRs _ _ _ _ _ _ _ _ h _ _ _ B (lv_sub hl [0, 1, 2, 3, 4, 5] rfl)
set_option maxRecDepth 100000 in
set_option maxHeartbeats 4000000 in
theorem tX9_act {post : Int32 → Pool → Prop} (M : MC p m c cX9_act 9 s args RX9) (hr : meth.sig.returnType = (some FieldType.int)) (hlk : meth.locks = false) (hRf : 1 ≤ R.frames) (hRl : 22 ≤ R.locals) (hRc : 0 ≤ R.cells) (hRs : 0 ≤ R.slots) : ∀ (v0 : Option Nat) (v1 : Int32) (v2 : Int32) (v3 : Int32) (v4 : Int32) (v5 : Int32) (S : Pool), wX9_act post v0 v1 v2 v3 v4 v5 S → ∀ (H : Heap) (locs : List Loc) (ls : Array Slot), PB D cy A s S H locs → lv_has ls 9 [(0, va_rf v0), (1, .int v1), (2, .int v2), (3, .int v3), (4, .int v4), (5, .int v5)] → W p l e R s m args below meth c H locs 0 0 (MQ below (va_Qi post (PQ D cy A) A) args s 0 0 A) (F0 m 0 ls []) := by
  intro v0 v1 v2 v3 v4 v5 S h H locs ls B hl
  unfold wX9_act at h
  refine lv_iload_n M.1 M.2.1 dX9_act_0 rfl (lv_at hl 1 rfl) ?_
  refine lv_iconst (v := 0) M.1 M.2.1 dX9_act_1 (by decide) ?_
  refine lv_bipush (v := 7) M.1 M.2.1 dX9_act_2 (by decide) ?_
  refine g_calli (k1 := 0) (k2 := 0) B (g_runS (n := 3) (As := [.int v1, .int 0, .int 7]) (rm := rmX9_isIn) M B (kX9_isIn (v0 := v1) (v1 := 0) (v2 := 7) l D cy h _) wmX9_116 wstX9_isIn wnX9 wcdX9_isIn ⟨by decide, by decide, by decide +kernel⟩ ⟨Nat.le_trans (by decide) hRf, Nat.le_trans (by decide) hRl⟩ ⟨Nat.le_trans (by decide) hRc, Nat.le_trans (by decide) hRs⟩ rfl hl.1 rfl ct_0 (by decide) dX9_act_4) (by decide) (by decide) (fun a2 S1 H locs h B => ?_)
  refine lv_if_eq (tgt := 58) M.1 M.2.1 dX9_act_7 (by decide) (fun c3 => ?_) (fun c3 => ?_)
  · have h := h.1 c3
    exact tX9_act_58 M hr hlk hRf hRl hRc hRs _ _ _ _ _ _ _ h _ _ _ B (lv_sub hl [0, 1, 2, 3, 4, 5] rfl)
  · have h := h.2 c3
    refine lv_iload_n M.1 M.2.1 dX9_act_10 rfl (lv_at hl 2 rfl) ?_
    refine lv_iconst (v := 0) M.1 M.2.1 dX9_act_11 (by decide) ?_
    refine lv_bipush (v := 30) M.1 M.2.1 dX9_act_12 (by decide) ?_
    refine g_calli (k1 := 0) (k2 := 0) B (g_runS (n := 3) (As := [.int v2, .int 0, .int 30]) (rm := rmX9_isIn) M B (kX9_isIn (v0 := v2) (v1 := 0) (v2 := 30) l D cy h _) wmX9_116 wstX9_isIn wnX9 wcdX9_isIn ⟨by decide, by decide, by decide +kernel⟩ ⟨Nat.le_trans (by decide) hRf, Nat.le_trans (by decide) hRl⟩ ⟨Nat.le_trans (by decide) hRc, Nat.le_trans (by decide) hRs⟩ rfl hl.1 rfl ct_0 (by decide) dX9_act_14) (by decide) (by decide) (fun a5 S4 H locs h B => ?_)
    refine lv_if_eq (tgt := 58) M.1 M.2.1 dX9_act_17 (by decide) (fun c6 => ?_) (fun c6 => ?_)
    · have h := h.1 c6
      exact tX9_act_58 M hr hlk hRf hRl hRc hRs _ _ _ _ _ _ _ h _ _ _ B (lv_sub hl [0, 1, 2, 3, 4, 5] rfl)
    · have h := h.2 c6
      refine lv_iload_n M.1 M.2.1 dX9_act_20 rfl (lv_at hl 3 rfl) ?_
      refine lv_iconst (v := 0) M.1 M.2.1 dX9_act_21 (by decide) ?_
      refine lv_bipush (v := 30) M.1 M.2.1 dX9_act_22 (by decide) ?_
      refine g_calli (k1 := 0) (k2 := 0) B (g_runS (n := 3) (As := [.int v3, .int 0, .int 30]) (rm := rmX9_isIn) M B (kX9_isIn (v0 := v3) (v1 := 0) (v2 := 30) l D cy h _) wmX9_116 wstX9_isIn wnX9 wcdX9_isIn ⟨by decide, by decide, by decide +kernel⟩ ⟨Nat.le_trans (by decide) hRf, Nat.le_trans (by decide) hRl⟩ ⟨Nat.le_trans (by decide) hRc, Nat.le_trans (by decide) hRs⟩ rfl hl.1 rfl ct_0 (by decide) dX9_act_24) (by decide) (by decide) (fun a8 S7 H locs h B => ?_)
      refine lv_if_eq (tgt := 58) M.1 M.2.1 dX9_act_27 (by decide) (fun c9 => ?_) (fun c9 => ?_)
      · have h := h.1 c9
        exact tX9_act_58 M hr hlk hRf hRl hRc hRs _ _ _ _ _ _ _ h _ _ _ B (lv_sub hl [0, 1, 2, 3, 4, 5] rfl)
      · have h := h.2 c9
        refine lv_iload M.1 M.2.1 dX9_act_30 (lv_at hl 4 rfl) ?_
        refine lv_iconst (v := 0) M.1 M.2.1 dX9_act_32 (by decide) ?_
        refine lv_bipush (v := 15) M.1 M.2.1 dX9_act_33 (by decide) ?_
        refine g_calli (k1 := 0) (k2 := 0) B (g_runS (n := 3) (As := [.int v4, .int 0, .int 15]) (rm := rmX9_isIn) M B (kX9_isIn (v0 := v4) (v1 := 0) (v2 := 15) l D cy h _) wmX9_116 wstX9_isIn wnX9 wcdX9_isIn ⟨by decide, by decide, by decide +kernel⟩ ⟨Nat.le_trans (by decide) hRf, Nat.le_trans (by decide) hRl⟩ ⟨Nat.le_trans (by decide) hRc, Nat.le_trans (by decide) hRs⟩ rfl hl.1 rfl ct_0 (by decide) dX9_act_35) (by decide) (by decide) (fun a11 S10 H locs h B => ?_)
        refine lv_if_eq (tgt := 58) M.1 M.2.1 dX9_act_38 (by decide) (fun c12 => ?_) (fun c12 => ?_)
        · have h := h.1 c12
          exact tX9_act_58 M hr hlk hRf hRl hRc hRs _ _ _ _ _ _ _ h _ _ _ B (lv_sub hl [0, 1, 2, 3, 4, 5] rfl)
        · have h := h.2 c12
          refine lv_iload M.1 M.2.1 dX9_act_41 (lv_at hl 5 rfl) ?_
          refine lv_iconst (v := 0) M.1 M.2.1 dX9_act_43 (by decide) ?_
          refine g_aload_n M dX9_act_44 rfl (lv_at hl 0 rfl) ?_
          refine gfX9_120 M B dX9_act_45 h (fun a13 h => ?_)
          refine g_calli (k1 := 0) (k2 := 0) B (g_runS (n := 3) (As := [.int v5, .int 0, .int a13]) (rm := rmX9_isIn) M B (kX9_isIn (v0 := v5) (v1 := 0) (v2 := a13) l D cy h _) wmX9_116 wstX9_isIn wnX9 wcdX9_isIn ⟨by decide, by decide, by decide +kernel⟩ ⟨Nat.le_trans (by decide) hRf, Nat.le_trans (by decide) hRl⟩ ⟨Nat.le_trans (by decide) hRc, Nat.le_trans (by decide) hRs⟩ rfl hl.1 rfl ct_0 (by decide) dX9_act_48) (by decide) (by decide) (fun a15 S14 H locs h B => ?_)
          refine lv_if_eq (tgt := 58) M.1 M.2.1 dX9_act_51 (by decide) (fun c16 => ?_) (fun c16 => ?_)
          · have h := h.1 c16
            exact tX9_act_58 M hr hlk hRf hRl hRc hRs _ _ _ _ _ _ _ h _ _ _ B (lv_sub hl [0, 1, 2, 3, 4, 5] rfl)
          · have h := h.2 c16
            refine lv_iconst (v := 1) M.1 M.2.1 dX9_act_54 (by decide) ?_
            refine lv_goto (tgt := 59) M.1 M.2.1 dX9_act_55 (by decide) ?_
            exact tX9_act_59 M hr hlk hRf hRl hRc hRs _ _ _ _ _ _ _ _ h _ _ _ B (lv_sub hl [0, 1, 2, 3, 4, 5] rfl)
end
set_option maxRecDepth 100000 in
set_option maxHeartbeats 4000000 in
theorem kX9_act (l : Launch) (D : va_G) (cy : Nat → ClassId) {post : Int32 → Pool → Prop} {v0 : Option Nat} {v1 : Int32} {v2 : Int32} {v3 : Int32} {v4 : Int32} {v5 : Int32} {S : Pool} (h : wX9_act post v0 v1 v2 v3 v4 v5 S) : MetI l yX9_act cX9_act 9 (some FieldType.int) rmX9_act [va_rf v0, .int v1, .int v2, .int v3, .int v4, .int v5] D cy S post := by
  intro sz
  refine Met.ofW (cc := cX9_act) (maxL := 9) (ret := (some FieldType.int)) (by decide) rfl ?_
  intro p e s m args below meth c s₁ B0 hml hv
  obtain ⟨rfl, hpp⟩ := hv
  have hts := atoms_spec (ws := .code yX9_act cX9_act 9 (some FieldType.int) :: Gw) B0.pre
  obtain rfl : s.heap.size = sz := hpp.1
  have hl := lv_entry [va_rf v0, .int v1, .int v2, .int v3, .int v4, .int v5] (n := 9) (by rw [sl_r, sl_i, sl_i, sl_i, sl_i, sl_i, sl_0]; decide)
  rw [lg_entry_eq]
  rw [la_r, la_i, la_i, la_i, la_i, la_i, la_0] at hl
  exact tX9_act (l := l) (R := rmX9_act) ⟨B0.exec, B0.bytes, hml, findClass_of_methodNamed B0.named, fun w hw => hts w (List.mem_cons_of_mem _ hw)⟩ B0.returns B0.notSynchronized (Nat.le_refl _) (Nat.le_refl _) (Nat.le_refl _) (Nat.le_refl _) _ _ _ _ _ _ _ h _ _ _ hpp.pb (lv_sub hl [0, 1, 2, 3, 4, 5] rfl)
-- X9_look: LogHuntModel.look(II)I
def wX9_look_112 (post : Int32 → Pool → Prop) (v0 : Option Nat) (v1 : Int32) (v2 : Int32) (S : Pool) : Prop := xR S v0 9 7 fun a1 => xaI S a1 10 ((((3 : Int32) * v1) + v2) - 1) fun a2 => post a2 S
def wX9_look_28 (post : Int32 → Pool → Prop) (v0 : Option Nat) (v1 : Int32) (v2 : Int32) (z0 : Int32) (z1 : Option Nat) (S : Pool) : Prop := xpI S z1 9 0 z0 fun S1 => xI S1 v0 9 0 fun a2 => br (a2 ≤ 0) (br (v2.toInt < 0 ∨ 6 < v2.toInt) (wX9_look_112 post v0 v1 v2 S1) (br (v2.toInt = 0) (xR S1 v0 9 6 fun a5 => xaI S1 a5 10 v1 fun a6 => post a6 S1) (br (v2.toInt = 1) (wX9_look_112 post v0 v1 v2 S1) (br (v2.toInt = 2) (wX9_look_112 post v0 v1 v2 S1) (br (v2.toInt = 3) (wX9_look_112 post v0 v1 v2 S1) (br (v2.toInt = 4) (xR S1 v0 9 8 fun a11 => xaI S1 a11 10 v1 fun a12 => post a12 S1) (br (v2.toInt = 5) (xR S1 v0 9 9 fun a14 => xaI S1 a14 10 v1 fun a15 => post a15 S1) (xR S1 v0 9 10 fun a17 => xaI S1 a17 10 v1 fun a18 => post a18 S1)))))))) (post 0 S1)
def wX9_look (post : Int32 → Pool → Prop) (v0 : Option Nat) (v1 : Int32) (v2 : Int32) (S : Pool) : Prop := xrc S v0 9 (wX9_isAct (fun a2 S1 => br (a2 = 0) (wX9_look_28 post v0 v1 v2 1 v0 S1) (wX9_isIn (fun a5 S4 => br (a5 = 0) (wX9_look_28 post v0 v1 v2 2 v0 S4) (wX9_look_28 post v0 v1 v2 0 v0 S4)) v2 0 6 S1)) v0 v1 S)
def rmX9_look : Room := { frames := 1, cells := 0, slots := 0, locals := 22 }
section
variable {p : Program} {l : Launch} {e : Env} {R : Room} {s : State} {m : MethodId} {args : Array Value} {below : List Frame} {meth : Method} {c : Code} {D : va_G} {cy : Nat → ClassId} {A : Nat → Prop}
set_option maxRecDepth 100000 in
set_option maxHeartbeats 4000000 in
theorem tX9_look_112 {post : Int32 → Pool → Prop} (M : MC p m c cX9_look 3 s args RX9) (hr : meth.sig.returnType = (some FieldType.int)) (hlk : meth.locks = false) (hRf : 1 ≤ R.frames) (hRl : 22 ≤ R.locals) (hRc : 0 ≤ R.cells) (hRs : 0 ≤ R.slots) : ∀ (v0 : Option Nat) (v1 : Int32) (v2 : Int32) (S : Pool), wX9_look_112 post v0 v1 v2 S → ∀ (H : Heap) (locs : List Loc) (ls : Array Slot), PB D cy A s S H locs → lv_has ls 3 [(0, va_rf v0), (1, .int v1), (2, .int v2)] → W p l e R s m args below meth c H locs 0 0 (MQ below (va_Qi post (PQ D cy A) A) args s 0 0 A) (F0 m 112 ls []) := by
  intro v0 v1 v2 S h H locs ls B hl
  unfold wX9_look_112 at h
  refine g_aload_n M dX9_look_112 rfl (lv_at hl 0 rfl) ?_
  refine gfX9_20 M B dX9_look_113 h (fun a1 h => ?_)
  refine lv_iconst (v := 3) M.1 M.2.1 dX9_look_116 (by decide) ?_
  refine lv_iload_n M.1 M.2.1 dX9_look_117 rfl (lv_at hl 1 rfl) ?_
  refine lv_imul M.1 M.2.1 dX9_look_118 ?_
  refine lv_iload_n M.1 M.2.1 dX9_look_119 rfl (lv_at hl 2 rfl) ?_
  refine lv_iadd M.1 M.2.1 dX9_look_120 ?_
  refine lv_iconst (v := 1) M.1 M.2.1 dX9_look_121 (by decide) ?_
  refine lv_isub M.1 M.2.1 dX9_look_122 ?_
  refine g_iald M B dX9_look_123 h (fun a2 h => ?_)
  exact g_iret M B hr hlk h (by decide) (by decide) dX9_look_124
set_option maxRecDepth 100000 in
set_option maxHeartbeats 4000000 in
theorem tX9_look_28 {post : Int32 → Pool → Prop} (M : MC p m c cX9_look 3 s args RX9) (hr : meth.sig.returnType = (some FieldType.int)) (hlk : meth.locks = false) (hRf : 1 ≤ R.frames) (hRl : 22 ≤ R.locals) (hRc : 0 ≤ R.cells) (hRs : 0 ≤ R.slots) : ∀ (v0 : Option Nat) (v1 : Int32) (v2 : Int32) (z0 : Int32) (z1 : Option Nat) (S : Pool), wX9_look_28 post v0 v1 v2 z0 z1 S → ∀ (H : Heap) (locs : List Loc) (ls : Array Slot), PB D cy A s S H locs → lv_has ls 3 [(0, va_rf v0), (1, .int v1), (2, .int v2)] → W p l e R s m args below meth c H locs 0 0 (MQ below (va_Qi post (PQ D cy A) A) args s 0 0 A) (F0 m 28 ls [.int z0, va_rf z1]) := by
  intro v0 v1 v2 z0 z1 S h H locs ls B hl
  unfold wX9_look_28 at h
  refine gpX9_99 M B dX9_look_28 h (fun S1 H locs h B => ?_)
  refine g_aload_n M dX9_look_31 rfl (lv_at hl 0 rfl) ?_
  refine gfX9_99 M B dX9_look_32 h (fun a2 h => ?_)
  refine lv_if_le (tgt := 40) M.1 M.2.1 dX9_look_35 (by decide) (fun c3 => ?_) (fun c3 => ?_)
  · have h := h.1 c3
    refine lv_iload_n M.1 M.2.1 dX9_look_40 rfl (lv_at hl 2 rfl) ?_
    by_cases c4 : v2.toInt < 0 ∨ 6 < v2.toInt
    · have h := h.1 c4
      refine lv_tableOut (tgt := 112) M.1 M.2.1 dX9_look_41 c4 (by decide) ?_
      exact tX9_look_112 M hr hlk hRf hRl hRc hRs _ _ _ _ h _ _ _ B (lv_sub hl [0, 1, 2] rfl)
    · have h := h.2 c4
      by_cases c7 : v2.toInt = 0
      · have h := h.1 c7
        refine lv_tableIn (tgt := 84) (off := 43) M.1 M.2.1 dX9_look_41 (fun q => c4 (Or.inl q)) (fun q => c4 (Or.inr q)) (by rw [c7]; rfl) (by decide) ?_
        refine g_aload_n M dX9_look_84 rfl (lv_at hl 0 rfl) ?_
        refine gfX9_17 M B dX9_look_85 h (fun a5 h => ?_)
        refine lv_iload_n M.1 M.2.1 dX9_look_88 rfl (lv_at hl 1 rfl) ?_
        refine g_iald M B dX9_look_89 h (fun a6 h => ?_)
        exact g_iret M B hr hlk h (by decide) (by decide) dX9_look_90
      have h := h.2 c7
      by_cases c8 : v2.toInt = 1
      · have h := h.1 c8
        refine lv_tableIn (tgt := 112) (off := 71) M.1 M.2.1 dX9_look_41 (fun q => c4 (Or.inl q)) (fun q => c4 (Or.inr q)) (by rw [c8]; rfl) (by decide) ?_
        exact tX9_look_112 M hr hlk hRf hRl hRc hRs _ _ _ _ h _ _ _ B (lv_sub hl [0, 1, 2] rfl)
      have h := h.2 c8
      by_cases c9 : v2.toInt = 2
      · have h := h.1 c9
        refine lv_tableIn (tgt := 112) (off := 71) M.1 M.2.1 dX9_look_41 (fun q => c4 (Or.inl q)) (fun q => c4 (Or.inr q)) (by rw [c9]; rfl) (by decide) ?_
        exact tX9_look_112 M hr hlk hRf hRl hRc hRs _ _ _ _ h _ _ _ B (lv_sub hl [0, 1, 2] rfl)
      have h := h.2 c9
      by_cases c10 : v2.toInt = 3
      · have h := h.1 c10
        refine lv_tableIn (tgt := 112) (off := 71) M.1 M.2.1 dX9_look_41 (fun q => c4 (Or.inl q)) (fun q => c4 (Or.inr q)) (by rw [c10]; rfl) (by decide) ?_
        exact tX9_look_112 M hr hlk hRf hRl hRc hRs _ _ _ _ h _ _ _ B (lv_sub hl [0, 1, 2] rfl)
      have h := h.2 c10
      by_cases c13 : v2.toInt = 4
      · have h := h.1 c13
        refine lv_tableIn (tgt := 91) (off := 50) M.1 M.2.1 dX9_look_41 (fun q => c4 (Or.inl q)) (fun q => c4 (Or.inr q)) (by rw [c13]; rfl) (by decide) ?_
        refine g_aload_n M dX9_look_91 rfl (lv_at hl 0 rfl) ?_
        refine gfX9_23 M B dX9_look_92 h (fun a11 h => ?_)
        refine lv_iload_n M.1 M.2.1 dX9_look_95 rfl (lv_at hl 1 rfl) ?_
        refine g_iald M B dX9_look_96 h (fun a12 h => ?_)
        exact g_iret M B hr hlk h (by decide) (by decide) dX9_look_97
      have h := h.2 c13
      by_cases c16 : v2.toInt = 5
      · have h := h.1 c16
        refine lv_tableIn (tgt := 98) (off := 57) M.1 M.2.1 dX9_look_41 (fun q => c4 (Or.inl q)) (fun q => c4 (Or.inr q)) (by rw [c16]; rfl) (by decide) ?_
        refine g_aload_n M dX9_look_98 rfl (lv_at hl 0 rfl) ?_
        refine gfX9_26 M B dX9_look_99 h (fun a14 h => ?_)
        refine lv_iload_n M.1 M.2.1 dX9_look_102 rfl (lv_at hl 1 rfl) ?_
        refine g_iald M B dX9_look_103 h (fun a15 h => ?_)
        exact g_iret M B hr hlk h (by decide) (by decide) dX9_look_104
      have h := h.2 c16
      have c19 : v2.toInt = 6 := by omega
      refine lv_tableIn (tgt := 105) (off := 64) M.1 M.2.1 dX9_look_41 (fun q => c4 (Or.inl q)) (fun q => c4 (Or.inr q)) (by rw [c19]; rfl) (by decide) ?_
      refine g_aload_n M dX9_look_105 rfl (lv_at hl 0 rfl) ?_
      refine gfX9_29 M B dX9_look_106 h (fun a17 h => ?_)
      refine lv_iload_n M.1 M.2.1 dX9_look_109 rfl (lv_at hl 1 rfl) ?_
      refine g_iald M B dX9_look_110 h (fun a18 h => ?_)
      exact g_iret M B hr hlk h (by decide) (by decide) dX9_look_111
  · have h := h.2 c3
    refine lv_iconst (v := 0) M.1 M.2.1 dX9_look_38 (by decide) ?_
    exact g_iret M B hr hlk h (by decide) (by decide) dX9_look_39
set_option maxRecDepth 100000 in
set_option maxHeartbeats 4000000 in
theorem tX9_look {post : Int32 → Pool → Prop} (M : MC p m c cX9_look 3 s args RX9) (hr : meth.sig.returnType = (some FieldType.int)) (hlk : meth.locks = false) (hRf : 1 ≤ R.frames) (hRl : 22 ≤ R.locals) (hRc : 0 ≤ R.cells) (hRs : 0 ≤ R.slots) : ∀ (v0 : Option Nat) (v1 : Int32) (v2 : Int32) (S : Pool), wX9_look post v0 v1 v2 S → ∀ (H : Heap) (locs : List Loc) (ls : Array Slot), PB D cy A s S H locs → lv_has ls 3 [(0, va_rf v0), (1, .int v1), (2, .int v2)] → W p l e R s m args below meth c H locs 0 0 (MQ below (va_Qi post (PQ D cy A) A) args s 0 0 A) (F0 m 0 ls []) := by
  intro v0 v1 v2 S h H locs ls B hl
  unfold wX9_look at h
  refine g_aload_n M dX9_look_0 rfl (lv_at hl 0 rfl) ?_
  refine g_aload_n M dX9_look_1 rfl (lv_at hl 0 rfl) ?_
  refine lv_iload_n M.1 M.2.1 dX9_look_2 rfl (lv_at hl 1 rfl) ?_
  obtain ⟨o1, e1, hL1, hK1, h⟩ := h
  refine g_calli (k1 := 0) (k2 := 0) B (g_runV (n := 1) (As := [.int v1]) (rm := rmX9_isAct) M B e1 (kX9_isAct (v0 := v0) (v1 := v1) l D cy h _) wmX9_127 wiX9_isAct wsX9_isAct wnX9 wcdX9_isAct ⟨rfl, by decide, by decide, by decide +kernel⟩ ⟨Nat.le_trans (by decide) hRf, Nat.le_trans (by decide) hRl⟩ ⟨Nat.le_trans (by decide) hRc, Nat.le_trans (by decide) hRs⟩ hL1 hK1 (by decide) rfl rfl rfl hl.1 rfl (ct_r ct_0) (by decide) dX9_look_3) (by decide) (by decide) (fun a2 S1 H locs h B => ?_)
  refine lv_if_ne (tgt := 13) M.1 M.2.1 dX9_look_6 (by decide) (fun c3 => ?_) (fun c3 => ?_)
  · have h := h.2 c3
    refine lv_iload_n M.1 M.2.1 dX9_look_13 rfl (lv_at hl 2 rfl) ?_
    refine lv_iconst (v := 0) M.1 M.2.1 dX9_look_14 (by decide) ?_
    refine lv_bipush (v := 6) M.1 M.2.1 dX9_look_15 (by decide) ?_
    refine g_calli (k1 := 0) (k2 := 0) B (g_runS (n := 3) (As := [.int v2, .int 0, .int 6]) (rm := rmX9_isIn) M B (kX9_isIn (v0 := v2) (v1 := 0) (v2 := 6) l D cy h _) wmX9_116 wstX9_isIn wnX9 wcdX9_isIn ⟨by decide, by decide, by decide +kernel⟩ ⟨Nat.le_trans (by decide) hRf, Nat.le_trans (by decide) hRl⟩ ⟨Nat.le_trans (by decide) hRc, Nat.le_trans (by decide) hRs⟩ rfl hl.1 rfl (ct_r ct_0) (by decide) dX9_look_17) (by decide) (by decide) (fun a5 S4 H locs h B => ?_)
    refine lv_if_ne (tgt := 27) M.1 M.2.1 dX9_look_20 (by decide) (fun c6 => ?_) (fun c6 => ?_)
    · have h := h.2 c6
      refine lv_iconst (v := 0) M.1 M.2.1 dX9_look_27 (by decide) ?_
      exact tX9_look_28 M hr hlk hRf hRl hRc hRs _ _ _ _ _ _ h _ _ _ B (lv_sub hl [0, 1, 2] rfl)
    · have h := h.1 c6
      refine lv_iconst (v := 2) M.1 M.2.1 dX9_look_23 (by decide) ?_
      refine lv_goto (tgt := 28) M.1 M.2.1 dX9_look_24 (by decide) ?_
      exact tX9_look_28 M hr hlk hRf hRl hRc hRs _ _ _ _ _ _ h _ _ _ B (lv_sub hl [0, 1, 2] rfl)
  · have h := h.1 c3
    refine lv_iconst (v := 1) M.1 M.2.1 dX9_look_9 (by decide) ?_
    refine lv_goto (tgt := 28) M.1 M.2.1 dX9_look_10 (by decide) ?_
    exact tX9_look_28 M hr hlk hRf hRl hRc hRs _ _ _ _ _ _ h _ _ _ B (lv_sub hl [0, 1, 2] rfl)
end
set_option maxRecDepth 100000 in
set_option maxHeartbeats 4000000 in
theorem kX9_look (l : Launch) (D : va_G) (cy : Nat → ClassId) {post : Int32 → Pool → Prop} {v0 : Option Nat} {v1 : Int32} {v2 : Int32} {S : Pool} (h : wX9_look post v0 v1 v2 S) : MetI l yX9_look cX9_look 3 (some FieldType.int) rmX9_look [va_rf v0, .int v1, .int v2] D cy S post := by
  intro sz
  refine Met.ofW (cc := cX9_look) (maxL := 3) (ret := (some FieldType.int)) (by decide) rfl ?_
  intro p e s m args below meth c s₁ B0 hml hv
  obtain ⟨rfl, hpp⟩ := hv
  have hts := atoms_spec (ws := .code yX9_look cX9_look 3 (some FieldType.int) :: Gw) B0.pre
  obtain rfl : s.heap.size = sz := hpp.1
  have hl := lv_entry [va_rf v0, .int v1, .int v2] (n := 3) (by rw [sl_r, sl_i, sl_i, sl_0]; decide)
  rw [lg_entry_eq]
  rw [la_r, la_i, la_i, la_0] at hl
  exact tX9_look (l := l) (R := rmX9_look) ⟨B0.exec, B0.bytes, hml, findClass_of_methodNamed B0.named, fun w hw => hts w (List.mem_cons_of_mem _ hw)⟩ B0.returns B0.notSynchronized (Nat.le_refl _) (Nat.le_refl _) (Nat.le_refl _) (Nat.le_refl _) _ _ _ _ h _ _ _ hpp.pb (lv_sub hl [0, 1, 2] rfl)
-- X9_may: LogHuntModel.may(II)V
def wX9_may_29 (post : Pool → Prop) (v0 : Option Nat) (v1 : Int32) (v2 : Int32) (z0 : Int32) (z1 : Option Nat) (S : Pool) : Prop := xpI S z1 9 0 z0 fun S1 => xI S1 v0 9 0 fun a2 => br (a2 = 0) (xR S1 v0 9 3 fun a4 => xsI S1 a4 10 v1 v2 fun S5 => post S5) (post S1)
def wX9_may (post : Pool → Prop) (v0 : Option Nat) (v1 : Int32) (v2 : Int32) (S : Pool) : Prop := wX9_isIn (fun a2 S1 => br (a2 = 0) (wX9_may_29 post v0 v1 v2 1 v0 S1) (wX9_isIn (fun a5 S4 => br (a5 = 0) (wX9_may_29 post v0 v1 v2 2 v0 S4) (wX9_may_29 post v0 v1 v2 0 v0 S4)) v2 0 7 S1)) v1 0 3 S
def rmX9_may : Room := { frames := 1, cells := 0, slots := 0, locals := 22 }
section
variable {p : Program} {l : Launch} {e : Env} {R : Room} {s : State} {m : MethodId} {args : Array Value} {below : List Frame} {meth : Method} {c : Code} {D : va_G} {cy : Nat → ClassId} {A : Nat → Prop}
set_option maxRecDepth 100000 in
set_option maxHeartbeats 4000000 in
theorem tX9_may_29 {post : Pool → Prop} (M : MC p m c cX9_may 3 s args RX9) (hr : meth.sig.returnType = none) (hlk : meth.locks = false) (hRf : 1 ≤ R.frames) (hRl : 22 ≤ R.locals) (hRc : 0 ≤ R.cells) (hRs : 0 ≤ R.slots) : ∀ (v0 : Option Nat) (v1 : Int32) (v2 : Int32) (z0 : Int32) (z1 : Option Nat) (S : Pool), wX9_may_29 post v0 v1 v2 z0 z1 S → ∀ (H : Heap) (locs : List Loc) (ls : Array Slot), PB D cy A s S H locs → lv_has ls 3 [(0, va_rf v0), (1, .int v1), (2, .int v2)] → W p l e R s m args below meth c H locs 0 0 (MQ below (va_Qv post (PQ D cy A) A) args s 0 0 A) (F0 m 29 ls [.int z0, va_rf z1]) := by
  intro v0 v1 v2 z0 z1 S h H locs ls B hl
  unfold wX9_may_29 at h
  refine gpX9_99 M B dX9_may_29 h (fun S1 H locs h B => ?_)
  refine g_aload_n M dX9_may_32 rfl (lv_at hl 0 rfl) ?_
  refine gfX9_99 M B dX9_may_33 h (fun a2 h => ?_)
  refine lv_if_ne (tgt := 46) M.1 M.2.1 dX9_may_36 (by decide) (fun c3 => ?_) (fun c3 => ?_)
  · have h := h.2 c3
    exact g_vret M B hr hlk h (by decide) (by decide) dX9_may_46
  · have h := h.1 c3
    refine g_aload_n M dX9_may_39 rfl (lv_at hl 0 rfl) ?_
    refine gfX9_13 M B dX9_may_40 h (fun a4 h => ?_)
    refine lv_iload_n M.1 M.2.1 dX9_may_43 rfl (lv_at hl 1 rfl) ?_
    refine lv_iload_n M.1 M.2.1 dX9_may_44 rfl (lv_at hl 2 rfl) ?_
    refine g_iast M B dX9_may_45 h (fun S5 H locs h B => ?_)
    exact g_vret M B hr hlk h (by decide) (by decide) dX9_may_46
set_option maxRecDepth 100000 in
set_option maxHeartbeats 4000000 in
theorem tX9_may {post : Pool → Prop} (M : MC p m c cX9_may 3 s args RX9) (hr : meth.sig.returnType = none) (hlk : meth.locks = false) (hRf : 1 ≤ R.frames) (hRl : 22 ≤ R.locals) (hRc : 0 ≤ R.cells) (hRs : 0 ≤ R.slots) : ∀ (v0 : Option Nat) (v1 : Int32) (v2 : Int32) (S : Pool), wX9_may post v0 v1 v2 S → ∀ (H : Heap) (locs : List Loc) (ls : Array Slot), PB D cy A s S H locs → lv_has ls 3 [(0, va_rf v0), (1, .int v1), (2, .int v2)] → W p l e R s m args below meth c H locs 0 0 (MQ below (va_Qv post (PQ D cy A) A) args s 0 0 A) (F0 m 0 ls []) := by
  intro v0 v1 v2 S h H locs ls B hl
  unfold wX9_may at h
  refine g_aload_n M dX9_may_0 rfl (lv_at hl 0 rfl) ?_
  refine lv_iload_n M.1 M.2.1 dX9_may_1 rfl (lv_at hl 1 rfl) ?_
  refine lv_iconst (v := 0) M.1 M.2.1 dX9_may_2 (by decide) ?_
  refine lv_iconst (v := 3) M.1 M.2.1 dX9_may_3 (by decide) ?_
  refine g_calli (k1 := 0) (k2 := 0) B (g_runS (n := 3) (As := [.int v1, .int 0, .int 3]) (rm := rmX9_isIn) M B (kX9_isIn (v0 := v1) (v1 := 0) (v2 := 3) l D cy h _) wmX9_116 wstX9_isIn wnX9 wcdX9_isIn ⟨by decide, by decide, by decide +kernel⟩ ⟨Nat.le_trans (by decide) hRf, Nat.le_trans (by decide) hRl⟩ ⟨Nat.le_trans (by decide) hRc, Nat.le_trans (by decide) hRs⟩ rfl hl.1 rfl (ct_r ct_0) (by decide) dX9_may_4) (by decide) (by decide) (fun a2 S1 H locs h B => ?_)
  refine lv_if_ne (tgt := 14) M.1 M.2.1 dX9_may_7 (by decide) (fun c3 => ?_) (fun c3 => ?_)
  · have h := h.2 c3
    refine lv_iload_n M.1 M.2.1 dX9_may_14 rfl (lv_at hl 2 rfl) ?_
    refine lv_iconst (v := 0) M.1 M.2.1 dX9_may_15 (by decide) ?_
    refine lv_bipush (v := 7) M.1 M.2.1 dX9_may_16 (by decide) ?_
    refine g_calli (k1 := 0) (k2 := 0) B (g_runS (n := 3) (As := [.int v2, .int 0, .int 7]) (rm := rmX9_isIn) M B (kX9_isIn (v0 := v2) (v1 := 0) (v2 := 7) l D cy h _) wmX9_116 wstX9_isIn wnX9 wcdX9_isIn ⟨by decide, by decide, by decide +kernel⟩ ⟨Nat.le_trans (by decide) hRf, Nat.le_trans (by decide) hRl⟩ ⟨Nat.le_trans (by decide) hRc, Nat.le_trans (by decide) hRs⟩ rfl hl.1 rfl (ct_r ct_0) (by decide) dX9_may_18) (by decide) (by decide) (fun a5 S4 H locs h B => ?_)
    refine lv_if_ne (tgt := 28) M.1 M.2.1 dX9_may_21 (by decide) (fun c6 => ?_) (fun c6 => ?_)
    · have h := h.2 c6
      refine lv_iconst (v := 0) M.1 M.2.1 dX9_may_28 (by decide) ?_
      exact tX9_may_29 M hr hlk hRf hRl hRc hRs _ _ _ _ _ _ h _ _ _ B (lv_sub hl [0, 1, 2] rfl)
    · have h := h.1 c6
      refine lv_iconst (v := 2) M.1 M.2.1 dX9_may_24 (by decide) ?_
      refine lv_goto (tgt := 29) M.1 M.2.1 dX9_may_25 (by decide) ?_
      exact tX9_may_29 M hr hlk hRf hRl hRc hRs _ _ _ _ _ _ h _ _ _ B (lv_sub hl [0, 1, 2] rfl)
  · have h := h.1 c3
    refine lv_iconst (v := 1) M.1 M.2.1 dX9_may_10 (by decide) ?_
    refine lv_goto (tgt := 29) M.1 M.2.1 dX9_may_11 (by decide) ?_
    exact tX9_may_29 M hr hlk hRf hRl hRc hRs _ _ _ _ _ _ h _ _ _ B (lv_sub hl [0, 1, 2] rfl)
end
set_option maxRecDepth 100000 in
set_option maxHeartbeats 4000000 in
theorem kX9_may (l : Launch) (D : va_G) (cy : Nat → ClassId) {post : Pool → Prop} {v0 : Option Nat} {v1 : Int32} {v2 : Int32} {S : Pool} (h : wX9_may post v0 v1 v2 S) : MetV l yX9_may cX9_may 3 rmX9_may [va_rf v0, .int v1, .int v2] D cy S post := by
  intro sz
  refine Met.ofW (cc := cX9_may) (maxL := 3) (ret := none) (by decide) rfl ?_
  intro p e s m args below meth c s₁ B0 hml hv
  obtain ⟨rfl, hpp⟩ := hv
  have hts := atoms_spec (ws := .code yX9_may cX9_may 3 none :: Gw) B0.pre
  obtain rfl : s.heap.size = sz := hpp.1
  have hl := lv_entry [va_rf v0, .int v1, .int v2] (n := 3) (by rw [sl_r, sl_i, sl_i, sl_0]; decide)
  rw [lg_entry_eq]
  rw [la_r, la_i, la_i, la_0] at hl
  exact tX9_may (l := l) (R := rmX9_may) ⟨B0.exec, B0.bytes, hml, findClass_of_methodNamed B0.named, fun w hw => hts w (List.mem_cons_of_mem _ hw)⟩ B0.returns B0.notSynchronized (Nat.le_refl _) (Nat.le_refl _) (Nat.le_refl _) (Nat.le_refl _) _ _ _ _ h _ _ _ hpp.pb (lv_sub hl [0, 1, 2] rfl)
-- X9_wrong: LogHuntModel.wrong(I)Z
def wX9_wrong (post : Int32 → Pool → Prop) (v0 : Option Nat) (v1 : Int32) (S : Pool) : Prop := xpI S v0 9 30 v1 fun S1 => ((0 : Int32) = 0 ∨ (0 : Int32) = 1) ∧ post (0 : Int32) S1
def rmX9_wrong : Room := { frames := 0, cells := 0, slots := 0, locals := 0 }
section
variable {p : Program} {l : Launch} {e : Env} {R : Room} {s : State} {m : MethodId} {args : Array Value} {below : List Frame} {meth : Method} {c : Code} {D : va_G} {cy : Nat → ClassId} {A : Nat → Prop}
set_option maxRecDepth 100000 in
set_option maxHeartbeats 4000000 in
theorem tX9_wrong {post : Int32 → Pool → Prop} (M : MC p m c cX9_wrong 2 s args RX9) (hr : meth.sig.returnType = (some FieldType.boolean)) (hlk : meth.locks = false) (hRf : 0 ≤ R.frames) (hRl : 0 ≤ R.locals) (hRc : 0 ≤ R.cells) (hRs : 0 ≤ R.slots) : ∀ (v0 : Option Nat) (v1 : Int32) (S : Pool), wX9_wrong post v0 v1 S → ∀ (H : Heap) (locs : List Loc) (ls : Array Slot), PB D cy A s S H locs → lv_has ls 2 [(0, va_rf v0), (1, .int v1)] → W p l e R s m args below meth c H locs 0 0 (MQ below (va_Qi post (PQ D cy A) A) args s 0 0 A) (F0 m 0 ls []) := by
  intro v0 v1 S h H locs ls B hl
  unfold wX9_wrong at h
  refine g_aload_n M dX9_wrong_0 rfl (lv_at hl 0 rfl) ?_
  refine lv_iload_n M.1 M.2.1 dX9_wrong_1 rfl (lv_at hl 1 rfl) ?_
  refine gpX9_75 M B dX9_wrong_2 h (fun S1 H locs h B => ?_)
  refine lv_iconst (v := 0) M.1 M.2.1 dX9_wrong_5 (by decide) ?_
  exact g_zret M B hr hlk h (by decide) (by decide) dX9_wrong_6
end
set_option maxRecDepth 100000 in
set_option maxHeartbeats 4000000 in
theorem kX9_wrong (l : Launch) (D : va_G) (cy : Nat → ClassId) {post : Int32 → Pool → Prop} {v0 : Option Nat} {v1 : Int32} {S : Pool} (h : wX9_wrong post v0 v1 S) : MetI l yX9_wrong cX9_wrong 2 (some FieldType.boolean) rmX9_wrong [va_rf v0, .int v1] D cy S post := by
  intro sz
  refine Met.ofW (cc := cX9_wrong) (maxL := 2) (ret := (some FieldType.boolean)) (by decide) rfl ?_
  intro p e s m args below meth c s₁ B0 hml hv
  obtain ⟨rfl, hpp⟩ := hv
  have hts := atoms_spec (ws := .code yX9_wrong cX9_wrong 2 (some FieldType.boolean) :: Gw) B0.pre
  obtain rfl : s.heap.size = sz := hpp.1
  have hl := lv_entry [va_rf v0, .int v1] (n := 2) (by rw [sl_r, sl_i, sl_0]; decide)
  rw [lg_entry_eq]
  rw [la_r, la_i, la_0] at hl
  exact tX9_wrong (l := l) (R := rmX9_wrong) ⟨B0.exec, B0.bytes, hml, findClass_of_methodNamed B0.named, fun w hw => hts w (List.mem_cons_of_mem _ hw)⟩ B0.returns B0.notSynchronized (Nat.le_refl _) (Nat.le_refl _) (Nat.le_refl _) (Nat.le_refl _) _ _ _ h _ _ _ hpp.pb (lv_sub hl [0, 1] rfl)
-- X9_sign: LogHuntModel.sign()I
def wX9_sign_38 (post : Int32 → Pool → Prop) (v0 : Option Nat) (S : Pool) : Prop := xI S v0 9 29 fun a1 => xI S v0 9 28 fun a2 => br (a2 ≤ a1) (post ((-1)) S) (xR S v0 9 26 fun a4 => xI S v0 9 29 fun a5 => xaI S a4 10 a5 fun a6 => post a6 S)
def wX9_sign_0 (post : Int32 → Pool → Prop) : Nat → Option Nat → Pool → Prop
  | 0 => fun _ _ => False
  | n + 1 => fun v0 S => xI S v0 9 29 fun a1 => xI S v0 9 28 fun a2 => br (a2 ≤ a1) (wX9_sign_38 post v0 S) (xR S v0 9 26 fun a4 => xI S v0 9 29 fun a5 => xaI S a4 10 a5 fun a6 => br (a6 = 32) (xI S v0 9 29 fun a8 => xpI S v0 9 29 (a8 + 1) fun S9 => wX9_sign_0 post n v0 S9) (wX9_sign_38 post v0 S))
def wX9_sign (post : Int32 → Pool → Prop) (v0 : Option Nat) (S : Pool) : Prop := ∃ n1, wX9_sign_0 post n1 v0 S
def rmX9_sign : Room := { frames := 0, cells := 0, slots := 0, locals := 0 }
section
variable {p : Program} {l : Launch} {e : Env} {R : Room} {s : State} {m : MethodId} {args : Array Value} {below : List Frame} {meth : Method} {c : Code} {D : va_G} {cy : Nat → ClassId} {A : Nat → Prop}
set_option maxRecDepth 100000 in
set_option maxHeartbeats 4000000 in
theorem tX9_sign_38 {post : Int32 → Pool → Prop} (M : MC p m c cX9_sign 1 s args RX9) (hr : meth.sig.returnType = (some FieldType.int)) (hlk : meth.locks = false) (hRf : 0 ≤ R.frames) (hRl : 0 ≤ R.locals) (hRc : 0 ≤ R.cells) (hRs : 0 ≤ R.slots) : ∀ (v0 : Option Nat) (S : Pool), wX9_sign_38 post v0 S → ∀ (H : Heap) (locs : List Loc) (ls : Array Slot), PB D cy A s S H locs → lv_has ls 1 [(0, va_rf v0)] → W p l e R s m args below meth c H locs 0 0 (MQ below (va_Qi post (PQ D cy A) A) args s 0 0 A) (F0 m 38 ls []) := by
  intro v0 S h H locs ls B hl
  unfold wX9_sign_38 at h
  refine g_aload_n M dX9_sign_38 rfl (lv_at hl 0 rfl) ?_
  refine gfX9_131 M B dX9_sign_39 h (fun a1 h => ?_)
  refine g_aload_n M dX9_sign_42 rfl (lv_at hl 0 rfl) ?_
  refine gfX9_134 M B dX9_sign_43 h (fun a2 h => ?_)
  refine lv_icmp_ge (tgt := 61) M.1 M.2.1 dX9_sign_46 (by decide) (fun c3 => ?_) (fun c3 => ?_)
  · have h := h.1 c3
    refine lv_iconst (v := (-1)) M.1 M.2.1 dX9_sign_61 (by decide) ?_
    exact g_iret M B hr hlk h (by decide) (by decide) dX9_sign_62
  · have h := h.2 c3
    refine g_aload_n M dX9_sign_49 rfl (lv_at hl 0 rfl) ?_
    refine gfX9_72 M B dX9_sign_50 h (fun a4 h => ?_)
    refine g_aload_n M dX9_sign_53 rfl (lv_at hl 0 rfl) ?_
    refine gfX9_131 M B dX9_sign_54 h (fun a5 h => ?_)
    refine g_iald M B dX9_sign_57 h (fun a6 h => ?_)
    refine lv_goto (tgt := 62) M.1 M.2.1 dX9_sign_58 (by decide) ?_
    exact g_iret M B hr hlk h (by decide) (by decide) dX9_sign_62
set_option maxRecDepth 100000 in
set_option maxHeartbeats 4000000 in
theorem tX9_sign_0 {post : Int32 → Pool → Prop} (M : MC p m c cX9_sign 1 s args RX9) (hr : meth.sig.returnType = (some FieldType.int)) (hlk : meth.locks = false) (hRf : 0 ≤ R.frames) (hRl : 0 ≤ R.locals) (hRc : 0 ≤ R.cells) (hRs : 0 ≤ R.slots) : ∀ (n : Nat) (v0 : Option Nat) (S : Pool), wX9_sign_0 post n v0 S → ∀ (H : Heap) (locs : List Loc) (ls : Array Slot), PB D cy A s S H locs → lv_has ls 1 [(0, va_rf v0)] → W p l e R s m args below meth c H locs 0 0 (MQ below (va_Qi post (PQ D cy A) A) args s 0 0 A) (F0 m 0 ls []) := by
  intro n
  induction n with
  | zero => intro v0 S h; exact False.elim h
  | succ n ih =>
    intro v0 S h H locs ls B hl
    unfold wX9_sign_0 at h
    refine g_aload_n M dX9_sign_0 rfl (lv_at hl 0 rfl) ?_
    refine gfX9_131 M B dX9_sign_1 h (fun a1 h => ?_)
    refine g_aload_n M dX9_sign_4 rfl (lv_at hl 0 rfl) ?_
    refine gfX9_134 M B dX9_sign_5 h (fun a2 h => ?_)
    refine lv_icmp_ge (tgt := 38) M.1 M.2.1 dX9_sign_8 (by decide) (fun c3 => ?_) (fun c3 => ?_)
    · have h := h.1 c3
      exact tX9_sign_38 M hr hlk hRf hRl hRc hRs _ _ h _ _ _ B (lv_sub hl [0] rfl)
    · have h := h.2 c3
      refine g_aload_n M dX9_sign_11 rfl (lv_at hl 0 rfl) ?_
      refine gfX9_72 M B dX9_sign_12 h (fun a4 h => ?_)
      refine g_aload_n M dX9_sign_15 rfl (lv_at hl 0 rfl) ?_
      refine gfX9_131 M B dX9_sign_16 h (fun a5 h => ?_)
      refine g_iald M B dX9_sign_19 h (fun a6 h => ?_)
      refine lv_bipush (v := 32) M.1 M.2.1 dX9_sign_20 (by decide) ?_
      refine lv_icmp_ne (tgt := 38) M.1 M.2.1 dX9_sign_22 (by decide) (fun c7 => ?_) (fun c7 => ?_)
      · have h := h.2 c7
        exact tX9_sign_38 M hr hlk hRf hRl hRc hRs _ _ h _ _ _ B (lv_sub hl [0] rfl)
      · have h := h.1 c7
        refine g_aload_n M dX9_sign_25 rfl (lv_at hl 0 rfl) ?_
        refine lv_dup M.1 M.2.1 dX9_sign_26 (rf_cat _) ?_
        refine gfX9_131 M B dX9_sign_27 h (fun a8 h => ?_)
        refine lv_iconst (v := 1) M.1 M.2.1 dX9_sign_30 (by decide) ?_
        refine lv_iadd M.1 M.2.1 dX9_sign_31 ?_
        refine gpX9_131 M B dX9_sign_32 h (fun S9 H locs h B => ?_)
        refine lv_goto (tgt := 0) M.1 M.2.1 dX9_sign_35 (by decide) ?_
        exact ih _ _ h _ _ _ B (lv_sub hl [0] rfl)
set_option maxRecDepth 100000 in
set_option maxHeartbeats 4000000 in
theorem tX9_sign {post : Int32 → Pool → Prop} (M : MC p m c cX9_sign 1 s args RX9) (hr : meth.sig.returnType = (some FieldType.int)) (hlk : meth.locks = false) (hRf : 0 ≤ R.frames) (hRl : 0 ≤ R.locals) (hRc : 0 ≤ R.cells) (hRs : 0 ≤ R.slots) : ∀ (v0 : Option Nat) (S : Pool), wX9_sign post v0 S → ∀ (H : Heap) (locs : List Loc) (ls : Array Slot), PB D cy A s S H locs → lv_has ls 1 [(0, va_rf v0)] → W p l e R s m args below meth c H locs 0 0 (MQ below (va_Qi post (PQ D cy A) A) args s 0 0 A) (F0 m 0 ls []) := by
  intro v0 S h H locs ls B hl
  unfold wX9_sign at h
  obtain ⟨n1, h⟩ := h
  exact tX9_sign_0 M hr hlk hRf hRl hRc hRs n1 _ _ h _ _ _ B (lv_sub hl [0] rfl)
end
set_option maxRecDepth 100000 in
set_option maxHeartbeats 4000000 in
theorem kX9_sign (l : Launch) (D : va_G) (cy : Nat → ClassId) {post : Int32 → Pool → Prop} {v0 : Option Nat} {S : Pool} (h : wX9_sign post v0 S) : MetI l yX9_sign cX9_sign 1 (some FieldType.int) rmX9_sign [va_rf v0] D cy S post := by
  intro sz
  refine Met.ofW (cc := cX9_sign) (maxL := 1) (ret := (some FieldType.int)) (by decide) rfl ?_
  intro p e s m args below meth c s₁ B0 hml hv
  obtain ⟨rfl, hpp⟩ := hv
  have hts := atoms_spec (ws := .code yX9_sign cX9_sign 1 (some FieldType.int) :: Gw) B0.pre
  obtain rfl : s.heap.size = sz := hpp.1
  have hl := lv_entry [va_rf v0] (n := 1) (by rw [sl_r, sl_0]; decide)
  rw [lg_entry_eq]
  rw [la_r, la_0] at hl
  exact tX9_sign (l := l) (R := rmX9_sign) ⟨B0.exec, B0.bytes, hml, findClass_of_methodNamed B0.named, fun w hw => hts w (List.mem_cons_of_mem _ hw)⟩ B0.returns B0.notSynchronized (Nat.le_refl _) (Nat.le_refl _) (Nat.le_refl _) (Nat.le_refl _) _ _ h _ _ _ hpp.pb (lv_sub hl [0] rfl)
-- X9_wordEnd: LogHuntModel.wordEnd()I
def wX9_wordEnd_5 (post : Int32 → Pool → Prop) : Nat → Option Nat → Int32 → Pool → Prop
  | 0 => fun _ _ _ => False
  | n + 1 => fun v0 v1 S => xI S v0 9 28 fun a1 => br (a1 ≤ v1) (post v1 S) (xR S v0 9 26 fun a3 => xaI S a3 10 v1 fun a4 => br (a4 < 97) (post v1 S) (xR S v0 9 26 fun a6 => xaI S a6 10 v1 fun a7 => br (122 < a7) (post v1 S) (wX9_wordEnd_5 post n v0 (v1 + 1) S)))
def wX9_wordEnd (post : Int32 → Pool → Prop) (v0 : Option Nat) (S : Pool) : Prop := xI S v0 9 29 fun a1 => ∃ n1, wX9_wordEnd_5 post n1 v0 a1 S
def rmX9_wordEnd : Room := { frames := 0, cells := 0, slots := 0, locals := 0 }
section
variable {p : Program} {l : Launch} {e : Env} {R : Room} {s : State} {m : MethodId} {args : Array Value} {below : List Frame} {meth : Method} {c : Code} {D : va_G} {cy : Nat → ClassId} {A : Nat → Prop}
set_option maxRecDepth 100000 in
set_option maxHeartbeats 4000000 in
theorem tX9_wordEnd_5 {post : Int32 → Pool → Prop} (M : MC p m c cX9_wordEnd 2 s args RX9) (hr : meth.sig.returnType = (some FieldType.int)) (hlk : meth.locks = false) (hRf : 0 ≤ R.frames) (hRl : 0 ≤ R.locals) (hRc : 0 ≤ R.cells) (hRs : 0 ≤ R.slots) : ∀ (n : Nat) (v0 : Option Nat) (v1 : Int32) (S : Pool), wX9_wordEnd_5 post n v0 v1 S → ∀ (H : Heap) (locs : List Loc) (ls : Array Slot), PB D cy A s S H locs → lv_has ls 2 [(0, va_rf v0), (1, .int v1)] → W p l e R s m args below meth c H locs 0 0 (MQ below (va_Qi post (PQ D cy A) A) args s 0 0 A) (F0 m 5 ls []) := by
  intro n
  induction n with
  | zero => intro v0 v1 S h; exact False.elim h
  | succ n ih =>
    intro v0 v1 S h H locs ls B hl
    unfold wX9_wordEnd_5 at h
    refine lv_iload_n M.1 M.2.1 dX9_wordEnd_5 rfl (lv_at hl 1 rfl) ?_
    refine g_aload_n M dX9_wordEnd_6 rfl (lv_at hl 0 rfl) ?_
    refine gfX9_134 M B dX9_wordEnd_7 h (fun a1 h => ?_)
    refine lv_icmp_ge (tgt := 41) M.1 M.2.1 dX9_wordEnd_10 (by decide) (fun c2 => ?_) (fun c2 => ?_)
    · have h := h.1 c2
      refine lv_iload_n M.1 M.2.1 dX9_wordEnd_41 rfl (lv_at hl 1 rfl) ?_
      exact g_iret M B hr hlk h (by decide) (by decide) dX9_wordEnd_42
    · have h := h.2 c2
      refine g_aload_n M dX9_wordEnd_13 rfl (lv_at hl 0 rfl) ?_
      refine gfX9_72 M B dX9_wordEnd_14 h (fun a3 h => ?_)
      refine lv_iload_n M.1 M.2.1 dX9_wordEnd_17 rfl (lv_at hl 1 rfl) ?_
      refine g_iald M B dX9_wordEnd_18 h (fun a4 h => ?_)
      refine lv_bipush (v := 97) M.1 M.2.1 dX9_wordEnd_19 (by decide) ?_
      refine lv_icmp_lt (tgt := 41) M.1 M.2.1 dX9_wordEnd_21 (by decide) (fun c5 => ?_) (fun c5 => ?_)
      · have h := h.1 c5
        refine lv_iload_n M.1 M.2.1 dX9_wordEnd_41 rfl (lv_at hl 1 rfl) ?_
        exact g_iret M B hr hlk h (by decide) (by decide) dX9_wordEnd_42
      · have h := h.2 c5
        refine g_aload_n M dX9_wordEnd_24 rfl (lv_at hl 0 rfl) ?_
        refine gfX9_72 M B dX9_wordEnd_25 h (fun a6 h => ?_)
        refine lv_iload_n M.1 M.2.1 dX9_wordEnd_28 rfl (lv_at hl 1 rfl) ?_
        refine g_iald M B dX9_wordEnd_29 h (fun a7 h => ?_)
        refine lv_bipush (v := 122) M.1 M.2.1 dX9_wordEnd_30 (by decide) ?_
        refine lv_icmp_gt (tgt := 41) M.1 M.2.1 dX9_wordEnd_32 (by decide) (fun c8 => ?_) (fun c8 => ?_)
        · have h := h.1 c8
          refine lv_iload_n M.1 M.2.1 dX9_wordEnd_41 rfl (lv_at hl 1 rfl) ?_
          exact g_iret M B hr hlk h (by decide) (by decide) dX9_wordEnd_42
        · have h := h.2 c8
          refine lv_iinc (v := v1 + 1) (lv' := [(1, .int (v1 + 1)), (0, va_rf v0)]) M.1 M.2.1 dX9_wordEnd_35 hl (k := 1) rfl (by rfl) (by decide) (fl_e (fl_r rfl (fl_d rfl fl_0))) (fun ls hl => ?_)
          refine lv_goto (tgt := 5) M.1 M.2.1 dX9_wordEnd_38 (by decide) ?_
          exact ih _ _ _ h _ _ _ B (lv_sub hl [1, 0] rfl)
set_option maxRecDepth 100000 in
set_option maxHeartbeats 4000000 in
theorem tX9_wordEnd {post : Int32 → Pool → Prop} (M : MC p m c cX9_wordEnd 2 s args RX9) (hr : meth.sig.returnType = (some FieldType.int)) (hlk : meth.locks = false) (hRf : 0 ≤ R.frames) (hRl : 0 ≤ R.locals) (hRc : 0 ≤ R.cells) (hRs : 0 ≤ R.slots) : ∀ (v0 : Option Nat) (S : Pool), wX9_wordEnd post v0 S → ∀ (H : Heap) (locs : List Loc) (ls : Array Slot), PB D cy A s S H locs → lv_has ls 2 [(0, va_rf v0)] → W p l e R s m args below meth c H locs 0 0 (MQ below (va_Qi post (PQ D cy A) A) args s 0 0 A) (F0 m 0 ls []) := by
  intro v0 S h H locs ls B hl
  unfold wX9_wordEnd at h
  refine g_aload_n M dX9_wordEnd_0 rfl (lv_at hl 0 rfl) ?_
  refine gfX9_131 M B dX9_wordEnd_1 h (fun a1 h => ?_)
  refine lv_istore_n (lv' := [(1, .int a1), (0, va_rf v0)]) M.1 M.2.1 dX9_wordEnd_4 rfl hl (by decide) (fl_e (fl_r rfl fl_0)) (fun ls hl => ?_)
  obtain ⟨n1, h⟩ := h
  exact tX9_wordEnd_5 M hr hlk hRf hRl hRc hRs n1 _ _ _ h _ _ _ B (lv_sub hl [1, 0] rfl)
end
set_option maxRecDepth 100000 in
set_option maxHeartbeats 4000000 in
theorem kX9_wordEnd (l : Launch) (D : va_G) (cy : Nat → ClassId) {post : Int32 → Pool → Prop} {v0 : Option Nat} {S : Pool} (h : wX9_wordEnd post v0 S) : MetI l yX9_wordEnd cX9_wordEnd 2 (some FieldType.int) rmX9_wordEnd [va_rf v0] D cy S post := by
  intro sz
  refine Met.ofW (cc := cX9_wordEnd) (maxL := 2) (ret := (some FieldType.int)) (by decide) rfl ?_
  intro p e s m args below meth c s₁ B0 hml hv
  obtain ⟨rfl, hpp⟩ := hv
  have hts := atoms_spec (ws := .code yX9_wordEnd cX9_wordEnd 2 (some FieldType.int) :: Gw) B0.pre
  obtain rfl : s.heap.size = sz := hpp.1
  have hl := lv_entry [va_rf v0] (n := 2) (by rw [sl_r, sl_0]; decide)
  rw [lg_entry_eq]
  rw [la_r, la_0] at hl
  exact tX9_wordEnd (l := l) (R := rmX9_wordEnd) ⟨B0.exec, B0.bytes, hml, findClass_of_methodNamed B0.named, fun w hw => hts w (List.mem_cons_of_mem _ hw)⟩ B0.returns B0.notSynchronized (Nat.le_refl _) (Nat.le_refl _) (Nat.le_refl _) (Nat.le_refl _) _ _ h _ _ _ hpp.pb (lv_sub hl [0] rfl)
-- X9_isWord: LogHuntModel.isWord(J)Z
def wX9_isWord_43 (post : Int32 → Pool → Prop) : Nat → Option Nat → Int64 → Int32 → Int64 → Int32 → Pool → Prop
  | 0 => fun _ _ _ _ _ _ => False
  | n + 1 => fun v0 v1 v4 v5 v7 S => br (v4 ≤ v7) (br ((lg_cmp v5 v1) = 0) (((1 : Int32) = 0 ∨ (1 : Int32) = 1) ∧ post (1 : Int32) S) (((0 : Int32) = 0 ∨ (0 : Int32) = 1) ∧ post (0 : Int32) S)) (xR S v0 9 26 fun a3 => xaI S a3 10 v7 fun a4 => wX9_isWord_43 post n v0 v1 v4 ((v5 <<< ((8 : Int32).toInt64 &&& 63)) ||| (a4.toInt64)) (v7 + 1) S)
def wX9_isWord (post : Int32 → Pool → Prop) (v0 : Option Nat) (v1 : Int64) (S : Pool) : Prop := xrc S v0 9 (wX9_sign (fun a2 S1 => xrc S1 v0 9 (wX9_wordEnd (fun a4 S3 => xI S3 v0 9 29 fun a5 => br (a4 = a5) (((0 : Int32) = 0 ∨ (0 : Int32) = 1) ∧ post (0 : Int32) S3) (xI S3 v0 9 29 fun a7 => br ((a4 - a7) ≤ 7) (xI S3 v0 9 29 fun a9 => ∃ n1, wX9_isWord_43 post n1 v0 v1 a4 0 a9 S3) (((0 : Int32) = 0 ∨ (0 : Int32) = 1) ∧ post (0 : Int32) S3))) v0 S1)) v0 S)
def rmX9_isWord : Room := { frames := 1, cells := 0, slots := 0, locals := 21 }
section
variable {p : Program} {l : Launch} {e : Env} {R : Room} {s : State} {m : MethodId} {args : Array Value} {below : List Frame} {meth : Method} {c : Code} {D : va_G} {cy : Nat → ClassId} {A : Nat → Prop}
set_option maxRecDepth 100000 in
set_option maxHeartbeats 4000000 in
theorem tX9_isWord_43 {post : Int32 → Pool → Prop} (M : MC p m c cX9_isWord 8 s args RX9) (hr : meth.sig.returnType = (some FieldType.boolean)) (hlk : meth.locks = false) (hRf : 1 ≤ R.frames) (hRl : 21 ≤ R.locals) (hRc : 0 ≤ R.cells) (hRs : 0 ≤ R.slots) : ∀ (n : Nat) (v0 : Option Nat) (v1 : Int64) (v4 : Int32) (v5 : Int64) (v7 : Int32) (S : Pool), wX9_isWord_43 post n v0 v1 v4 v5 v7 S → ∀ (H : Heap) (locs : List Loc) (ls : Array Slot), PB D cy A s S H locs → lv_has ls 8 [(0, va_rf v0), (1, .long v1), (4, .int v4), (5, .long v5), (7, .int v7)] → W p l e R s m args below meth c H locs 0 0 (MQ below (va_Qi post (PQ D cy A) A) args s 0 0 A) (F0 m 43 ls []) := by
  intro n
  induction n with
  | zero => intro v0 v1 v4 v5 v7 S h; exact False.elim h
  | succ n ih =>
    intro v0 v1 v4 v5 v7 S h H locs ls B hl
    unfold wX9_isWord_43 at h
    refine lv_iload M.1 M.2.1 dX9_isWord_43 (lv_at hl 4 rfl) ?_
    refine lv_iload M.1 M.2.1 dX9_isWord_45 (lv_at hl 2 rfl) ?_
    refine lv_icmp_ge (tgt := 72) M.1 M.2.1 dX9_isWord_47 (by decide) (fun c1 => ?_) (fun c1 => ?_)
    · have h := h.1 c1
      refine lv_lload M.1 M.2.1 dX9_isWord_72 (lv_at hl 3 rfl) ?_
      refine lv_lload_n M.1 M.2.1 dX9_isWord_74 rfl (lv_at hl 1 rfl) ?_
      refine W.lcmp M.1 M.2.1 dX9_isWord_75 ?_
      refine lv_if_ne (tgt := 83) M.1 M.2.1 dX9_isWord_76 (by decide) (fun c2 => ?_) (fun c2 => ?_)
      · have h := h.2 c2
        refine lv_iconst (v := 0) M.1 M.2.1 dX9_isWord_83 (by decide) ?_
        exact g_zret M B hr hlk h (by decide) (by decide) dX9_isWord_84
      · have h := h.1 c2
        refine lv_iconst (v := 1) M.1 M.2.1 dX9_isWord_79 (by decide) ?_
        refine lv_goto (tgt := 84) M.1 M.2.1 dX9_isWord_80 (by decide) ?_
        exact g_zret M B hr hlk h (by decide) (by decide) dX9_isWord_84
    · have h := h.2 c1
      refine lv_lload M.1 M.2.1 dX9_isWord_50 (lv_at hl 3 rfl) ?_
      refine lv_bipush (v := 8) M.1 M.2.1 dX9_isWord_52 (by decide) ?_
      refine lv_lshl (v := v5 <<< ((8 : Int32).toInt64 &&& 63)) M.1 M.2.1 dX9_isWord_54 rfl ?_
      refine g_aload_n M dX9_isWord_55 rfl (lv_at hl 0 rfl) ?_
      refine gfX9_72 M B dX9_isWord_56 h (fun a3 h => ?_)
      refine lv_iload M.1 M.2.1 dX9_isWord_59 (lv_at hl 4 rfl) ?_
      refine g_iald M B dX9_isWord_61 h (fun a4 h => ?_)
      refine lv_i2l (v := a4.toInt64) M.1 M.2.1 dX9_isWord_62 rfl ?_
      refine lv_lor M.1 M.2.1 dX9_isWord_63 ?_
      refine lv_lstore (lv' := [(5, .long ((v5 <<< ((8 : Int32).toInt64 &&& 63)) ||| (a4.toInt64))), (0, va_rf v0), (1, .long v1), (4, .int v4), (7, .int v7)]) M.1 M.2.1 dX9_isWord_64 hl (by decide) (fm_e (fm_k rfl rfl rfl (fm_k rfl rfl rfl (fm_i rfl rfl (fm_d (Or.inl rfl) (fm_k rfl rfl rfl fm_0)))))) (fun ls hl => ?_)
      refine lv_iinc (v := v7 + 1) (lv' := [(7, .int (v7 + 1)), (5, .long ((v5 <<< ((8 : Int32).toInt64 &&& 63)) ||| (a4.toInt64))), (0, va_rf v0), (1, .long v1), (4, .int v4)]) M.1 M.2.1 dX9_isWord_66 hl (k := 4) rfl (by rfl) (by decide) (fl_e (fl_k rfl rfl (fl_k rfl rfl (fl_k rfl rfl (fl_k rfl rfl (fl_d rfl fl_0)))))) (fun ls hl => ?_)
      refine lv_goto (tgt := 43) M.1 M.2.1 dX9_isWord_69 (by decide) ?_
      exact ih _ _ _ _ _ _ h _ _ _ B (lv_sub hl [2, 3, 4, 1, 0] rfl)
set_option maxRecDepth 100000 in
set_option maxHeartbeats 4000000 in
theorem tX9_isWord {post : Int32 → Pool → Prop} (M : MC p m c cX9_isWord 8 s args RX9) (hr : meth.sig.returnType = (some FieldType.boolean)) (hlk : meth.locks = false) (hRf : 1 ≤ R.frames) (hRl : 21 ≤ R.locals) (hRc : 0 ≤ R.cells) (hRs : 0 ≤ R.slots) : ∀ (v0 : Option Nat) (v1 : Int64) (S : Pool), wX9_isWord post v0 v1 S → ∀ (H : Heap) (locs : List Loc) (ls : Array Slot), PB D cy A s S H locs → lv_has ls 8 [(0, va_rf v0), (1, .long v1)] → W p l e R s m args below meth c H locs 0 0 (MQ below (va_Qi post (PQ D cy A) A) args s 0 0 A) (F0 m 0 ls []) := by
  intro v0 v1 S h H locs ls B hl
  unfold wX9_isWord at h
  refine g_aload_n M dX9_isWord_0 rfl (lv_at hl 0 rfl) ?_
  obtain ⟨o1, e1, hL1, hK1, h⟩ := h
  refine g_calli (k1 := 0) (k2 := 0) B (g_runV (n := 0) (As := []) (rm := rmX9_sign) M B e1 (kX9_sign (v0 := v0) l D cy h _) wmX9_137 wiX9_sign wsX9_sign wnX9 wcdX9_sign ⟨rfl, by decide, by decide, by decide +kernel⟩ ⟨Nat.le_trans (by decide) hRf, Nat.le_trans (by decide) hRl⟩ ⟨Nat.le_trans (by decide) hRc, Nat.le_trans (by decide) hRs⟩ hL1 hK1 (by decide) rfl rfl rfl hl.1 rfl ct_0 (by decide) dX9_isWord_1) (by decide) (by decide) (fun a2 S1 H locs h B => ?_)
  refine lv_istore_n (lv' := [(3, .int a2), (0, va_rf v0), (1, .long v1)]) M.1 M.2.1 dX9_isWord_4 rfl hl (by decide) (fl_e (fl_k rfl rfl (fl_k rfl rfl fl_0))) (fun ls hl => ?_)
  refine g_aload_n M dX9_isWord_5 rfl (lv_at hl 1 rfl) ?_
  obtain ⟨o1, e1, hL1, hK1, h⟩ := h
  refine g_calli (k1 := 0) (k2 := 0) B (g_runV (n := 0) (As := []) (rm := rmX9_wordEnd) M B e1 (kX9_wordEnd (v0 := v0) l D cy h _) wmX9_141 wiX9_wordEnd wsX9_wordEnd wnX9 wcdX9_wordEnd ⟨rfl, by decide, by decide, by decide +kernel⟩ ⟨Nat.le_trans (by decide) hRf, Nat.le_trans (by decide) hRl⟩ ⟨Nat.le_trans (by decide) hRc, Nat.le_trans (by decide) hRs⟩ hL1 hK1 (by decide) rfl rfl rfl hl.1 rfl ct_0 (by decide) dX9_isWord_6) (by decide) (by decide) (fun a4 S3 H locs h B => ?_)
  refine lv_istore (lv' := [(4, .int a4), (3, .int a2), (0, va_rf v0), (1, .long v1)]) M.1 M.2.1 dX9_isWord_9 hl (by decide) (fl_e (fl_i rfl (fl_k rfl rfl (fl_k rfl rfl fl_0)))) (fun ls hl => ?_)
  refine lv_iload M.1 M.2.1 dX9_isWord_11 (lv_at hl 0 rfl) ?_
  refine g_aload_n M dX9_isWord_13 rfl (lv_at hl 2 rfl) ?_
  refine gfX9_131 M B dX9_isWord_14 h (fun a5 h => ?_)
  refine lv_icmp_eq (tgt := 32) M.1 M.2.1 dX9_isWord_17 (by decide) (fun c6 => ?_) (fun c6 => ?_)
  · have h := h.1 c6
    refine lv_iconst (v := 0) M.1 M.2.1 dX9_isWord_32 (by decide) ?_
    exact g_zret M B hr hlk h (by decide) (by decide) dX9_isWord_33
  · have h := h.2 c6
    refine lv_iload M.1 M.2.1 dX9_isWord_20 (lv_at hl 0 rfl) ?_
    refine g_aload_n M dX9_isWord_22 rfl (lv_at hl 2 rfl) ?_
    refine gfX9_131 M B dX9_isWord_23 h (fun a7 h => ?_)
    refine lv_isub M.1 M.2.1 dX9_isWord_26 ?_
    refine lv_bipush (v := 7) M.1 M.2.1 dX9_isWord_27 (by decide) ?_
    refine lv_icmp_le (tgt := 34) M.1 M.2.1 dX9_isWord_29 (by decide) (fun c8 => ?_) (fun c8 => ?_)
    · have h := h.1 c8
      refine lv_lconst (v := 0) M.1 M.2.1 dX9_isWord_34 (by decide) ?_
      refine lv_lstore (lv' := [(5, .long 0), (4, .int a4), (3, .int a2), (0, va_rf v0), (1, .long v1)]) M.1 M.2.1 dX9_isWord_35 hl (by decide) (fm_e (fm_i rfl rfl (fm_k rfl rfl rfl (fm_k rfl rfl rfl (fm_k rfl rfl rfl fm_0))))) (fun ls hl => ?_)
      refine g_aload_n M dX9_isWord_37 rfl (lv_at hl 3 rfl) ?_
      refine gfX9_131 M B dX9_isWord_38 h (fun a9 h => ?_)
      refine lv_istore (lv' := [(7, .int a9), (5, .long 0), (4, .int a4), (3, .int a2), (0, va_rf v0), (1, .long v1)]) M.1 M.2.1 dX9_isWord_41 hl (by decide) (fl_e (fl_k rfl rfl (fl_k rfl rfl (fl_k rfl rfl (fl_k rfl rfl (fl_k rfl rfl fl_0)))))) (fun ls hl => ?_)
      obtain ⟨n1, h⟩ := h
      exact tX9_isWord_43 M hr hlk hRf hRl hRc hRs n1 _ _ _ _ _ _ h _ _ _ B (lv_sub hl [4, 5, 2, 1, 0] rfl)
    · have h := h.2 c8
      refine lv_iconst (v := 0) M.1 M.2.1 dX9_isWord_32 (by decide) ?_
      exact g_zret M B hr hlk h (by decide) (by decide) dX9_isWord_33
end
set_option maxRecDepth 100000 in
set_option maxHeartbeats 4000000 in
theorem kX9_isWord (l : Launch) (D : va_G) (cy : Nat → ClassId) {post : Int32 → Pool → Prop} {v0 : Option Nat} {v1 : Int64} {S : Pool} (h : wX9_isWord post v0 v1 S) : MetI l yX9_isWord cX9_isWord 8 (some FieldType.boolean) rmX9_isWord [va_rf v0, .long v1] D cy S post := by
  intro sz
  refine Met.ofW (cc := cX9_isWord) (maxL := 8) (ret := (some FieldType.boolean)) (by decide) rfl ?_
  intro p e s m args below meth c s₁ B0 hml hv
  obtain ⟨rfl, hpp⟩ := hv
  have hts := atoms_spec (ws := .code yX9_isWord cX9_isWord 8 (some FieldType.boolean) :: Gw) B0.pre
  obtain rfl : s.heap.size = sz := hpp.1
  have hl := lv_entry [va_rf v0, .long v1] (n := 8) (by rw [sl_r, sl_l, sl_0]; decide)
  rw [lg_entry_eq]
  rw [la_r, la_l, la_0] at hl
  exact tX9_isWord (l := l) (R := rmX9_isWord) ⟨B0.exec, B0.bytes, hml, findClass_of_methodNamed B0.named, fun w hw => hts w (List.mem_cons_of_mem _ hw)⟩ B0.returns B0.notSynchronized (Nat.le_refl _) (Nat.le_refl _) (Nat.le_refl _) (Nat.le_refl _) _ _ _ h _ _ _ hpp.pb (lv_sub hl [0, 1] rfl)
-- X9_takes: LogHuntModel.takes(J)Z
def wX9_takes (post : Int32 → Pool → Prop) (v0 : Option Nat) (v1 : Int64) (S : Pool) : Prop := xrc S v0 9 (wX9_isWord (fun a2 S1 => br (a2 = 0) (((0 : Int32) = 0 ∨ (0 : Int32) = 1) ∧ post (0 : Int32) S1) (xrc S1 v0 9 (wX9_wordEnd (fun a5 S4 => xpI S4 v0 9 29 a5 fun S6 => ((1 : Int32) = 0 ∨ (1 : Int32) = 1) ∧ post (1 : Int32) S6) v0 S1))) v0 v1 S)
def rmX9_takes : Room := { frames := 2, cells := 0, slots := 0, locals := 48 }
section
variable {p : Program} {l : Launch} {e : Env} {R : Room} {s : State} {m : MethodId} {args : Array Value} {below : List Frame} {meth : Method} {c : Code} {D : va_G} {cy : Nat → ClassId} {A : Nat → Prop}
set_option maxRecDepth 100000 in
set_option maxHeartbeats 4000000 in
theorem tX9_takes {post : Int32 → Pool → Prop} (M : MC p m c cX9_takes 3 s args RX9) (hr : meth.sig.returnType = (some FieldType.boolean)) (hlk : meth.locks = false) (hRf : 2 ≤ R.frames) (hRl : 48 ≤ R.locals) (hRc : 0 ≤ R.cells) (hRs : 0 ≤ R.slots) : ∀ (v0 : Option Nat) (v1 : Int64) (S : Pool), wX9_takes post v0 v1 S → ∀ (H : Heap) (locs : List Loc) (ls : Array Slot), PB D cy A s S H locs → lv_has ls 3 [(0, va_rf v0), (1, .long v1)] → W p l e R s m args below meth c H locs 0 0 (MQ below (va_Qi post (PQ D cy A) A) args s 0 0 A) (F0 m 0 ls []) := by
  intro v0 v1 S h H locs ls B hl
  unfold wX9_takes at h
  refine g_aload_n M dX9_takes_0 rfl (lv_at hl 0 rfl) ?_
  refine lv_lload_n M.1 M.2.1 dX9_takes_1 rfl (lv_at hl 1 rfl) ?_
  obtain ⟨o1, e1, hL1, hK1, h⟩ := h
  refine g_calli (k1 := 0) (k2 := 0) B (g_runV (n := 1) (As := [.long v1]) (rm := rmX9_isWord) M B e1 (kX9_isWord (v0 := v0) (v1 := v1) l D cy h _) wmX9_144 wiX9_isWord wsX9_isWord wnX9 wcdX9_isWord ⟨rfl, by decide, by decide, by decide +kernel⟩ ⟨Nat.le_trans (by decide) hRf, Nat.le_trans (by decide) hRl⟩ ⟨Nat.le_trans (by decide) hRc, Nat.le_trans (by decide) hRs⟩ hL1 hK1 (by decide) rfl rfl rfl hl.1 rfl ct_0 (by decide) dX9_takes_2) (by decide) (by decide) (fun a2 S1 H locs h B => ?_)
  refine lv_if_ne (tgt := 10) M.1 M.2.1 dX9_takes_5 (by decide) (fun c3 => ?_) (fun c3 => ?_)
  · have h := h.2 c3
    refine g_aload_n M dX9_takes_10 rfl (lv_at hl 0 rfl) ?_
    refine g_aload_n M dX9_takes_11 rfl (lv_at hl 0 rfl) ?_
    obtain ⟨o1, e1, hL1, hK1, h⟩ := h
    refine g_calli (k1 := 0) (k2 := 0) B (g_runV (n := 0) (As := []) (rm := rmX9_wordEnd) M B e1 (kX9_wordEnd (v0 := v0) l D cy h _) wmX9_141 wiX9_wordEnd wsX9_wordEnd wnX9 wcdX9_wordEnd ⟨rfl, by decide, by decide, by decide +kernel⟩ ⟨Nat.le_trans (by decide) hRf, Nat.le_trans (by decide) hRl⟩ ⟨Nat.le_trans (by decide) hRc, Nat.le_trans (by decide) hRs⟩ hL1 hK1 (by decide) rfl rfl rfl hl.1 rfl (ct_r ct_0) (by decide) dX9_takes_12) (by decide) (by decide) (fun a5 S4 H locs h B => ?_)
    refine gpX9_131 M B dX9_takes_15 h (fun S6 H locs h B => ?_)
    refine lv_iconst (v := 1) M.1 M.2.1 dX9_takes_18 (by decide) ?_
    exact g_zret M B hr hlk h (by decide) (by decide) dX9_takes_19
  · have h := h.1 c3
    refine lv_iconst (v := 0) M.1 M.2.1 dX9_takes_8 (by decide) ?_
    exact g_zret M B hr hlk h (by decide) (by decide) dX9_takes_9
end
set_option maxRecDepth 100000 in
set_option maxHeartbeats 4000000 in
theorem kX9_takes (l : Launch) (D : va_G) (cy : Nat → ClassId) {post : Int32 → Pool → Prop} {v0 : Option Nat} {v1 : Int64} {S : Pool} (h : wX9_takes post v0 v1 S) : MetI l yX9_takes cX9_takes 3 (some FieldType.boolean) rmX9_takes [va_rf v0, .long v1] D cy S post := by
  intro sz
  refine Met.ofW (cc := cX9_takes) (maxL := 3) (ret := (some FieldType.boolean)) (by decide) rfl ?_
  intro p e s m args below meth c s₁ B0 hml hv
  obtain ⟨rfl, hpp⟩ := hv
  have hts := atoms_spec (ws := .code yX9_takes cX9_takes 3 (some FieldType.boolean) :: Gw) B0.pre
  obtain rfl : s.heap.size = sz := hpp.1
  have hl := lv_entry [va_rf v0, .long v1] (n := 3) (by rw [sl_r, sl_l, sl_0]; decide)
  rw [lg_entry_eq]
  rw [la_r, la_l, la_0] at hl
  exact tX9_takes (l := l) (R := rmX9_takes) ⟨B0.exec, B0.bytes, hml, findClass_of_methodNamed B0.named, fun w hw => hts w (List.mem_cons_of_mem _ hw)⟩ B0.returns B0.notSynchronized (Nat.le_refl _) (Nat.le_refl _) (Nat.le_refl _) (Nat.le_refl _) _ _ _ h _ _ _ hpp.pb (lv_sub hl [0, 1] rfl)
-- X9_passes: LogHuntModel.passes(J)Z
def wX9_passes_19 (post : Int32 → Pool → Prop) (S : Pool) : Prop := ((1 : Int32) = 0 ∨ (1 : Int32) = 1) ∧ post (1 : Int32) S
def wX9_passes (post : Int32 → Pool → Prop) (v0 : Option Nat) (v1 : Int64) (S : Pool) : Prop := xrc S v0 9 (wX9_takes (fun a2 S1 => br (a2 = 0) (xI S1 v0 9 29 fun a4 => xrc S1 v0 9 (wX9_wrong (fun a6 S5 => br (a6 = 0) (((0 : Int32) = 0 ∨ (0 : Int32) = 1) ∧ post (0 : Int32) S5) (wX9_passes_19 post S5)) v0 a4 S1)) (wX9_passes_19 post S1)) v0 v1 S)
def rmX9_passes : Room := { frames := 3, cells := 0, slots := 0, locals := 70 }
section
variable {p : Program} {l : Launch} {e : Env} {R : Room} {s : State} {m : MethodId} {args : Array Value} {below : List Frame} {meth : Method} {c : Code} {D : va_G} {cy : Nat → ClassId} {A : Nat → Prop}
set_option maxRecDepth 100000 in
set_option maxHeartbeats 4000000 in
theorem tX9_passes_19 {post : Int32 → Pool → Prop} (M : MC p m c cX9_passes 3 s args RX9) (hr : meth.sig.returnType = (some FieldType.boolean)) (hlk : meth.locks = false) (hRf : 3 ≤ R.frames) (hRl : 70 ≤ R.locals) (hRc : 0 ≤ R.cells) (hRs : 0 ≤ R.slots) : ∀ (S : Pool), wX9_passes_19 post S → ∀ (H : Heap) (locs : List Loc) (ls : Array Slot), PB D cy A s S H locs → lv_has ls 3 [] → W p l e R s m args below meth c H locs 0 0 (MQ below (va_Qi post (PQ D cy A) A) args s 0 0 A) (F0 m 19 ls []) := by
  intro S h H locs ls B hl
  unfold wX9_passes_19 at h
  refine lv_iconst (v := 1) M.1 M.2.1 dX9_passes_19 (by decide) ?_
  refine lv_goto (tgt := 24) M.1 M.2.1 dX9_passes_20 (by decide) ?_
  exact g_zret M B hr hlk h (by decide) (by decide) dX9_passes_24
set_option maxRecDepth 100000 in
set_option maxHeartbeats 4000000 in
theorem tX9_passes {post : Int32 → Pool → Prop} (M : MC p m c cX9_passes 3 s args RX9) (hr : meth.sig.returnType = (some FieldType.boolean)) (hlk : meth.locks = false) (hRf : 3 ≤ R.frames) (hRl : 70 ≤ R.locals) (hRc : 0 ≤ R.cells) (hRs : 0 ≤ R.slots) : ∀ (v0 : Option Nat) (v1 : Int64) (S : Pool), wX9_passes post v0 v1 S → ∀ (H : Heap) (locs : List Loc) (ls : Array Slot), PB D cy A s S H locs → lv_has ls 3 [(0, va_rf v0), (1, .long v1)] → W p l e R s m args below meth c H locs 0 0 (MQ below (va_Qi post (PQ D cy A) A) args s 0 0 A) (F0 m 0 ls []) := by
  intro v0 v1 S h H locs ls B hl
  unfold wX9_passes at h
  refine g_aload_n M dX9_passes_0 rfl (lv_at hl 0 rfl) ?_
  refine lv_lload_n M.1 M.2.1 dX9_passes_1 rfl (lv_at hl 1 rfl) ?_
  obtain ⟨o1, e1, hL1, hK1, h⟩ := h
  refine g_calli (k1 := 0) (k2 := 0) B (g_runV (n := 1) (As := [.long v1]) (rm := rmX9_takes) M B e1 (kX9_takes (v0 := v0) (v1 := v1) l D cy h _) wmX9_148 wiX9_takes wsX9_takes wnX9 wcdX9_takes ⟨rfl, by decide, by decide, by decide +kernel⟩ ⟨Nat.le_trans (by decide) hRf, Nat.le_trans (by decide) hRl⟩ ⟨Nat.le_trans (by decide) hRc, Nat.le_trans (by decide) hRs⟩ hL1 hK1 (by decide) rfl rfl rfl hl.1 rfl ct_0 (by decide) dX9_passes_2) (by decide) (by decide) (fun a2 S1 H locs h B => ?_)
  refine lv_if_ne (tgt := 19) M.1 M.2.1 dX9_passes_5 (by decide) (fun c3 => ?_) (fun c3 => ?_)
  · have h := h.2 c3
    exact tX9_passes_19 M hr hlk hRf hRl hRc hRs _ h _ _ _ B (lv_sub hl [] rfl)
  · have h := h.1 c3
    refine g_aload_n M dX9_passes_8 rfl (lv_at hl 0 rfl) ?_
    refine g_aload_n M dX9_passes_9 rfl (lv_at hl 0 rfl) ?_
    refine gfX9_131 M B dX9_passes_10 h (fun a4 h => ?_)
    obtain ⟨o1, e1, hL1, hK1, h⟩ := h
    refine g_calli (k1 := 0) (k2 := 0) B (g_runV (n := 1) (As := [.int a4]) (rm := rmX9_wrong) M B e1 (kX9_wrong (v0 := v0) (v1 := a4) l D cy h _) wmX9_151 wiX9_wrong wsX9_wrong wnX9 wcdX9_wrong ⟨rfl, by decide, by decide, by decide +kernel⟩ ⟨Nat.le_trans (by decide) hRf, Nat.le_trans (by decide) hRl⟩ ⟨Nat.le_trans (by decide) hRc, Nat.le_trans (by decide) hRs⟩ hL1 hK1 (by decide) rfl rfl rfl hl.1 rfl ct_0 (by decide) dX9_passes_13) (by decide) (by decide) (fun a6 S5 H locs h B => ?_)
    refine lv_if_eq (tgt := 23) M.1 M.2.1 dX9_passes_16 (by decide) (fun c7 => ?_) (fun c7 => ?_)
    · have h := h.1 c7
      refine lv_iconst (v := 0) M.1 M.2.1 dX9_passes_23 (by decide) ?_
      exact g_zret M B hr hlk h (by decide) (by decide) dX9_passes_24
    · have h := h.2 c7
      exact tX9_passes_19 M hr hlk hRf hRl hRc hRs _ h _ _ _ B (lv_sub hl [] rfl)
end
set_option maxRecDepth 100000 in
set_option maxHeartbeats 4000000 in
theorem kX9_passes (l : Launch) (D : va_G) (cy : Nat → ClassId) {post : Int32 → Pool → Prop} {v0 : Option Nat} {v1 : Int64} {S : Pool} (h : wX9_passes post v0 v1 S) : MetI l yX9_passes cX9_passes 3 (some FieldType.boolean) rmX9_passes [va_rf v0, .long v1] D cy S post := by
  intro sz
  refine Met.ofW (cc := cX9_passes) (maxL := 3) (ret := (some FieldType.boolean)) (by decide) rfl ?_
  intro p e s m args below meth c s₁ B0 hml hv
  obtain ⟨rfl, hpp⟩ := hv
  have hts := atoms_spec (ws := .code yX9_passes cX9_passes 3 (some FieldType.boolean) :: Gw) B0.pre
  obtain rfl : s.heap.size = sz := hpp.1
  have hl := lv_entry [va_rf v0, .long v1] (n := 3) (by rw [sl_r, sl_l, sl_0]; decide)
  rw [lg_entry_eq]
  rw [la_r, la_l, la_0] at hl
  exact tX9_passes (l := l) (R := rmX9_passes) ⟨B0.exec, B0.bytes, hml, findClass_of_methodNamed B0.named, fun w hw => hts w (List.mem_cons_of_mem _ hw)⟩ B0.returns B0.notSynchronized (Nat.le_refl _) (Nat.le_refl _) (Nat.le_refl _) (Nat.le_refl _) _ _ _ h _ _ _ hpp.pb (lv_sub hl [0, 1] rfl)
-- X9_digits: LogHuntModel.digits(II)Z
def wX9_digits_126 (post : Int32 → Pool → Prop) (v0 : Option Nat) (v4 : Int32) (S : Pool) : Prop := xrc S v0 9 (wX9_wrong (fun a2 S1 => (a2 = 0 ∨ a2 = 1) ∧ post a2 S1) v0 v4 S)
def wX9_digits_105 (post : Int32 → Pool → Prop) (v0 : Option Nat) (v1 : Int32) (v2 : Int32) (v4 : Int32) (v5 : Int32) (S : Pool) : Prop := xI S v0 9 29 fun a1 => br (a1 = v4) (wX9_digits_126 post v0 v4 S) (br (v5 < v1) (wX9_digits_126 post v0 v4 S) (br (v5 ≤ v2) (xpI S v0 9 31 v5 fun S5 => ((1 : Int32) = 0 ∨ (1 : Int32) = 1) ∧ post (1 : Int32) S5) (wX9_digits_126 post v0 v4 S)))
def wX9_digits_14 (post : Int32 → Pool → Prop) : Nat → Option Nat → Int32 → Int32 → Int32 → Int32 → Pool → Prop
  | 0 => fun _ _ _ _ _ _ => False
  | n + 1 => fun v0 v1 v2 v4 v5 S => xI S v0 9 29 fun a1 => xI S v0 9 28 fun a2 => br (a2 ≤ a1) (wX9_digits_105 post v0 v1 v2 v4 v5 S) (xR S v0 9 26 fun a4 => xI S v0 9 29 fun a5 => xaI S a4 10 a5 fun a6 => br (a6 < 48) (wX9_digits_105 post v0 v1 v2 v4 v5 S) (xR S v0 9 26 fun a8 => xI S v0 9 29 fun a9 => xaI S a8 10 a9 fun a10 => br (57 < a10) (wX9_digits_105 post v0 v1 v2 v4 v5 S) (xI S v0 9 29 fun a12 => br ((a12 - v4) = 6) (xrc S v0 9 (wX9_wrong (fun a20 S19 => (a20 = 0 ∨ a20 = 1) ∧ post a20 S19) v0 v4 S)) (xR S v0 9 26 fun a14 => xI S v0 9 29 fun a15 => xaI S a14 10 a15 fun a16 => xI S v0 9 29 fun a17 => xpI S v0 9 29 (a17 + 1) fun S18 => wX9_digits_14 post n v0 v1 v2 v4 ((((10 : Int32) * v5) + a16) - 48) S18))))
def wX9_digits (post : Int32 → Pool → Prop) (v0 : Option Nat) (v1 : Int32) (v2 : Int32) (S : Pool) : Prop := xrc S v0 9 (wX9_sign (fun a2 S1 => xI S1 v0 9 29 fun a3 => ∃ n1, wX9_digits_14 post n1 v0 v1 v2 a3 0 S1) v0 S)
def rmX9_digits : Room := { frames := 1, cells := 0, slots := 0, locals := 21 }
section
variable {p : Program} {l : Launch} {e : Env} {R : Room} {s : State} {m : MethodId} {args : Array Value} {below : List Frame} {meth : Method} {c : Code} {D : va_G} {cy : Nat → ClassId} {A : Nat → Prop}
set_option maxRecDepth 100000 in
set_option maxHeartbeats 4000000 in
theorem tX9_digits_126 {post : Int32 → Pool → Prop} (M : MC p m c cX9_digits 6 s args RX9) (hr : meth.sig.returnType = (some FieldType.boolean)) (hlk : meth.locks = false) (hRf : 1 ≤ R.frames) (hRl : 21 ≤ R.locals) (hRc : 0 ≤ R.cells) (hRs : 0 ≤ R.slots) : ∀ (v0 : Option Nat) (v4 : Int32) (S : Pool), wX9_digits_126 post v0 v4 S → ∀ (H : Heap) (locs : List Loc) (ls : Array Slot), PB D cy A s S H locs → lv_has ls 6 [(0, va_rf v0), (4, .int v4)] → W p l e R s m args below meth c H locs 0 0 (MQ below (va_Qi post (PQ D cy A) A) args s 0 0 A) (F0 m 126 ls []) := by
  intro v0 v4 S h H locs ls B hl
  unfold wX9_digits_126 at h
  refine g_aload_n M dX9_digits_126 rfl (lv_at hl 0 rfl) ?_
  refine lv_iload M.1 M.2.1 dX9_digits_127 (lv_at hl 1 rfl) ?_
  obtain ⟨o1, e1, hL1, hK1, h⟩ := h
  refine g_calli (k1 := 0) (k2 := 0) B (g_runV (n := 1) (As := [.int v4]) (rm := rmX9_wrong) M B e1 (kX9_wrong (v0 := v0) (v1 := v4) l D cy h _) wmX9_151 wiX9_wrong wsX9_wrong wnX9 wcdX9_wrong ⟨rfl, by decide, by decide, by decide +kernel⟩ ⟨Nat.le_trans (by decide) hRf, Nat.le_trans (by decide) hRl⟩ ⟨Nat.le_trans (by decide) hRc, Nat.le_trans (by decide) hRs⟩ hL1 hK1 (by decide) rfl rfl rfl hl.1 rfl ct_0 (by decide) dX9_digits_129) (by decide) (by decide) (fun a2 S1 H locs h B => ?_)
  exact g_zret M B hr hlk h (by decide) (by decide) dX9_digits_132
set_option maxRecDepth 100000 in
set_option maxHeartbeats 4000000 in
theorem tX9_digits_105 {post : Int32 → Pool → Prop} (M : MC p m c cX9_digits 6 s args RX9) (hr : meth.sig.returnType = (some FieldType.boolean)) (hlk : meth.locks = false) (hRf : 1 ≤ R.frames) (hRl : 21 ≤ R.locals) (hRc : 0 ≤ R.cells) (hRs : 0 ≤ R.slots) : ∀ (v0 : Option Nat) (v1 : Int32) (v2 : Int32) (v4 : Int32) (v5 : Int32) (S : Pool), wX9_digits_105 post v0 v1 v2 v4 v5 S → ∀ (H : Heap) (locs : List Loc) (ls : Array Slot), PB D cy A s S H locs → lv_has ls 6 [(0, va_rf v0), (1, .int v1), (2, .int v2), (4, .int v4), (5, .int v5)] → W p l e R s m args below meth c H locs 0 0 (MQ below (va_Qi post (PQ D cy A) A) args s 0 0 A) (F0 m 105 ls []) := by
  intro v0 v1 v2 v4 v5 S h H locs ls B hl
  unfold wX9_digits_105 at h
  refine g_aload_n M dX9_digits_105 rfl (lv_at hl 0 rfl) ?_
  refine gfX9_131 M B dX9_digits_106 h (fun a1 h => ?_)
  refine lv_iload M.1 M.2.1 dX9_digits_109 (lv_at hl 3 rfl) ?_
  refine lv_icmp_eq (tgt := 126) M.1 M.2.1 dX9_digits_111 (by decide) (fun c2 => ?_) (fun c2 => ?_)
  · have h := h.1 c2
    exact tX9_digits_126 M hr hlk hRf hRl hRc hRs _ _ _ h _ _ _ B (lv_sub hl [0, 3] rfl)
  · have h := h.2 c2
    refine lv_iload M.1 M.2.1 dX9_digits_114 (lv_at hl 4 rfl) ?_
    refine lv_iload_n M.1 M.2.1 dX9_digits_116 rfl (lv_at hl 1 rfl) ?_
    refine lv_icmp_lt (tgt := 126) M.1 M.2.1 dX9_digits_117 (by decide) (fun c3 => ?_) (fun c3 => ?_)
    · have h := h.1 c3
      exact tX9_digits_126 M hr hlk hRf hRl hRc hRs _ _ _ h _ _ _ B (lv_sub hl [0, 3] rfl)
    · have h := h.2 c3
      refine lv_iload M.1 M.2.1 dX9_digits_120 (lv_at hl 4 rfl) ?_
      refine lv_iload_n M.1 M.2.1 dX9_digits_122 rfl (lv_at hl 2 rfl) ?_
      refine lv_icmp_le (tgt := 133) M.1 M.2.1 dX9_digits_123 (by decide) (fun c4 => ?_) (fun c4 => ?_)
      · have h := h.1 c4
        refine g_aload_n M dX9_digits_133 rfl (lv_at hl 0 rfl) ?_
        refine lv_iload M.1 M.2.1 dX9_digits_134 (lv_at hl 4 rfl) ?_
        refine gpX9_154 M B dX9_digits_136 h (fun S5 H locs h B => ?_)
        refine lv_iconst (v := 1) M.1 M.2.1 dX9_digits_139 (by decide) ?_
        exact g_zret M B hr hlk h (by decide) (by decide) dX9_digits_140
      · have h := h.2 c4
        exact tX9_digits_126 M hr hlk hRf hRl hRc hRs _ _ _ h _ _ _ B (lv_sub hl [0, 3] rfl)
set_option maxRecDepth 100000 in
set_option maxHeartbeats 4000000 in
theorem tX9_digits_14 {post : Int32 → Pool → Prop} (M : MC p m c cX9_digits 6 s args RX9) (hr : meth.sig.returnType = (some FieldType.boolean)) (hlk : meth.locks = false) (hRf : 1 ≤ R.frames) (hRl : 21 ≤ R.locals) (hRc : 0 ≤ R.cells) (hRs : 0 ≤ R.slots) : ∀ (n : Nat) (v0 : Option Nat) (v1 : Int32) (v2 : Int32) (v4 : Int32) (v5 : Int32) (S : Pool), wX9_digits_14 post n v0 v1 v2 v4 v5 S → ∀ (H : Heap) (locs : List Loc) (ls : Array Slot), PB D cy A s S H locs → lv_has ls 6 [(0, va_rf v0), (1, .int v1), (2, .int v2), (4, .int v4), (5, .int v5)] → W p l e R s m args below meth c H locs 0 0 (MQ below (va_Qi post (PQ D cy A) A) args s 0 0 A) (F0 m 14 ls []) := by
  intro n
  induction n with
  | zero => intro v0 v1 v2 v4 v5 S h; exact False.elim h
  | succ n ih =>
    intro v0 v1 v2 v4 v5 S h H locs ls B hl
    unfold wX9_digits_14 at h
    refine g_aload_n M dX9_digits_14 rfl (lv_at hl 0 rfl) ?_
    refine gfX9_131 M B dX9_digits_15 h (fun a1 h => ?_)
    refine g_aload_n M dX9_digits_18 rfl (lv_at hl 0 rfl) ?_
    refine gfX9_134 M B dX9_digits_19 h (fun a2 h => ?_)
    refine lv_icmp_ge (tgt := 105) M.1 M.2.1 dX9_digits_22 (by decide) (fun c3 => ?_) (fun c3 => ?_)
    · have h := h.1 c3
      exact tX9_digits_105 M hr hlk hRf hRl hRc hRs _ _ _ _ _ _ h _ _ _ B (lv_sub hl [0, 1, 2, 3, 4] rfl)
    · have h := h.2 c3
      refine g_aload_n M dX9_digits_25 rfl (lv_at hl 0 rfl) ?_
      refine gfX9_72 M B dX9_digits_26 h (fun a4 h => ?_)
      refine g_aload_n M dX9_digits_29 rfl (lv_at hl 0 rfl) ?_
      refine gfX9_131 M B dX9_digits_30 h (fun a5 h => ?_)
      refine g_iald M B dX9_digits_33 h (fun a6 h => ?_)
      refine lv_bipush (v := 48) M.1 M.2.1 dX9_digits_34 (by decide) ?_
      refine lv_icmp_lt (tgt := 105) M.1 M.2.1 dX9_digits_36 (by decide) (fun c7 => ?_) (fun c7 => ?_)
      · have h := h.1 c7
        exact tX9_digits_105 M hr hlk hRf hRl hRc hRs _ _ _ _ _ _ h _ _ _ B (lv_sub hl [0, 1, 2, 3, 4] rfl)
      · have h := h.2 c7
        refine g_aload_n M dX9_digits_39 rfl (lv_at hl 0 rfl) ?_
        refine gfX9_72 M B dX9_digits_40 h (fun a8 h => ?_)
        refine g_aload_n M dX9_digits_43 rfl (lv_at hl 0 rfl) ?_
        refine gfX9_131 M B dX9_digits_44 h (fun a9 h => ?_)
        refine g_iald M B dX9_digits_47 h (fun a10 h => ?_)
        refine lv_bipush (v := 57) M.1 M.2.1 dX9_digits_48 (by decide) ?_
        refine lv_icmp_gt (tgt := 105) M.1 M.2.1 dX9_digits_50 (by decide) (fun c11 => ?_) (fun c11 => ?_)
        · have h := h.1 c11
          exact tX9_digits_105 M hr hlk hRf hRl hRc hRs _ _ _ _ _ _ h _ _ _ B (lv_sub hl [0, 1, 2, 3, 4] rfl)
        · have h := h.2 c11
          refine g_aload_n M dX9_digits_53 rfl (lv_at hl 0 rfl) ?_
          refine gfX9_131 M B dX9_digits_54 h (fun a12 h => ?_)
          refine lv_iload M.1 M.2.1 dX9_digits_57 (lv_at hl 3 rfl) ?_
          refine lv_isub M.1 M.2.1 dX9_digits_59 ?_
          refine lv_bipush (v := 6) M.1 M.2.1 dX9_digits_60 (by decide) ?_
          refine lv_icmp_ne (tgt := 72) M.1 M.2.1 dX9_digits_62 (by decide) (fun c13 => ?_) (fun c13 => ?_)
          · have h := h.2 c13
            refine lv_bipush (v := 10) M.1 M.2.1 dX9_digits_72 (by decide) ?_
            refine lv_iload M.1 M.2.1 dX9_digits_74 (lv_at hl 4 rfl) ?_
            refine lv_imul M.1 M.2.1 dX9_digits_76 ?_
            refine g_aload_n M dX9_digits_77 rfl (lv_at hl 0 rfl) ?_
            refine gfX9_72 M B dX9_digits_78 h (fun a14 h => ?_)
            refine g_aload_n M dX9_digits_81 rfl (lv_at hl 0 rfl) ?_
            refine gfX9_131 M B dX9_digits_82 h (fun a15 h => ?_)
            refine g_iald M B dX9_digits_85 h (fun a16 h => ?_)
            refine lv_iadd M.1 M.2.1 dX9_digits_86 ?_
            refine lv_bipush (v := 48) M.1 M.2.1 dX9_digits_87 (by decide) ?_
            refine lv_isub M.1 M.2.1 dX9_digits_89 ?_
            refine lv_istore (lv' := [(5, .int ((((10 : Int32) * v5) + a16) - 48)), (0, va_rf v0), (1, .int v1), (2, .int v2), (4, .int v4)]) M.1 M.2.1 dX9_digits_90 hl (by decide) (fl_e (fl_k rfl rfl (fl_k rfl rfl (fl_k rfl rfl (fl_i rfl (fl_d rfl fl_0)))))) (fun ls hl => ?_)
            refine g_aload_n M dX9_digits_92 rfl (lv_at hl 1 rfl) ?_
            refine lv_dup M.1 M.2.1 dX9_digits_93 (rf_cat _) ?_
            refine gfX9_131 M B dX9_digits_94 h (fun a17 h => ?_)
            refine lv_iconst (v := 1) M.1 M.2.1 dX9_digits_97 (by decide) ?_
            refine lv_iadd M.1 M.2.1 dX9_digits_98 ?_
            refine gpX9_131 M B dX9_digits_99 h (fun S18 H locs h B => ?_)
            refine lv_goto (tgt := 14) M.1 M.2.1 dX9_digits_102 (by decide) ?_
            exact ih _ _ _ _ _ _ h _ _ _ B (lv_sub hl [1, 2, 3, 4, 0] rfl)
          · have h := h.1 c13
            refine g_aload_n M dX9_digits_65 rfl (lv_at hl 0 rfl) ?_
            refine lv_iload M.1 M.2.1 dX9_digits_66 (lv_at hl 3 rfl) ?_
            obtain ⟨o1, e1, hL1, hK1, h⟩ := h
            refine g_calli (k1 := 0) (k2 := 0) B (g_runV (n := 1) (As := [.int v4]) (rm := rmX9_wrong) M B e1 (kX9_wrong (v0 := v0) (v1 := v4) l D cy h _) wmX9_151 wiX9_wrong wsX9_wrong wnX9 wcdX9_wrong ⟨rfl, by decide, by decide, by decide +kernel⟩ ⟨Nat.le_trans (by decide) hRf, Nat.le_trans (by decide) hRl⟩ ⟨Nat.le_trans (by decide) hRc, Nat.le_trans (by decide) hRs⟩ hL1 hK1 (by decide) rfl rfl rfl hl.1 rfl ct_0 (by decide) dX9_digits_68) (by decide) (by decide) (fun a20 S19 H locs h B => ?_)
            exact g_zret M B hr hlk h (by decide) (by decide) dX9_digits_71
set_option maxRecDepth 100000 in
set_option maxHeartbeats 4000000 in
theorem tX9_digits {post : Int32 → Pool → Prop} (M : MC p m c cX9_digits 6 s args RX9) (hr : meth.sig.returnType = (some FieldType.boolean)) (hlk : meth.locks = false) (hRf : 1 ≤ R.frames) (hRl : 21 ≤ R.locals) (hRc : 0 ≤ R.cells) (hRs : 0 ≤ R.slots) : ∀ (v0 : Option Nat) (v1 : Int32) (v2 : Int32) (S : Pool), wX9_digits post v0 v1 v2 S → ∀ (H : Heap) (locs : List Loc) (ls : Array Slot), PB D cy A s S H locs → lv_has ls 6 [(0, va_rf v0), (1, .int v1), (2, .int v2)] → W p l e R s m args below meth c H locs 0 0 (MQ below (va_Qi post (PQ D cy A) A) args s 0 0 A) (F0 m 0 ls []) := by
  intro v0 v1 v2 S h H locs ls B hl
  unfold wX9_digits at h
  refine g_aload_n M dX9_digits_0 rfl (lv_at hl 0 rfl) ?_
  obtain ⟨o1, e1, hL1, hK1, h⟩ := h
  refine g_calli (k1 := 0) (k2 := 0) B (g_runV (n := 0) (As := []) (rm := rmX9_sign) M B e1 (kX9_sign (v0 := v0) l D cy h _) wmX9_137 wiX9_sign wsX9_sign wnX9 wcdX9_sign ⟨rfl, by decide, by decide, by decide +kernel⟩ ⟨Nat.le_trans (by decide) hRf, Nat.le_trans (by decide) hRl⟩ ⟨Nat.le_trans (by decide) hRc, Nat.le_trans (by decide) hRs⟩ hL1 hK1 (by decide) rfl rfl rfl hl.1 rfl ct_0 (by decide) dX9_digits_1) (by decide) (by decide) (fun a2 S1 H locs h B => ?_)
  refine lv_istore_n (lv' := [(3, .int a2), (0, va_rf v0), (1, .int v1), (2, .int v2)]) M.1 M.2.1 dX9_digits_4 rfl hl (by decide) (fl_e (fl_k rfl rfl (fl_k rfl rfl (fl_i rfl fl_0)))) (fun ls hl => ?_)
  refine g_aload_n M dX9_digits_5 rfl (lv_at hl 1 rfl) ?_
  refine gfX9_131 M B dX9_digits_6 h (fun a3 h => ?_)
  refine lv_istore (lv' := [(4, .int a3), (3, .int a2), (0, va_rf v0), (1, .int v1), (2, .int v2)]) M.1 M.2.1 dX9_digits_9 hl (by decide) (fl_e (fl_i rfl (fl_k rfl rfl (fl_k rfl rfl (fl_k rfl rfl fl_0))))) (fun ls hl => ?_)
  refine lv_iconst (v := 0) M.1 M.2.1 dX9_digits_11 (by decide) ?_
  refine lv_istore (lv' := [(5, .int 0), (4, .int a3), (3, .int a2), (0, va_rf v0), (1, .int v1), (2, .int v2)]) M.1 M.2.1 dX9_digits_12 hl (by decide) (fl_e (fl_i rfl (fl_k rfl rfl (fl_k rfl rfl (fl_k rfl rfl (fl_k rfl rfl fl_0)))))) (fun ls hl => ?_)
  obtain ⟨n1, h⟩ := h
  exact tX9_digits_14 M hr hlk hRf hRl hRc hRs n1 _ _ _ _ _ _ h _ _ _ B (lv_sub hl [3, 4, 5, 1, 0] rfl)
end
set_option maxRecDepth 100000 in
set_option maxHeartbeats 4000000 in
theorem kX9_digits (l : Launch) (D : va_G) (cy : Nat → ClassId) {post : Int32 → Pool → Prop} {v0 : Option Nat} {v1 : Int32} {v2 : Int32} {S : Pool} (h : wX9_digits post v0 v1 v2 S) : MetI l yX9_digits cX9_digits 6 (some FieldType.boolean) rmX9_digits [va_rf v0, .int v1, .int v2] D cy S post := by
  intro sz
  refine Met.ofW (cc := cX9_digits) (maxL := 6) (ret := (some FieldType.boolean)) (by decide) rfl ?_
  intro p e s m args below meth c s₁ B0 hml hv
  obtain ⟨rfl, hpp⟩ := hv
  have hts := atoms_spec (ws := .code yX9_digits cX9_digits 6 (some FieldType.boolean) :: Gw) B0.pre
  obtain rfl : s.heap.size = sz := hpp.1
  have hl := lv_entry [va_rf v0, .int v1, .int v2] (n := 6) (by rw [sl_r, sl_i, sl_i, sl_0]; decide)
  rw [lg_entry_eq]
  rw [la_r, la_i, la_i, la_0] at hl
  exact tX9_digits (l := l) (R := rmX9_digits) ⟨B0.exec, B0.bytes, hml, findClass_of_methodNamed B0.named, fun w hw => hts w (List.mem_cons_of_mem _ hw)⟩ B0.returns B0.notSynchronized (Nat.le_refl _) (Nat.le_refl _) (Nat.le_refl _) (Nat.le_refl _) _ _ _ _ h _ _ _ hpp.pb (lv_sub hl [0, 1, 2] rfl)
-- X9_fieldHere: LogHuntModel.fieldHere()I
def wX9_fieldHere (post : Int32 → Pool → Prop) (v0 : Option Nat) (S : Pool) : Prop := xrc S v0 9 (wX9_isWord (fun a2 S1 => br (a2 = 0) (xrc S1 v0 9 (wX9_isWord (fun a5 S4 => br (a5 = 0) (xrc S4 v0 9 (wX9_isWord (fun a8 S7 => br (a8 = 0) (post ((-1)) S7) (post 2 S7)) v0 512852587109 S4)) (post 1 S4)) v0 2003329396 S1)) (post 0 S1)) v0 7825519 S)
def rmX9_fieldHere : Room := { frames := 2, cells := 0, slots := 0, locals := 48 }
section
variable {p : Program} {l : Launch} {e : Env} {R : Room} {s : State} {m : MethodId} {args : Array Value} {below : List Frame} {meth : Method} {c : Code} {D : va_G} {cy : Nat → ClassId} {A : Nat → Prop}
set_option maxRecDepth 100000 in
set_option maxHeartbeats 4000000 in
theorem tX9_fieldHere {post : Int32 → Pool → Prop} (M : MC p m c cX9_fieldHere 1 s args RX9) (hr : meth.sig.returnType = (some FieldType.int)) (hlk : meth.locks = false) (hRf : 2 ≤ R.frames) (hRl : 48 ≤ R.locals) (hRc : 0 ≤ R.cells) (hRs : 0 ≤ R.slots) : ∀ (v0 : Option Nat) (S : Pool), wX9_fieldHere post v0 S → ∀ (H : Heap) (locs : List Loc) (ls : Array Slot), PB D cy A s S H locs → lv_has ls 1 [(0, va_rf v0)] → W p l e R s m args below meth c H locs 0 0 (MQ below (va_Qi post (PQ D cy A) A) args s 0 0 A) (F0 m 0 ls []) := by
  intro v0 S h H locs ls B hl
  unfold wX9_fieldHere at h
  refine g_aload_n M dX9_fieldHere_0 rfl (lv_at hl 0 rfl) ?_
  refine lv_ldc2 (v := 7825519) M.1 M.2.1 M.2.2.2.1 (M.2.2.2.2 _ wkX9_157) dX9_fieldHere_1 ?_
  obtain ⟨o1, e1, hL1, hK1, h⟩ := h
  refine g_calli (k1 := 0) (k2 := 0) B (g_runV (n := 1) (As := [.long 7825519]) (rm := rmX9_isWord) M B e1 (kX9_isWord (v0 := v0) (v1 := 7825519) l D cy h _) wmX9_144 wiX9_isWord wsX9_isWord wnX9 wcdX9_isWord ⟨rfl, by decide, by decide, by decide +kernel⟩ ⟨Nat.le_trans (by decide) hRf, Nat.le_trans (by decide) hRl⟩ ⟨Nat.le_trans (by decide) hRc, Nat.le_trans (by decide) hRs⟩ hL1 hK1 (by decide) rfl rfl rfl hl.1 rfl ct_0 (by decide) dX9_fieldHere_4) (by decide) (by decide) (fun a2 S1 H locs h B => ?_)
  refine lv_if_eq (tgt := 14) M.1 M.2.1 dX9_fieldHere_7 (by decide) (fun c3 => ?_) (fun c3 => ?_)
  · have h := h.1 c3
    refine g_aload_n M dX9_fieldHere_14 rfl (lv_at hl 0 rfl) ?_
    refine lv_ldc2 (v := 2003329396) M.1 M.2.1 M.2.2.2.1 (M.2.2.2.2 _ wkX9_159) dX9_fieldHere_15 ?_
    obtain ⟨o1, e1, hL1, hK1, h⟩ := h
    refine g_calli (k1 := 0) (k2 := 0) B (g_runV (n := 1) (As := [.long 2003329396]) (rm := rmX9_isWord) M B e1 (kX9_isWord (v0 := v0) (v1 := 2003329396) l D cy h _) wmX9_144 wiX9_isWord wsX9_isWord wnX9 wcdX9_isWord ⟨rfl, by decide, by decide, by decide +kernel⟩ ⟨Nat.le_trans (by decide) hRf, Nat.le_trans (by decide) hRl⟩ ⟨Nat.le_trans (by decide) hRc, Nat.le_trans (by decide) hRs⟩ hL1 hK1 (by decide) rfl rfl rfl hl.1 rfl ct_0 (by decide) dX9_fieldHere_18) (by decide) (by decide) (fun a5 S4 H locs h B => ?_)
    refine lv_if_eq (tgt := 28) M.1 M.2.1 dX9_fieldHere_21 (by decide) (fun c6 => ?_) (fun c6 => ?_)
    · have h := h.1 c6
      refine g_aload_n M dX9_fieldHere_28 rfl (lv_at hl 0 rfl) ?_
      refine lv_ldc2 (v := 512852587109) M.1 M.2.1 M.2.2.2.1 (M.2.2.2.2 _ wkX9_161) dX9_fieldHere_29 ?_
      obtain ⟨o1, e1, hL1, hK1, h⟩ := h
      refine g_calli (k1 := 0) (k2 := 0) B (g_runV (n := 1) (As := [.long 512852587109]) (rm := rmX9_isWord) M B e1 (kX9_isWord (v0 := v0) (v1 := 512852587109) l D cy h _) wmX9_144 wiX9_isWord wsX9_isWord wnX9 wcdX9_isWord ⟨rfl, by decide, by decide, by decide +kernel⟩ ⟨Nat.le_trans (by decide) hRf, Nat.le_trans (by decide) hRl⟩ ⟨Nat.le_trans (by decide) hRc, Nat.le_trans (by decide) hRs⟩ hL1 hK1 (by decide) rfl rfl rfl hl.1 rfl ct_0 (by decide) dX9_fieldHere_32) (by decide) (by decide) (fun a8 S7 H locs h B => ?_)
      refine lv_if_eq (tgt := 42) M.1 M.2.1 dX9_fieldHere_35 (by decide) (fun c9 => ?_) (fun c9 => ?_)
      · have h := h.1 c9
        refine lv_iconst (v := (-1)) M.1 M.2.1 dX9_fieldHere_42 (by decide) ?_
        exact g_iret M B hr hlk h (by decide) (by decide) dX9_fieldHere_43
      · have h := h.2 c9
        refine lv_iconst (v := 2) M.1 M.2.1 dX9_fieldHere_38 (by decide) ?_
        refine lv_goto (tgt := 43) M.1 M.2.1 dX9_fieldHere_39 (by decide) ?_
        exact g_iret M B hr hlk h (by decide) (by decide) dX9_fieldHere_43
    · have h := h.2 c6
      refine lv_iconst (v := 1) M.1 M.2.1 dX9_fieldHere_24 (by decide) ?_
      refine lv_goto (tgt := 43) M.1 M.2.1 dX9_fieldHere_25 (by decide) ?_
      exact g_iret M B hr hlk h (by decide) (by decide) dX9_fieldHere_43
  · have h := h.2 c3
    refine lv_iconst (v := 0) M.1 M.2.1 dX9_fieldHere_10 (by decide) ?_
    refine lv_goto (tgt := 43) M.1 M.2.1 dX9_fieldHere_11 (by decide) ?_
    exact g_iret M B hr hlk h (by decide) (by decide) dX9_fieldHere_43
end
set_option maxRecDepth 100000 in
set_option maxHeartbeats 4000000 in
theorem kX9_fieldHere (l : Launch) (D : va_G) (cy : Nat → ClassId) {post : Int32 → Pool → Prop} {v0 : Option Nat} {S : Pool} (h : wX9_fieldHere post v0 S) : MetI l yX9_fieldHere cX9_fieldHere 1 (some FieldType.int) rmX9_fieldHere [va_rf v0] D cy S post := by
  intro sz
  refine Met.ofW (cc := cX9_fieldHere) (maxL := 1) (ret := (some FieldType.int)) (by decide) rfl ?_
  intro p e s m args below meth c s₁ B0 hml hv
  obtain ⟨rfl, hpp⟩ := hv
  have hts := atoms_spec (ws := .code yX9_fieldHere cX9_fieldHere 1 (some FieldType.int) :: Gw) B0.pre
  obtain rfl : s.heap.size = sz := hpp.1
  have hl := lv_entry [va_rf v0] (n := 1) (by rw [sl_r, sl_0]; decide)
  rw [lg_entry_eq]
  rw [la_r, la_0] at hl
  exact tX9_fieldHere (l := l) (R := rmX9_fieldHere) ⟨B0.exec, B0.bytes, hml, findClass_of_methodNamed B0.named, fun w hw => hts w (List.mem_cons_of_mem _ hw)⟩ B0.returns B0.notSynchronized (Nat.le_refl _) (Nat.le_refl _) (Nat.le_refl _) (Nat.le_refl _) _ _ h _ _ _ hpp.pb (lv_sub hl [0] rfl)
-- X9_readField: LogHuntModel.readField()Z
def wX9_readField (post : Int32 → Pool → Prop) (v0 : Option Nat) (S : Pool) : Prop := xrc S v0 9 (wX9_fieldHere (fun a2 S1 => br (a2 = ((-1))) (xI S1 v0 9 29 fun a10 => xrc S1 v0 9 (wX9_wrong (fun a12 S11 => (a12 = 0 ∨ a12 = 1) ∧ post a12 S11) v0 a10 S1)) (xrc S1 v0 9 (wX9_wordEnd (fun a5 S4 => xpI S4 v0 9 29 a5 fun S6 => xI S6 v0 9 32 fun a7 => xpI S6 v0 9 32 (a7 ||| ((1 : Int32) <<< (a2 &&& 31))) fun S8 => xpI S8 v0 9 31 a2 fun S9 => ((1 : Int32) = 0 ∨ (1 : Int32) = 1) ∧ post (1 : Int32) S9) v0 S1))) v0 S)
def rmX9_readField : Room := { frames := 3, cells := 0, slots := 0, locals := 68 }
section
variable {p : Program} {l : Launch} {e : Env} {R : Room} {s : State} {m : MethodId} {args : Array Value} {below : List Frame} {meth : Method} {c : Code} {D : va_G} {cy : Nat → ClassId} {A : Nat → Prop}
set_option maxRecDepth 100000 in
set_option maxHeartbeats 4000000 in
theorem tX9_readField {post : Int32 → Pool → Prop} (M : MC p m c cX9_readField 2 s args RX9) (hr : meth.sig.returnType = (some FieldType.boolean)) (hlk : meth.locks = false) (hRf : 3 ≤ R.frames) (hRl : 68 ≤ R.locals) (hRc : 0 ≤ R.cells) (hRs : 0 ≤ R.slots) : ∀ (v0 : Option Nat) (S : Pool), wX9_readField post v0 S → ∀ (H : Heap) (locs : List Loc) (ls : Array Slot), PB D cy A s S H locs → lv_has ls 2 [(0, va_rf v0)] → W p l e R s m args below meth c H locs 0 0 (MQ below (va_Qi post (PQ D cy A) A) args s 0 0 A) (F0 m 0 ls []) := by
  intro v0 S h H locs ls B hl
  unfold wX9_readField at h
  refine g_aload_n M dX9_readField_0 rfl (lv_at hl 0 rfl) ?_
  obtain ⟨o1, e1, hL1, hK1, h⟩ := h
  refine g_calli (k1 := 0) (k2 := 0) B (g_runV (n := 0) (As := []) (rm := rmX9_fieldHere) M B e1 (kX9_fieldHere (v0 := v0) l D cy h _) wmX9_163 wiX9_fieldHere wsX9_fieldHere wnX9 wcdX9_fieldHere ⟨rfl, by decide, by decide, by decide +kernel⟩ ⟨Nat.le_trans (by decide) hRf, Nat.le_trans (by decide) hRl⟩ ⟨Nat.le_trans (by decide) hRc, Nat.le_trans (by decide) hRs⟩ hL1 hK1 (by decide) rfl rfl rfl hl.1 rfl ct_0 (by decide) dX9_readField_1) (by decide) (by decide) (fun a2 S1 H locs h B => ?_)
  refine lv_istore_n (lv' := [(1, .int a2), (0, va_rf v0)]) M.1 M.2.1 dX9_readField_4 rfl hl (by decide) (fl_e (fl_r rfl fl_0)) (fun ls hl => ?_)
  refine lv_iload_n M.1 M.2.1 dX9_readField_5 rfl (lv_at hl 0 rfl) ?_
  refine lv_iconst (v := (-1)) M.1 M.2.1 dX9_readField_6 (by decide) ?_
  refine lv_icmp_ne (tgt := 19) M.1 M.2.1 dX9_readField_7 (by decide) (fun c3 => ?_) (fun c3 => ?_)
  · have h := h.2 c3
    refine g_aload_n M dX9_readField_19 rfl (lv_at hl 1 rfl) ?_
    refine g_aload_n M dX9_readField_20 rfl (lv_at hl 1 rfl) ?_
    obtain ⟨o1, e1, hL1, hK1, h⟩ := h
    refine g_calli (k1 := 0) (k2 := 0) B (g_runV (n := 0) (As := []) (rm := rmX9_wordEnd) M B e1 (kX9_wordEnd (v0 := v0) l D cy h _) wmX9_141 wiX9_wordEnd wsX9_wordEnd wnX9 wcdX9_wordEnd ⟨rfl, by decide, by decide, by decide +kernel⟩ ⟨Nat.le_trans (by decide) hRf, Nat.le_trans (by decide) hRl⟩ ⟨Nat.le_trans (by decide) hRc, Nat.le_trans (by decide) hRs⟩ hL1 hK1 (by decide) rfl rfl rfl hl.1 rfl (ct_r ct_0) (by decide) dX9_readField_21) (by decide) (by decide) (fun a5 S4 H locs h B => ?_)
    refine gpX9_131 M B dX9_readField_24 h (fun S6 H locs h B => ?_)
    refine g_aload_n M dX9_readField_27 rfl (lv_at hl 1 rfl) ?_
    refine lv_dup M.1 M.2.1 dX9_readField_28 (rf_cat _) ?_
    refine gfX9_166 M B dX9_readField_29 h (fun a7 h => ?_)
    refine lv_iconst (v := 1) M.1 M.2.1 dX9_readField_32 (by decide) ?_
    refine lv_iload_n M.1 M.2.1 dX9_readField_33 rfl (lv_at hl 0 rfl) ?_
    refine lv_ishl M.1 M.2.1 dX9_readField_34 ?_
    refine lv_ior M.1 M.2.1 dX9_readField_35 ?_
    refine gpX9_166 M B dX9_readField_36 h (fun S8 H locs h B => ?_)
    refine g_aload_n M dX9_readField_39 rfl (lv_at hl 1 rfl) ?_
    refine lv_iload_n M.1 M.2.1 dX9_readField_40 rfl (lv_at hl 0 rfl) ?_
    refine gpX9_154 M B dX9_readField_41 h (fun S9 H locs h B => ?_)
    refine lv_iconst (v := 1) M.1 M.2.1 dX9_readField_44 (by decide) ?_
    exact g_zret M B hr hlk h (by decide) (by decide) dX9_readField_45
  · have h := h.1 c3
    refine g_aload_n M dX9_readField_10 rfl (lv_at hl 1 rfl) ?_
    refine g_aload_n M dX9_readField_11 rfl (lv_at hl 1 rfl) ?_
    refine gfX9_131 M B dX9_readField_12 h (fun a10 h => ?_)
    obtain ⟨o1, e1, hL1, hK1, h⟩ := h
    refine g_calli (k1 := 0) (k2 := 0) B (g_runV (n := 1) (As := [.int a10]) (rm := rmX9_wrong) M B e1 (kX9_wrong (v0 := v0) (v1 := a10) l D cy h _) wmX9_151 wiX9_wrong wsX9_wrong wnX9 wcdX9_wrong ⟨rfl, by decide, by decide, by decide +kernel⟩ ⟨Nat.le_trans (by decide) hRf, Nat.le_trans (by decide) hRl⟩ ⟨Nat.le_trans (by decide) hRc, Nat.le_trans (by decide) hRs⟩ hL1 hK1 (by decide) rfl rfl rfl hl.1 rfl ct_0 (by decide) dX9_readField_15) (by decide) (by decide) (fun a12 S11 H locs h B => ?_)
    exact g_zret M B hr hlk h (by decide) (by decide) dX9_readField_18
end
set_option maxRecDepth 100000 in
set_option maxHeartbeats 4000000 in
theorem kX9_readField (l : Launch) (D : va_G) (cy : Nat → ClassId) {post : Int32 → Pool → Prop} {v0 : Option Nat} {S : Pool} (h : wX9_readField post v0 S) : MetI l yX9_readField cX9_readField 2 (some FieldType.boolean) rmX9_readField [va_rf v0] D cy S post := by
  intro sz
  refine Met.ofW (cc := cX9_readField) (maxL := 2) (ret := (some FieldType.boolean)) (by decide) rfl ?_
  intro p e s m args below meth c s₁ B0 hml hv
  obtain ⟨rfl, hpp⟩ := hv
  have hts := atoms_spec (ws := .code yX9_readField cX9_readField 2 (some FieldType.boolean) :: Gw) B0.pre
  obtain rfl : s.heap.size = sz := hpp.1
  have hl := lv_entry [va_rf v0] (n := 2) (by rw [sl_r, sl_0]; decide)
  rw [lg_entry_eq]
  rw [la_r, la_0] at hl
  exact tX9_readField (l := l) (R := rmX9_readField) ⟨B0.exec, B0.bytes, hml, findClass_of_methodNamed B0.named, fun w hw => hts w (List.mem_cons_of_mem _ hw)⟩ B0.returns B0.notSynchronized (Nat.le_refl _) (Nat.le_refl _) (Nat.le_refl _) (Nat.le_refl _) _ _ h _ _ _ hpp.pb (lv_sub hl [0] rfl)
-- X9_pending: LogHuntModel.pending(IZ)Z
def wX9_pending_43 (K8 : Option Nat → Int32 → Int32 → Int32 → Pool → Prop) (post : Int32 → Pool → Prop) (v0 : Option Nat) (v2 : Int32) (v3 : Int32) (v4 : Int32) (z0 : Int32) (S : Pool) : Prop := br (z0 = v2) (((1 : Int32) = 0 ∨ (1 : Int32) = 1) ∧ post (1 : Int32) S) (K8 v0 v2 v3 (v4 + (-1)) S)
def wX9_pending_8 (post : Int32 → Pool → Prop) : Nat → Option Nat → Int32 → Int32 → Int32 → Pool → Prop
  | 0 => fun _ _ _ _ _ => False
  | n + 1 => fun v0 v2 v3 v4 S => br (v4 < 0) (((0 : Int32) = 0 ∨ (0 : Int32) = 1) ∧ post (0 : Int32) S) (xR S v0 9 14 fun a2 => xaI S a2 11 (v3 + v4) fun a3 => br (a3 = 0) (((0 : Int32) = 0 ∨ (0 : Int32) = 1) ∧ post (0 : Int32) S) (xR S v0 9 18 fun a5 => xaI S a5 10 (v3 + v4) fun a6 => br (a6 = ((-1))) (wX9_pending_43 (wX9_pending_8 post n) post v0 v2 v3 v4 0 S) (wX9_pending_43 (wX9_pending_8 post n) post v0 v2 v3 v4 1 S)))
def wX9_pending (post : Int32 → Pool → Prop) (v0 : Option Nat) (v1 : Int32) (v2 : Int32) (S : Pool) : Prop := ∃ n1, wX9_pending_8 post n1 v0 v2 48 (v1 - 1) S
def rmX9_pending : Room := { frames := 0, cells := 0, slots := 0, locals := 0 }
section
variable {p : Program} {l : Launch} {e : Env} {R : Room} {s : State} {m : MethodId} {args : Array Value} {below : List Frame} {meth : Method} {c : Code} {D : va_G} {cy : Nat → ClassId} {A : Nat → Prop}
set_option maxRecDepth 100000 in
set_option maxHeartbeats 4000000 in
theorem tX9_pending_43 {K8 : Option Nat → Int32 → Int32 → Int32 → Pool → Prop} {post : Int32 → Pool → Prop} (M : MC p m c cX9_pending 5 s args RX9) (hr : meth.sig.returnType = (some FieldType.boolean)) (hlk : meth.locks = false) (hRf : 0 ≤ R.frames) (hRl : 0 ≤ R.locals) (hRc : 0 ≤ R.cells) (hRs : 0 ≤ R.slots) (hK8 : ∀ (v0 : Option Nat) (v2 : Int32) (v3 : Int32) (v4 : Int32) (S : Pool), K8 v0 v2 v3 v4 S → ∀ (H : Heap) (locs : List Loc) (ls : Array Slot), PB D cy A s S H locs → lv_has ls 5 [(0, va_rf v0), (2, .int v2), (3, .int v3), (4, .int v4)] → W p l e R s m args below meth c H locs 0 0 (MQ below (va_Qi post (PQ D cy A) A) args s 0 0 A) (F0 m 8 ls [])) : ∀ (v0 : Option Nat) (v2 : Int32) (v3 : Int32) (v4 : Int32) (z0 : Int32) (S : Pool), wX9_pending_43 K8 post v0 v2 v3 v4 z0 S → ∀ (H : Heap) (locs : List Loc) (ls : Array Slot), PB D cy A s S H locs → lv_has ls 5 [(0, va_rf v0), (2, .int v2), (3, .int v3), (4, .int v4)] → W p l e R s m args below meth c H locs 0 0 (MQ below (va_Qi post (PQ D cy A) A) args s 0 0 A) (F0 m 43 ls [.int z0]) := by
  intro v0 v2 v3 v4 z0 S h H locs ls B hl
  unfold wX9_pending_43 at h
  refine lv_iload_n M.1 M.2.1 dX9_pending_43 rfl (lv_at hl 1 rfl) ?_
  refine lv_icmp_ne (tgt := 49) M.1 M.2.1 dX9_pending_44 (by decide) (fun c1 => ?_) (fun c1 => ?_)
  · have h := h.2 c1
    refine lv_iinc (v := v4 + (-1)) (lv' := [(4, .int (v4 + (-1))), (0, va_rf v0), (2, .int v2), (3, .int v3)]) M.1 M.2.1 dX9_pending_49 hl (k := 3) rfl (by rfl) (by decide) (fl_e (fl_k rfl rfl (fl_k rfl rfl (fl_i rfl (fl_d rfl fl_0))))) (fun ls hl => ?_)
    refine lv_goto (tgt := 8) M.1 M.2.1 dX9_pending_52 (by decide) ?_
    exact hK8 _ _ _ _ _ h _ _ _ B (lv_sub hl [1, 2, 3, 0] rfl)
  · have h := h.1 c1
    refine lv_iconst (v := 1) M.1 M.2.1 dX9_pending_47 (by decide) ?_
    exact g_zret M B hr hlk h (by decide) (by decide) dX9_pending_48
set_option maxRecDepth 100000 in
set_option maxHeartbeats 4000000 in
theorem tX9_pending_8 {post : Int32 → Pool → Prop} (M : MC p m c cX9_pending 5 s args RX9) (hr : meth.sig.returnType = (some FieldType.boolean)) (hlk : meth.locks = false) (hRf : 0 ≤ R.frames) (hRl : 0 ≤ R.locals) (hRc : 0 ≤ R.cells) (hRs : 0 ≤ R.slots) : ∀ (n : Nat) (v0 : Option Nat) (v2 : Int32) (v3 : Int32) (v4 : Int32) (S : Pool), wX9_pending_8 post n v0 v2 v3 v4 S → ∀ (H : Heap) (locs : List Loc) (ls : Array Slot), PB D cy A s S H locs → lv_has ls 5 [(0, va_rf v0), (2, .int v2), (3, .int v3), (4, .int v4)] → W p l e R s m args below meth c H locs 0 0 (MQ below (va_Qi post (PQ D cy A) A) args s 0 0 A) (F0 m 8 ls []) := by
  intro n
  induction n with
  | zero => intro v0 v2 v3 v4 S h; exact False.elim h
  | succ n ih =>
    intro v0 v2 v3 v4 S h H locs ls B hl
    unfold wX9_pending_8 at h
    refine lv_iload M.1 M.2.1 dX9_pending_8 (lv_at hl 3 rfl) ?_
    refine lv_if_lt (tgt := 55) M.1 M.2.1 dX9_pending_10 (by decide) (fun c1 => ?_) (fun c1 => ?_)
    · have h := h.1 c1
      refine lv_iconst (v := 0) M.1 M.2.1 dX9_pending_55 (by decide) ?_
      exact g_zret M B hr hlk h (by decide) (by decide) dX9_pending_56
    · have h := h.2 c1
      refine g_aload_n M dX9_pending_13 rfl (lv_at hl 0 rfl) ?_
      refine gfX9_38 M B dX9_pending_14 h (fun a2 h => ?_)
      refine lv_iload_n M.1 M.2.1 dX9_pending_17 rfl (lv_at hl 2 rfl) ?_
      refine lv_iload M.1 M.2.1 dX9_pending_18 (lv_at hl 3 rfl) ?_
      refine lv_iadd M.1 M.2.1 dX9_pending_20 ?_
      refine g_zald M B dX9_pending_21 h (fun a3 h => ?_)
      refine lv_if_eq (tgt := 55) M.1 M.2.1 dX9_pending_22 (by decide) (fun c4 => ?_) (fun c4 => ?_)
      · have h := h.1 c4
        refine lv_iconst (v := 0) M.1 M.2.1 dX9_pending_55 (by decide) ?_
        exact g_zret M B hr hlk h (by decide) (by decide) dX9_pending_56
      · have h := h.2 c4
        refine g_aload_n M dX9_pending_25 rfl (lv_at hl 0 rfl) ?_
        refine gfX9_51 M B dX9_pending_26 h (fun a5 h => ?_)
        refine lv_iload_n M.1 M.2.1 dX9_pending_29 rfl (lv_at hl 2 rfl) ?_
        refine lv_iload M.1 M.2.1 dX9_pending_30 (lv_at hl 3 rfl) ?_
        refine lv_iadd M.1 M.2.1 dX9_pending_32 ?_
        refine g_iald M B dX9_pending_33 h (fun a6 h => ?_)
        refine lv_iconst (v := (-1)) M.1 M.2.1 dX9_pending_34 (by decide) ?_
        refine lv_icmp_eq (tgt := 42) M.1 M.2.1 dX9_pending_35 (by decide) (fun c7 => ?_) (fun c7 => ?_)
        · have h := h.1 c7
          refine lv_iconst (v := 0) M.1 M.2.1 dX9_pending_42 (by decide) ?_
          exact tX9_pending_43 M hr hlk hRf hRl hRc hRs ih _ _ _ _ _ _ h _ _ _ B (lv_sub hl [0, 1, 2, 3] rfl)
        · have h := h.2 c7
          refine lv_iconst (v := 1) M.1 M.2.1 dX9_pending_38 (by decide) ?_
          refine lv_goto (tgt := 43) M.1 M.2.1 dX9_pending_39 (by decide) ?_
          exact tX9_pending_43 M hr hlk hRf hRl hRc hRs ih _ _ _ _ _ _ h _ _ _ B (lv_sub hl [0, 1, 2, 3] rfl)
set_option maxRecDepth 100000 in
set_option maxHeartbeats 4000000 in
theorem tX9_pending {post : Int32 → Pool → Prop} (M : MC p m c cX9_pending 5 s args RX9) (hr : meth.sig.returnType = (some FieldType.boolean)) (hlk : meth.locks = false) (hRf : 0 ≤ R.frames) (hRl : 0 ≤ R.locals) (hRc : 0 ≤ R.cells) (hRs : 0 ≤ R.slots) : ∀ (v0 : Option Nat) (v1 : Int32) (v2 : Int32) (S : Pool), wX9_pending post v0 v1 v2 S → ∀ (H : Heap) (locs : List Loc) (ls : Array Slot), PB D cy A s S H locs → lv_has ls 5 [(0, va_rf v0), (1, .int v1), (2, .int v2)] → W p l e R s m args below meth c H locs 0 0 (MQ below (va_Qi post (PQ D cy A) A) args s 0 0 A) (F0 m 0 ls []) := by
  intro v0 v1 v2 S h H locs ls B hl
  unfold wX9_pending at h
  refine lv_bipush (v := 48) M.1 M.2.1 dX9_pending_0 (by decide) ?_
  refine lv_istore_n (lv' := [(3, .int 48), (0, va_rf v0), (1, .int v1), (2, .int v2)]) M.1 M.2.1 dX9_pending_2 rfl hl (by decide) (fl_e (fl_k rfl rfl (fl_k rfl rfl (fl_i rfl fl_0)))) (fun ls hl => ?_)
  refine lv_iload_n M.1 M.2.1 dX9_pending_3 rfl (lv_at hl 2 rfl) ?_
  refine lv_iconst (v := 1) M.1 M.2.1 dX9_pending_4 (by decide) ?_
  refine lv_isub M.1 M.2.1 dX9_pending_5 ?_
  refine lv_istore (lv' := [(4, .int (v1 - 1)), (3, .int 48), (0, va_rf v0), (1, .int v1), (2, .int v2)]) M.1 M.2.1 dX9_pending_6 hl (by decide) (fl_e (fl_i rfl (fl_k rfl rfl (fl_k rfl rfl (fl_k rfl rfl fl_0))))) (fun ls hl => ?_)
  obtain ⟨n1, h⟩ := h
  exact tX9_pending_8 M hr hlk hRf hRl hRc hRs n1 _ _ _ _ _ h _ _ _ B (lv_sub hl [2, 4, 1, 0] rfl)
end
set_option maxRecDepth 100000 in
set_option maxHeartbeats 4000000 in
theorem kX9_pending (l : Launch) (D : va_G) (cy : Nat → ClassId) {post : Int32 → Pool → Prop} {v0 : Option Nat} {v1 : Int32} {v2 : Int32} {S : Pool} (h : wX9_pending post v0 v1 v2 S) : MetI l yX9_pending cX9_pending 5 (some FieldType.boolean) rmX9_pending [va_rf v0, .int v1, .int v2] D cy S post := by
  intro sz
  refine Met.ofW (cc := cX9_pending) (maxL := 5) (ret := (some FieldType.boolean)) (by decide) rfl ?_
  intro p e s m args below meth c s₁ B0 hml hv
  obtain ⟨rfl, hpp⟩ := hv
  have hts := atoms_spec (ws := .code yX9_pending cX9_pending 5 (some FieldType.boolean) :: Gw) B0.pre
  obtain rfl : s.heap.size = sz := hpp.1
  have hl := lv_entry [va_rf v0, .int v1, .int v2] (n := 5) (by rw [sl_r, sl_i, sl_i, sl_0]; decide)
  rw [lg_entry_eq]
  rw [la_r, la_i, la_i, la_0] at hl
  exact tX9_pending (l := l) (R := rmX9_pending) ⟨B0.exec, B0.bytes, hml, findClass_of_methodNamed B0.named, fun w hw => hts w (List.mem_cons_of_mem _ hw)⟩ B0.returns B0.notSynchronized (Nat.le_refl _) (Nat.le_refl _) (Nat.le_refl _) (Nat.le_refl _) _ _ _ _ h _ _ _ hpp.pb (lv_sub hl [0, 1, 2] rfl)
-- X9_readStep: LogHuntModel.readStep(I)Z
def wX9_readStep_295 (post : Int32 → Pool → Prop) (v0 : Option Nat) (v1 : Int32) (v2 : Int32) (S : Pool) : Prop := xrc S v0 9 (wX9_isWord (fun a2 S1 => br (a2 = 0) (((1 : Int32) = 0 ∨ (1 : Int32) = 1) ∧ post (1 : Int32) S1) (br (v1 = 0) (xI S1 v0 9 29 fun a14 => xrc S1 v0 9 (wX9_wrong (fun a16 S15 => (a16 = 0 ∨ a16 = 1) ∧ post a16 S15) v0 a14 S1)) (xrc S1 v0 9 (wX9_wordEnd (fun a6 S5 => xpI S5 v0 9 29 a6 fun S7 => xrc S7 v0 9 (wX9_digits (fun a9 S8 => br (a9 = 0) (((0 : Int32) = 0 ∨ (0 : Int32) = 1) ∧ post (0 : Int32) S8) (xR S8 v0 9 18 fun a11 => xI S8 v0 9 31 fun a12 => xsI S8 a11 10 v2 a12 fun S13 => ((1 : Int32) = 0 ∨ (1 : Int32) = 1) ∧ post (1 : Int32) S13)) v0 1 100000 S7)) v0 S1)))) v0 131294808271214 S)
def wX9_readStep_210 (K160 : Option Nat → Int32 → Int32 → Int32 → Pool → Prop) (post : Int32 → Pool → Prop) (v0 : Option Nat) (v1 : Int32) (v2 : Int32) (v3 : Int32) (z0 : Int32) (z1 : Int32) (z2 : Option Nat) (S : Pool) : Prop := xrc S z2 9 (wX9_digits (fun a2 S1 => br (a2 = 0) (((0 : Int32) = 0 ∨ (0 : Int32) = 1) ∧ post (0 : Int32) S1) (xR S1 v0 9 16 fun a4 => xI S1 v0 9 31 fun a5 => xsI S1 a4 10 (((3 : Int32) * v2) + v3) a5 fun S6 => xI S6 v0 9 32 fun a7 => xpI S6 v0 9 32 (a7 ||| ((1 : Int32) <<< (v3 &&& 31))) fun S8 => xrc S8 v0 9 (wX9_fieldHere (fun a10 S9 => K160 v0 v1 v2 a10 S9) v0 S8))) z2 z1 z0 S)
def wX9_readStep_160 (post : Int32 → Pool → Prop) : Nat → Option Nat → Int32 → Int32 → Int32 → Pool → Prop
  | 0 => fun _ _ _ _ _ => False
  | n + 1 => fun v0 v1 v2 v3 S => br (v3 = ((-1))) (xrc S v0 9 (wX9_isWord (fun a3 S2 => br (a3 = 0) (wX9_readStep_295 post v0 v1 v2 S2) (xR S2 v0 9 14 fun a5 => xaI S2 a5 11 v2 fun a6 => br (a6 = 0) (xrc S2 v0 9 (wX9_wordEnd (fun a9 S8 => xpI S8 v0 9 29 a9 fun S10 => xR S10 v0 9 17 fun a11 => xsZ S10 a11 11 v2 1 fun S12 => wX9_readStep_295 post v0 v1 v2 S12) v0 S2)) (xI S2 v0 9 29 fun a13 => xrc S2 v0 9 (wX9_wrong (fun a15 S14 => (a15 = 0 ∨ a15 = 1) ∧ post a15 S14) v0 a13 S2)))) v0 439855772532 S)) (xR S v0 9 16 fun a16 => xaI S a16 10 (((3 : Int32) * v2) + v3) fun a17 => br (a17 = ((-1))) (xrc S v0 9 (wX9_wordEnd (fun a20 S19 => xpI S19 v0 9 29 a20 fun S21 => br (v3 = 2) (wX9_readStep_210 (wX9_readStep_160 post n) post v0 v1 v2 v3 15 0 v0 S21) (wX9_readStep_210 (wX9_readStep_160 post n) post v0 v1 v2 v3 30 0 v0 S21)) v0 S)) (xI S v0 9 29 fun a23 => xrc S v0 9 (wX9_wrong (fun a25 S24 => (a25 = 0 ∨ a25 = 1) ∧ post a25 S24) v0 a23 S)))
def wX9_readStep_125 (post : Int32 → Pool → Prop) (v0 : Option Nat) (v1 : Int32) (v2 : Int32) (S : Pool) : Prop := xrc S v0 9 (wX9_wordEnd (fun a2 S1 => xpI S1 v0 9 29 a2 fun S3 => xrc S3 v0 9 (wX9_digits (fun a5 S4 => br (a5 = 0) (((0 : Int32) = 0 ∨ (0 : Int32) = 1) ∧ post (0 : Int32) S4) (xR S4 v0 9 15 fun a7 => xI S4 v0 9 31 fun a8 => xsI S4 a7 10 v2 a8 fun S9 => xrc S9 v0 9 (wX9_fieldHere (fun a11 S10 => ∃ n1, wX9_readStep_160 post n1 v0 v1 v2 a11 S10) v0 S9))) v0 0 7 S3)) v0 S)
def wX9_readStep_116 (post : Int32 → Pool → Prop) (v0 : Option Nat) (S : Pool) : Prop := xI S v0 9 29 fun a1 => xrc S v0 9 (wX9_wrong (fun a3 S2 => (a3 = 0 ∨ a3 = 1) ∧ post a3 S2) v0 a1 S)
def wX9_readStep_88 (post : Int32 → Pool → Prop) (v0 : Option Nat) (v1 : Int32) (v2 : Int32) (S : Pool) : Prop := xrc S v0 9 (wX9_isWord (fun a2 S1 => br (a2 = 0) (wX9_readStep_116 post v0 S1) (xR S1 v0 9 14 fun a4 => xaI S1 a4 11 v2 fun a5 => br (a5 = 0) (xrc S1 v0 9 (wX9_pending (fun a8 S7 => br (a8 = 0) (wX9_readStep_125 post v0 v1 v2 S7) (wX9_readStep_116 post v0 S7)) v0 v1 1 S1)) (wX9_readStep_125 post v0 v1 v2 S1))) v0 1802071652 S)
def wX9_readStep_7 (post : Int32 → Pool → Prop) : Nat → Option Nat → Int32 → Int32 → Int32 → Pool → Prop
  | 0 => fun _ _ _ _ _ => False
  | n + 1 => fun v0 v1 v2 v3 S => br (3 ≤ v3) (xR S v0 9 17 fun a2 => xsZ S a2 11 v2 0 fun S3 => xR S3 v0 9 18 fun a4 => xsI S3 a4 10 v2 ((-1)) fun S5 => xR S5 v0 9 14 fun a6 => xsZ S5 a6 11 v2 0 fun S7 => xrc S7 v0 9 (wX9_isWord (fun a9 S8 => br (a9 = 0) (wX9_readStep_88 post v0 v1 v2 S8) (br (v1 = 0) (xI S8 v0 9 29 fun a17 => xrc S8 v0 9 (wX9_wrong (fun a19 S18 => (a19 = 0 ∨ a19 = 1) ∧ post a19 S18) v0 a17 S8)) (xrc S8 v0 9 (wX9_wordEnd (fun a13 S12 => xpI S12 v0 9 29 a13 fun S14 => xR S14 v0 9 14 fun a15 => xsZ S14 a15 11 v2 1 fun S16 => wX9_readStep_88 post v0 v1 v2 S16) v0 S8)))) v0 7237492 S7)) (xR S v0 9 16 fun a20 => xsI S a20 10 (((3 : Int32) * v2) + v3) ((-1)) fun S21 => wX9_readStep_7 post n v0 v1 v2 (v3 + 1) S21)
def wX9_readStep (post : Int32 → Pool → Prop) (v0 : Option Nat) (v1 : Int32) (S : Pool) : Prop := ∃ n1, wX9_readStep_7 post n1 v0 v1 ((48 : Int32) + v1) 0 S
def rmX9_readStep : Room := { frames := 3, cells := 0, slots := 0, locals := 68 }
section
variable {p : Program} {l : Launch} {e : Env} {R : Room} {s : State} {m : MethodId} {args : Array Value} {below : List Frame} {meth : Method} {c : Code} {D : va_G} {cy : Nat → ClassId} {A : Nat → Prop}
set_option maxRecDepth 100000 in
set_option maxHeartbeats 4000000 in
theorem tX9_readStep_295 {post : Int32 → Pool → Prop} (M : MC p m c cX9_readStep 4 s args RX9) (hr : meth.sig.returnType = (some FieldType.boolean)) (hlk : meth.locks = false) (hRf : 3 ≤ R.frames) (hRl : 68 ≤ R.locals) (hRc : 0 ≤ R.cells) (hRs : 0 ≤ R.slots) : ∀ (v0 : Option Nat) (v1 : Int32) (v2 : Int32) (S : Pool), wX9_readStep_295 post v0 v1 v2 S → ∀ (H : Heap) (locs : List Loc) (ls : Array Slot), PB D cy A s S H locs → lv_has ls 4 [(0, va_rf v0), (1, .int v1), (2, .int v2)] → W p l e R s m args below meth c H locs 0 0 (MQ below (va_Qi post (PQ D cy A) A) args s 0 0 A) (F0 m 295 ls []) := by
  intro v0 v1 v2 S h H locs ls B hl
  unfold wX9_readStep_295 at h
  refine g_aload_n M dX9_readStep_295 rfl (lv_at hl 0 rfl) ?_
  refine lv_ldc2 (v := 131294808271214) M.1 M.2.1 M.2.2.2.1 (M.2.2.2.2 _ wkX9_183) dX9_readStep_296 ?_
  obtain ⟨o1, e1, hL1, hK1, h⟩ := h
  refine g_calli (k1 := 0) (k2 := 0) B (g_runV (n := 1) (As := [.long 131294808271214]) (rm := rmX9_isWord) M B e1 (kX9_isWord (v0 := v0) (v1 := 131294808271214) l D cy h _) wmX9_144 wiX9_isWord wsX9_isWord wnX9 wcdX9_isWord ⟨rfl, by decide, by decide, by decide +kernel⟩ ⟨Nat.le_trans (by decide) hRf, Nat.le_trans (by decide) hRl⟩ ⟨Nat.le_trans (by decide) hRc, Nat.le_trans (by decide) hRs⟩ hL1 hK1 (by decide) rfl rfl rfl hl.1 rfl ct_0 (by decide) dX9_readStep_299) (by decide) (by decide) (fun a2 S1 H locs h B => ?_)
  refine lv_if_eq (tgt := 348) M.1 M.2.1 dX9_readStep_302 (by decide) (fun c3 => ?_) (fun c3 => ?_)
  · have h := h.1 c3
    refine lv_iconst (v := 1) M.1 M.2.1 dX9_readStep_348 (by decide) ?_
    exact g_zret M B hr hlk h (by decide) (by decide) dX9_readStep_349
  · have h := h.2 c3
    refine lv_iload_n M.1 M.2.1 dX9_readStep_305 rfl (lv_at hl 1 rfl) ?_
    refine lv_if_ne (tgt := 318) M.1 M.2.1 dX9_readStep_306 (by decide) (fun c4 => ?_) (fun c4 => ?_)
    · have h := h.2 c4
      refine g_aload_n M dX9_readStep_318 rfl (lv_at hl 0 rfl) ?_
      refine g_aload_n M dX9_readStep_319 rfl (lv_at hl 0 rfl) ?_
      obtain ⟨o1, e1, hL1, hK1, h⟩ := h
      refine g_calli (k1 := 0) (k2 := 0) B (g_runV (n := 0) (As := []) (rm := rmX9_wordEnd) M B e1 (kX9_wordEnd (v0 := v0) l D cy h _) wmX9_141 wiX9_wordEnd wsX9_wordEnd wnX9 wcdX9_wordEnd ⟨rfl, by decide, by decide, by decide +kernel⟩ ⟨Nat.le_trans (by decide) hRf, Nat.le_trans (by decide) hRl⟩ ⟨Nat.le_trans (by decide) hRc, Nat.le_trans (by decide) hRs⟩ hL1 hK1 (by decide) rfl rfl rfl hl.1 rfl (ct_r ct_0) (by decide) dX9_readStep_320) (by decide) (by decide) (fun a6 S5 H locs h B => ?_)
      refine gpX9_131 M B dX9_readStep_323 h (fun S7 H locs h B => ?_)
      refine g_aload_n M dX9_readStep_326 rfl (lv_at hl 0 rfl) ?_
      refine lv_iconst (v := 1) M.1 M.2.1 dX9_readStep_327 (by decide) ?_
      refine lv_ldc (v := 100000) M.1 M.2.1 M.2.2.2.1 (M.2.2.2.2 _ wkX9_115) dX9_readStep_328 ?_
      obtain ⟨o1, e1, hL1, hK1, h⟩ := h
      refine g_calli (k1 := 0) (k2 := 0) B (g_runV (n := 2) (As := [.int 1, .int 100000]) (rm := rmX9_digits) M B e1 (kX9_digits (v0 := v0) (v1 := 1) (v2 := 100000) l D cy h _) wmX9_177 wiX9_digits wsX9_digits wnX9 wcdX9_digits ⟨rfl, by decide, by decide, by decide +kernel⟩ ⟨Nat.le_trans (by decide) hRf, Nat.le_trans (by decide) hRl⟩ ⟨Nat.le_trans (by decide) hRc, Nat.le_trans (by decide) hRs⟩ hL1 hK1 (by decide) rfl rfl rfl hl.1 rfl ct_0 (by decide) dX9_readStep_330) (by decide) (by decide) (fun a9 S8 H locs h B => ?_)
      refine lv_if_ne (tgt := 338) M.1 M.2.1 dX9_readStep_333 (by decide) (fun c10 => ?_) (fun c10 => ?_)
      · have h := h.2 c10
        refine g_aload_n M dX9_readStep_338 rfl (lv_at hl 0 rfl) ?_
        refine gfX9_51 M B dX9_readStep_339 h (fun a11 h => ?_)
        refine lv_iload_n M.1 M.2.1 dX9_readStep_342 rfl (lv_at hl 2 rfl) ?_
        refine g_aload_n M dX9_readStep_343 rfl (lv_at hl 0 rfl) ?_
        refine gfX9_154 M B dX9_readStep_344 h (fun a12 h => ?_)
        refine g_iast M B dX9_readStep_347 h (fun S13 H locs h B => ?_)
        refine lv_iconst (v := 1) M.1 M.2.1 dX9_readStep_348 (by decide) ?_
        exact g_zret M B hr hlk h (by decide) (by decide) dX9_readStep_349
      · have h := h.1 c10
        refine lv_iconst (v := 0) M.1 M.2.1 dX9_readStep_336 (by decide) ?_
        exact g_zret M B hr hlk h (by decide) (by decide) dX9_readStep_337
    · have h := h.1 c4
      refine g_aload_n M dX9_readStep_309 rfl (lv_at hl 0 rfl) ?_
      refine g_aload_n M dX9_readStep_310 rfl (lv_at hl 0 rfl) ?_
      refine gfX9_131 M B dX9_readStep_311 h (fun a14 h => ?_)
      obtain ⟨o1, e1, hL1, hK1, h⟩ := h
      refine g_calli (k1 := 0) (k2 := 0) B (g_runV (n := 1) (As := [.int a14]) (rm := rmX9_wrong) M B e1 (kX9_wrong (v0 := v0) (v1 := a14) l D cy h _) wmX9_151 wiX9_wrong wsX9_wrong wnX9 wcdX9_wrong ⟨rfl, by decide, by decide, by decide +kernel⟩ ⟨Nat.le_trans (by decide) hRf, Nat.le_trans (by decide) hRl⟩ ⟨Nat.le_trans (by decide) hRc, Nat.le_trans (by decide) hRs⟩ hL1 hK1 (by decide) rfl rfl rfl hl.1 rfl ct_0 (by decide) dX9_readStep_314) (by decide) (by decide) (fun a16 S15 H locs h B => ?_)
      exact g_zret M B hr hlk h (by decide) (by decide) dX9_readStep_317
set_option maxRecDepth 100000 in
set_option maxHeartbeats 4000000 in
theorem tX9_readStep_210 {K160 : Option Nat → Int32 → Int32 → Int32 → Pool → Prop} {post : Int32 → Pool → Prop} (M : MC p m c cX9_readStep 4 s args RX9) (hr : meth.sig.returnType = (some FieldType.boolean)) (hlk : meth.locks = false) (hRf : 3 ≤ R.frames) (hRl : 68 ≤ R.locals) (hRc : 0 ≤ R.cells) (hRs : 0 ≤ R.slots) (hK160 : ∀ (v0 : Option Nat) (v1 : Int32) (v2 : Int32) (v3 : Int32) (S : Pool), K160 v0 v1 v2 v3 S → ∀ (H : Heap) (locs : List Loc) (ls : Array Slot), PB D cy A s S H locs → lv_has ls 4 [(0, va_rf v0), (1, .int v1), (2, .int v2), (3, .int v3)] → W p l e R s m args below meth c H locs 0 0 (MQ below (va_Qi post (PQ D cy A) A) args s 0 0 A) (F0 m 160 ls [])) : ∀ (v0 : Option Nat) (v1 : Int32) (v2 : Int32) (v3 : Int32) (z0 : Int32) (z1 : Int32) (z2 : Option Nat) (S : Pool), wX9_readStep_210 K160 post v0 v1 v2 v3 z0 z1 z2 S → ∀ (H : Heap) (locs : List Loc) (ls : Array Slot), PB D cy A s S H locs → lv_has ls 4 [(0, va_rf v0), (1, .int v1), (2, .int v2), (3, .int v3)] → W p l e R s m args below meth c H locs 0 0 (MQ below (va_Qi post (PQ D cy A) A) args s 0 0 A) (F0 m 210 ls [.int z0, .int z1, va_rf z2]) := by
  intro v0 v1 v2 v3 z0 z1 z2 S h H locs ls B hl
  unfold wX9_readStep_210 at h
  obtain ⟨o1, e1, hL1, hK1, h⟩ := h
  refine g_calli (k1 := 0) (k2 := 0) B (g_runV (n := 2) (As := [.int z1, .int z0]) (rm := rmX9_digits) M B e1 (kX9_digits (v0 := z2) (v1 := z1) (v2 := z0) l D cy h _) wmX9_177 wiX9_digits wsX9_digits wnX9 wcdX9_digits ⟨rfl, by decide, by decide, by decide +kernel⟩ ⟨Nat.le_trans (by decide) hRf, Nat.le_trans (by decide) hRl⟩ ⟨Nat.le_trans (by decide) hRc, Nat.le_trans (by decide) hRs⟩ hL1 hK1 (by decide) rfl rfl rfl hl.1 rfl ct_0 (by decide) dX9_readStep_210) (by decide) (by decide) (fun a2 S1 H locs h B => ?_)
  refine lv_if_ne (tgt := 218) M.1 M.2.1 dX9_readStep_213 (by decide) (fun c3 => ?_) (fun c3 => ?_)
  · have h := h.2 c3
    refine g_aload_n M dX9_readStep_218 rfl (lv_at hl 0 rfl) ?_
    refine gfX9_45 M B dX9_readStep_219 h (fun a4 h => ?_)
    refine lv_iconst (v := 3) M.1 M.2.1 dX9_readStep_222 (by decide) ?_
    refine lv_iload_n M.1 M.2.1 dX9_readStep_223 rfl (lv_at hl 2 rfl) ?_
    refine lv_imul M.1 M.2.1 dX9_readStep_224 ?_
    refine lv_iload_n M.1 M.2.1 dX9_readStep_225 rfl (lv_at hl 3 rfl) ?_
    refine lv_iadd M.1 M.2.1 dX9_readStep_226 ?_
    refine g_aload_n M dX9_readStep_227 rfl (lv_at hl 0 rfl) ?_
    refine gfX9_154 M B dX9_readStep_228 h (fun a5 h => ?_)
    refine g_iast M B dX9_readStep_231 h (fun S6 H locs h B => ?_)
    refine g_aload_n M dX9_readStep_232 rfl (lv_at hl 0 rfl) ?_
    refine lv_dup M.1 M.2.1 dX9_readStep_233 (rf_cat _) ?_
    refine gfX9_166 M B dX9_readStep_234 h (fun a7 h => ?_)
    refine lv_iconst (v := 1) M.1 M.2.1 dX9_readStep_237 (by decide) ?_
    refine lv_iload_n M.1 M.2.1 dX9_readStep_238 rfl (lv_at hl 3 rfl) ?_
    refine lv_ishl M.1 M.2.1 dX9_readStep_239 ?_
    refine lv_ior M.1 M.2.1 dX9_readStep_240 ?_
    refine gpX9_166 M B dX9_readStep_241 h (fun S8 H locs h B => ?_)
    refine g_aload_n M dX9_readStep_244 rfl (lv_at hl 0 rfl) ?_
    obtain ⟨o1, e1, hL1, hK1, h⟩ := h
    refine g_calli (k1 := 0) (k2 := 0) B (g_runV (n := 0) (As := []) (rm := rmX9_fieldHere) M B e1 (kX9_fieldHere (v0 := v0) l D cy h _) wmX9_163 wiX9_fieldHere wsX9_fieldHere wnX9 wcdX9_fieldHere ⟨rfl, by decide, by decide, by decide +kernel⟩ ⟨Nat.le_trans (by decide) hRf, Nat.le_trans (by decide) hRl⟩ ⟨Nat.le_trans (by decide) hRc, Nat.le_trans (by decide) hRs⟩ hL1 hK1 (by decide) rfl rfl rfl hl.1 rfl ct_0 (by decide) dX9_readStep_245) (by decide) (by decide) (fun a10 S9 H locs h B => ?_)
    refine lv_istore_n (lv' := [(3, .int a10), (0, va_rf v0), (1, .int v1), (2, .int v2)]) M.1 M.2.1 dX9_readStep_248 rfl hl (by decide) (fl_e (fl_k rfl rfl (fl_k rfl rfl (fl_i rfl (fl_d rfl fl_0))))) (fun ls hl => ?_)
    refine lv_goto (tgt := 160) M.1 M.2.1 dX9_readStep_249 (by decide) ?_
    exact hK160 _ _ _ _ _ h _ _ _ B (lv_sub hl [1, 2, 3, 0] rfl)
  · have h := h.1 c3
    refine lv_iconst (v := 0) M.1 M.2.1 dX9_readStep_216 (by decide) ?_
    exact g_zret M B hr hlk h (by decide) (by decide) dX9_readStep_217
set_option maxRecDepth 100000 in
set_option maxHeartbeats 4000000 in
theorem tX9_readStep_160 {post : Int32 → Pool → Prop} (M : MC p m c cX9_readStep 4 s args RX9) (hr : meth.sig.returnType = (some FieldType.boolean)) (hlk : meth.locks = false) (hRf : 3 ≤ R.frames) (hRl : 68 ≤ R.locals) (hRc : 0 ≤ R.cells) (hRs : 0 ≤ R.slots) : ∀ (n : Nat) (v0 : Option Nat) (v1 : Int32) (v2 : Int32) (v3 : Int32) (S : Pool), wX9_readStep_160 post n v0 v1 v2 v3 S → ∀ (H : Heap) (locs : List Loc) (ls : Array Slot), PB D cy A s S H locs → lv_has ls 4 [(0, va_rf v0), (1, .int v1), (2, .int v2), (3, .int v3)] → W p l e R s m args below meth c H locs 0 0 (MQ below (va_Qi post (PQ D cy A) A) args s 0 0 A) (F0 m 160 ls []) := by
  intro n
  induction n with
  | zero => intro v0 v1 v2 v3 S h; exact False.elim h
  | succ n ih =>
    intro v0 v1 v2 v3 S h H locs ls B hl
    unfold wX9_readStep_160 at h
    refine lv_iload_n M.1 M.2.1 dX9_readStep_160 rfl (lv_at hl 3 rfl) ?_
    refine lv_iconst (v := (-1)) M.1 M.2.1 dX9_readStep_161 (by decide) ?_
    refine lv_icmp_eq (tgt := 252) M.1 M.2.1 dX9_readStep_162 (by decide) (fun c1 => ?_) (fun c1 => ?_)
    · have h := h.1 c1
      refine g_aload_n M dX9_readStep_252 rfl (lv_at hl 0 rfl) ?_
      refine lv_ldc2 (v := 439855772532) M.1 M.2.1 M.2.2.2.1 (M.2.2.2.2 _ wkX9_181) dX9_readStep_253 ?_
      obtain ⟨o1, e1, hL1, hK1, h⟩ := h
      refine g_calli (k1 := 0) (k2 := 0) B (g_runV (n := 1) (As := [.long 439855772532]) (rm := rmX9_isWord) M B e1 (kX9_isWord (v0 := v0) (v1 := 439855772532) l D cy h _) wmX9_144 wiX9_isWord wsX9_isWord wnX9 wcdX9_isWord ⟨rfl, by decide, by decide, by decide +kernel⟩ ⟨Nat.le_trans (by decide) hRf, Nat.le_trans (by decide) hRl⟩ ⟨Nat.le_trans (by decide) hRc, Nat.le_trans (by decide) hRs⟩ hL1 hK1 (by decide) rfl rfl rfl hl.1 rfl ct_0 (by decide) dX9_readStep_256) (by decide) (by decide) (fun a3 S2 H locs h B => ?_)
      refine lv_if_eq (tgt := 295) M.1 M.2.1 dX9_readStep_259 (by decide) (fun c4 => ?_) (fun c4 => ?_)
      · have h := h.1 c4
        exact tX9_readStep_295 M hr hlk hRf hRl hRc hRs _ _ _ _ h _ _ _ B (lv_sub hl [0, 1, 2] rfl)
      · have h := h.2 c4
        refine g_aload_n M dX9_readStep_262 rfl (lv_at hl 0 rfl) ?_
        refine gfX9_38 M B dX9_readStep_263 h (fun a5 h => ?_)
        refine lv_iload_n M.1 M.2.1 dX9_readStep_266 rfl (lv_at hl 2 rfl) ?_
        refine g_zald M B dX9_readStep_267 h (fun a6 h => ?_)
        refine lv_if_eq (tgt := 280) M.1 M.2.1 dX9_readStep_268 (by decide) (fun c7 => ?_) (fun c7 => ?_)
        · have h := h.1 c7
          refine g_aload_n M dX9_readStep_280 rfl (lv_at hl 0 rfl) ?_
          refine g_aload_n M dX9_readStep_281 rfl (lv_at hl 0 rfl) ?_
          obtain ⟨o1, e1, hL1, hK1, h⟩ := h
          refine g_calli (k1 := 0) (k2 := 0) B (g_runV (n := 0) (As := []) (rm := rmX9_wordEnd) M B e1 (kX9_wordEnd (v0 := v0) l D cy h _) wmX9_141 wiX9_wordEnd wsX9_wordEnd wnX9 wcdX9_wordEnd ⟨rfl, by decide, by decide, by decide +kernel⟩ ⟨Nat.le_trans (by decide) hRf, Nat.le_trans (by decide) hRl⟩ ⟨Nat.le_trans (by decide) hRc, Nat.le_trans (by decide) hRs⟩ hL1 hK1 (by decide) rfl rfl rfl hl.1 rfl (ct_r ct_0) (by decide) dX9_readStep_282) (by decide) (by decide) (fun a9 S8 H locs h B => ?_)
          refine gpX9_131 M B dX9_readStep_285 h (fun S10 H locs h B => ?_)
          refine g_aload_n M dX9_readStep_288 rfl (lv_at hl 0 rfl) ?_
          refine gfX9_48 M B dX9_readStep_289 h (fun a11 h => ?_)
          refine lv_iload_n M.1 M.2.1 dX9_readStep_292 rfl (lv_at hl 2 rfl) ?_
          refine lv_iconst (v := 1) M.1 M.2.1 dX9_readStep_293 (by decide) ?_
          refine g_zast M B dX9_readStep_294 h (fun S12 H locs h B => ?_)
          exact tX9_readStep_295 M hr hlk hRf hRl hRc hRs _ _ _ _ h _ _ _ B (lv_sub hl [0, 1, 2] rfl)
        · have h := h.2 c7
          refine g_aload_n M dX9_readStep_271 rfl (lv_at hl 0 rfl) ?_
          refine g_aload_n M dX9_readStep_272 rfl (lv_at hl 0 rfl) ?_
          refine gfX9_131 M B dX9_readStep_273 h (fun a13 h => ?_)
          obtain ⟨o1, e1, hL1, hK1, h⟩ := h
          refine g_calli (k1 := 0) (k2 := 0) B (g_runV (n := 1) (As := [.int a13]) (rm := rmX9_wrong) M B e1 (kX9_wrong (v0 := v0) (v1 := a13) l D cy h _) wmX9_151 wiX9_wrong wsX9_wrong wnX9 wcdX9_wrong ⟨rfl, by decide, by decide, by decide +kernel⟩ ⟨Nat.le_trans (by decide) hRf, Nat.le_trans (by decide) hRl⟩ ⟨Nat.le_trans (by decide) hRc, Nat.le_trans (by decide) hRs⟩ hL1 hK1 (by decide) rfl rfl rfl hl.1 rfl ct_0 (by decide) dX9_readStep_276) (by decide) (by decide) (fun a15 S14 H locs h B => ?_)
          exact g_zret M B hr hlk h (by decide) (by decide) dX9_readStep_279
    · have h := h.2 c1
      refine g_aload_n M dX9_readStep_165 rfl (lv_at hl 0 rfl) ?_
      refine gfX9_45 M B dX9_readStep_166 h (fun a16 h => ?_)
      refine lv_iconst (v := 3) M.1 M.2.1 dX9_readStep_169 (by decide) ?_
      refine lv_iload_n M.1 M.2.1 dX9_readStep_170 rfl (lv_at hl 2 rfl) ?_
      refine lv_imul M.1 M.2.1 dX9_readStep_171 ?_
      refine lv_iload_n M.1 M.2.1 dX9_readStep_172 rfl (lv_at hl 3 rfl) ?_
      refine lv_iadd M.1 M.2.1 dX9_readStep_173 ?_
      refine g_iald M B dX9_readStep_174 h (fun a17 h => ?_)
      refine lv_iconst (v := (-1)) M.1 M.2.1 dX9_readStep_175 (by decide) ?_
      refine lv_icmp_eq (tgt := 188) M.1 M.2.1 dX9_readStep_176 (by decide) (fun c18 => ?_) (fun c18 => ?_)
      · have h := h.1 c18
        refine g_aload_n M dX9_readStep_188 rfl (lv_at hl 0 rfl) ?_
        refine g_aload_n M dX9_readStep_189 rfl (lv_at hl 0 rfl) ?_
        obtain ⟨o1, e1, hL1, hK1, h⟩ := h
        refine g_calli (k1 := 0) (k2 := 0) B (g_runV (n := 0) (As := []) (rm := rmX9_wordEnd) M B e1 (kX9_wordEnd (v0 := v0) l D cy h _) wmX9_141 wiX9_wordEnd wsX9_wordEnd wnX9 wcdX9_wordEnd ⟨rfl, by decide, by decide, by decide +kernel⟩ ⟨Nat.le_trans (by decide) hRf, Nat.le_trans (by decide) hRl⟩ ⟨Nat.le_trans (by decide) hRc, Nat.le_trans (by decide) hRs⟩ hL1 hK1 (by decide) rfl rfl rfl hl.1 rfl (ct_r ct_0) (by decide) dX9_readStep_190) (by decide) (by decide) (fun a20 S19 H locs h B => ?_)
        refine gpX9_131 M B dX9_readStep_193 h (fun S21 H locs h B => ?_)
        refine g_aload_n M dX9_readStep_196 rfl (lv_at hl 0 rfl) ?_
        refine lv_iconst (v := 0) M.1 M.2.1 dX9_readStep_197 (by decide) ?_
        refine lv_iload_n M.1 M.2.1 dX9_readStep_198 rfl (lv_at hl 3 rfl) ?_
        refine lv_iconst (v := 2) M.1 M.2.1 dX9_readStep_199 (by decide) ?_
        refine lv_icmp_ne (tgt := 208) M.1 M.2.1 dX9_readStep_200 (by decide) (fun c22 => ?_) (fun c22 => ?_)
        · have h := h.2 c22
          refine lv_bipush (v := 30) M.1 M.2.1 dX9_readStep_208 (by decide) ?_
          exact tX9_readStep_210 M hr hlk hRf hRl hRc hRs ih _ _ _ _ _ _ _ _ h _ _ _ B (lv_sub hl [0, 1, 2, 3] rfl)
        · have h := h.1 c22
          refine lv_bipush (v := 15) M.1 M.2.1 dX9_readStep_203 (by decide) ?_
          refine lv_goto (tgt := 210) M.1 M.2.1 dX9_readStep_205 (by decide) ?_
          exact tX9_readStep_210 M hr hlk hRf hRl hRc hRs ih _ _ _ _ _ _ _ _ h _ _ _ B (lv_sub hl [0, 1, 2, 3] rfl)
      · have h := h.2 c18
        refine g_aload_n M dX9_readStep_179 rfl (lv_at hl 0 rfl) ?_
        refine g_aload_n M dX9_readStep_180 rfl (lv_at hl 0 rfl) ?_
        refine gfX9_131 M B dX9_readStep_181 h (fun a23 h => ?_)
        obtain ⟨o1, e1, hL1, hK1, h⟩ := h
        refine g_calli (k1 := 0) (k2 := 0) B (g_runV (n := 1) (As := [.int a23]) (rm := rmX9_wrong) M B e1 (kX9_wrong (v0 := v0) (v1 := a23) l D cy h _) wmX9_151 wiX9_wrong wsX9_wrong wnX9 wcdX9_wrong ⟨rfl, by decide, by decide, by decide +kernel⟩ ⟨Nat.le_trans (by decide) hRf, Nat.le_trans (by decide) hRl⟩ ⟨Nat.le_trans (by decide) hRc, Nat.le_trans (by decide) hRs⟩ hL1 hK1 (by decide) rfl rfl rfl hl.1 rfl ct_0 (by decide) dX9_readStep_184) (by decide) (by decide) (fun a25 S24 H locs h B => ?_)
        exact g_zret M B hr hlk h (by decide) (by decide) dX9_readStep_187
set_option maxRecDepth 100000 in
set_option maxHeartbeats 4000000 in
theorem tX9_readStep_125 {post : Int32 → Pool → Prop} (M : MC p m c cX9_readStep 4 s args RX9) (hr : meth.sig.returnType = (some FieldType.boolean)) (hlk : meth.locks = false) (hRf : 3 ≤ R.frames) (hRl : 68 ≤ R.locals) (hRc : 0 ≤ R.cells) (hRs : 0 ≤ R.slots) : ∀ (v0 : Option Nat) (v1 : Int32) (v2 : Int32) (S : Pool), wX9_readStep_125 post v0 v1 v2 S → ∀ (H : Heap) (locs : List Loc) (ls : Array Slot), PB D cy A s S H locs → lv_has ls 4 [(0, va_rf v0), (1, .int v1), (2, .int v2)] → W p l e R s m args below meth c H locs 0 0 (MQ below (va_Qi post (PQ D cy A) A) args s 0 0 A) (F0 m 125 ls []) := by
  intro v0 v1 v2 S h H locs ls B hl
  unfold wX9_readStep_125 at h
  refine g_aload_n M dX9_readStep_125 rfl (lv_at hl 0 rfl) ?_
  refine g_aload_n M dX9_readStep_126 rfl (lv_at hl 0 rfl) ?_
  obtain ⟨o1, e1, hL1, hK1, h⟩ := h
  refine g_calli (k1 := 0) (k2 := 0) B (g_runV (n := 0) (As := []) (rm := rmX9_wordEnd) M B e1 (kX9_wordEnd (v0 := v0) l D cy h _) wmX9_141 wiX9_wordEnd wsX9_wordEnd wnX9 wcdX9_wordEnd ⟨rfl, by decide, by decide, by decide +kernel⟩ ⟨Nat.le_trans (by decide) hRf, Nat.le_trans (by decide) hRl⟩ ⟨Nat.le_trans (by decide) hRc, Nat.le_trans (by decide) hRs⟩ hL1 hK1 (by decide) rfl rfl rfl hl.1 rfl (ct_r ct_0) (by decide) dX9_readStep_127) (by decide) (by decide) (fun a2 S1 H locs h B => ?_)
  refine gpX9_131 M B dX9_readStep_130 h (fun S3 H locs h B => ?_)
  refine g_aload_n M dX9_readStep_133 rfl (lv_at hl 0 rfl) ?_
  refine lv_iconst (v := 0) M.1 M.2.1 dX9_readStep_134 (by decide) ?_
  refine lv_bipush (v := 7) M.1 M.2.1 dX9_readStep_135 (by decide) ?_
  obtain ⟨o1, e1, hL1, hK1, h⟩ := h
  refine g_calli (k1 := 0) (k2 := 0) B (g_runV (n := 2) (As := [.int 0, .int 7]) (rm := rmX9_digits) M B e1 (kX9_digits (v0 := v0) (v1 := 0) (v2 := 7) l D cy h _) wmX9_177 wiX9_digits wsX9_digits wnX9 wcdX9_digits ⟨rfl, by decide, by decide, by decide +kernel⟩ ⟨Nat.le_trans (by decide) hRf, Nat.le_trans (by decide) hRl⟩ ⟨Nat.le_trans (by decide) hRc, Nat.le_trans (by decide) hRs⟩ hL1 hK1 (by decide) rfl rfl rfl hl.1 rfl ct_0 (by decide) dX9_readStep_137) (by decide) (by decide) (fun a5 S4 H locs h B => ?_)
  refine lv_if_ne (tgt := 145) M.1 M.2.1 dX9_readStep_140 (by decide) (fun c6 => ?_) (fun c6 => ?_)
  · have h := h.2 c6
    refine g_aload_n M dX9_readStep_145 rfl (lv_at hl 0 rfl) ?_
    refine gfX9_42 M B dX9_readStep_146 h (fun a7 h => ?_)
    refine lv_iload_n M.1 M.2.1 dX9_readStep_149 rfl (lv_at hl 2 rfl) ?_
    refine g_aload_n M dX9_readStep_150 rfl (lv_at hl 0 rfl) ?_
    refine gfX9_154 M B dX9_readStep_151 h (fun a8 h => ?_)
    refine g_iast M B dX9_readStep_154 h (fun S9 H locs h B => ?_)
    refine g_aload_n M dX9_readStep_155 rfl (lv_at hl 0 rfl) ?_
    obtain ⟨o1, e1, hL1, hK1, h⟩ := h
    refine g_calli (k1 := 0) (k2 := 0) B (g_runV (n := 0) (As := []) (rm := rmX9_fieldHere) M B e1 (kX9_fieldHere (v0 := v0) l D cy h _) wmX9_163 wiX9_fieldHere wsX9_fieldHere wnX9 wcdX9_fieldHere ⟨rfl, by decide, by decide, by decide +kernel⟩ ⟨Nat.le_trans (by decide) hRf, Nat.le_trans (by decide) hRl⟩ ⟨Nat.le_trans (by decide) hRc, Nat.le_trans (by decide) hRs⟩ hL1 hK1 (by decide) rfl rfl rfl hl.1 rfl ct_0 (by decide) dX9_readStep_156) (by decide) (by decide) (fun a11 S10 H locs h B => ?_)
    refine lv_istore_n (lv' := [(3, .int a11), (0, va_rf v0), (1, .int v1), (2, .int v2)]) M.1 M.2.1 dX9_readStep_159 rfl hl (by decide) (fl_e (fl_k rfl rfl (fl_k rfl rfl (fl_i rfl fl_0)))) (fun ls hl => ?_)
    obtain ⟨n1, h⟩ := h
    exact tX9_readStep_160 M hr hlk hRf hRl hRc hRs n1 _ _ _ _ _ h _ _ _ B (lv_sub hl [1, 2, 3, 0] rfl)
  · have h := h.1 c6
    refine lv_iconst (v := 0) M.1 M.2.1 dX9_readStep_143 (by decide) ?_
    exact g_zret M B hr hlk h (by decide) (by decide) dX9_readStep_144
set_option maxRecDepth 100000 in
set_option maxHeartbeats 4000000 in
theorem tX9_readStep_116 {post : Int32 → Pool → Prop} (M : MC p m c cX9_readStep 4 s args RX9) (hr : meth.sig.returnType = (some FieldType.boolean)) (hlk : meth.locks = false) (hRf : 3 ≤ R.frames) (hRl : 68 ≤ R.locals) (hRc : 0 ≤ R.cells) (hRs : 0 ≤ R.slots) : ∀ (v0 : Option Nat) (S : Pool), wX9_readStep_116 post v0 S → ∀ (H : Heap) (locs : List Loc) (ls : Array Slot), PB D cy A s S H locs → lv_has ls 4 [(0, va_rf v0)] → W p l e R s m args below meth c H locs 0 0 (MQ below (va_Qi post (PQ D cy A) A) args s 0 0 A) (F0 m 116 ls []) := by
  intro v0 S h H locs ls B hl
  unfold wX9_readStep_116 at h
  refine g_aload_n M dX9_readStep_116 rfl (lv_at hl 0 rfl) ?_
  refine g_aload_n M dX9_readStep_117 rfl (lv_at hl 0 rfl) ?_
  refine gfX9_131 M B dX9_readStep_118 h (fun a1 h => ?_)
  obtain ⟨o1, e1, hL1, hK1, h⟩ := h
  refine g_calli (k1 := 0) (k2 := 0) B (g_runV (n := 1) (As := [.int a1]) (rm := rmX9_wrong) M B e1 (kX9_wrong (v0 := v0) (v1 := a1) l D cy h _) wmX9_151 wiX9_wrong wsX9_wrong wnX9 wcdX9_wrong ⟨rfl, by decide, by decide, by decide +kernel⟩ ⟨Nat.le_trans (by decide) hRf, Nat.le_trans (by decide) hRl⟩ ⟨Nat.le_trans (by decide) hRc, Nat.le_trans (by decide) hRs⟩ hL1 hK1 (by decide) rfl rfl rfl hl.1 rfl ct_0 (by decide) dX9_readStep_121) (by decide) (by decide) (fun a3 S2 H locs h B => ?_)
  exact g_zret M B hr hlk h (by decide) (by decide) dX9_readStep_124
set_option maxRecDepth 100000 in
set_option maxHeartbeats 4000000 in
theorem tX9_readStep_88 {post : Int32 → Pool → Prop} (M : MC p m c cX9_readStep 4 s args RX9) (hr : meth.sig.returnType = (some FieldType.boolean)) (hlk : meth.locks = false) (hRf : 3 ≤ R.frames) (hRl : 68 ≤ R.locals) (hRc : 0 ≤ R.cells) (hRs : 0 ≤ R.slots) : ∀ (v0 : Option Nat) (v1 : Int32) (v2 : Int32) (S : Pool), wX9_readStep_88 post v0 v1 v2 S → ∀ (H : Heap) (locs : List Loc) (ls : Array Slot), PB D cy A s S H locs → lv_has ls 4 [(0, va_rf v0), (1, .int v1), (2, .int v2)] → W p l e R s m args below meth c H locs 0 0 (MQ below (va_Qi post (PQ D cy A) A) args s 0 0 A) (F0 m 88 ls []) := by
  intro v0 v1 v2 S h H locs ls B hl
  unfold wX9_readStep_88 at h
  refine g_aload_n M dX9_readStep_88 rfl (lv_at hl 0 rfl) ?_
  refine lv_ldc2 (v := 1802071652) M.1 M.2.1 M.2.2.2.1 (M.2.2.2.2 _ wkX9_171) dX9_readStep_89 ?_
  obtain ⟨o1, e1, hL1, hK1, h⟩ := h
  refine g_calli (k1 := 0) (k2 := 0) B (g_runV (n := 1) (As := [.long 1802071652]) (rm := rmX9_isWord) M B e1 (kX9_isWord (v0 := v0) (v1 := 1802071652) l D cy h _) wmX9_144 wiX9_isWord wsX9_isWord wnX9 wcdX9_isWord ⟨rfl, by decide, by decide, by decide +kernel⟩ ⟨Nat.le_trans (by decide) hRf, Nat.le_trans (by decide) hRl⟩ ⟨Nat.le_trans (by decide) hRc, Nat.le_trans (by decide) hRs⟩ hL1 hK1 (by decide) rfl rfl rfl hl.1 rfl ct_0 (by decide) dX9_readStep_92) (by decide) (by decide) (fun a2 S1 H locs h B => ?_)
  refine lv_if_eq (tgt := 116) M.1 M.2.1 dX9_readStep_95 (by decide) (fun c3 => ?_) (fun c3 => ?_)
  · have h := h.1 c3
    exact tX9_readStep_116 M hr hlk hRf hRl hRc hRs _ _ h _ _ _ B (lv_sub hl [0] rfl)
  · have h := h.2 c3
    refine g_aload_n M dX9_readStep_98 rfl (lv_at hl 0 rfl) ?_
    refine gfX9_38 M B dX9_readStep_99 h (fun a4 h => ?_)
    refine lv_iload_n M.1 M.2.1 dX9_readStep_102 rfl (lv_at hl 2 rfl) ?_
    refine g_zald M B dX9_readStep_103 h (fun a5 h => ?_)
    refine lv_if_ne (tgt := 125) M.1 M.2.1 dX9_readStep_104 (by decide) (fun c6 => ?_) (fun c6 => ?_)
    · have h := h.2 c6
      exact tX9_readStep_125 M hr hlk hRf hRl hRc hRs _ _ _ _ h _ _ _ B (lv_sub hl [0, 1, 2] rfl)
    · have h := h.1 c6
      refine g_aload_n M dX9_readStep_107 rfl (lv_at hl 0 rfl) ?_
      refine lv_iload_n M.1 M.2.1 dX9_readStep_108 rfl (lv_at hl 1 rfl) ?_
      refine lv_iconst (v := 1) M.1 M.2.1 dX9_readStep_109 (by decide) ?_
      obtain ⟨o1, e1, hL1, hK1, h⟩ := h
      refine g_calli (k1 := 0) (k2 := 0) B (g_runV (n := 2) (As := [.int v1, .int 1]) (rm := rmX9_pending) M B e1 (kX9_pending (v0 := v0) (v1 := v1) (v2 := 1) l D cy h _) wmX9_173 wiX9_pending wsX9_pending wnX9 wcdX9_pending ⟨rfl, by decide, by decide, by decide +kernel⟩ ⟨Nat.le_trans (by decide) hRf, Nat.le_trans (by decide) hRl⟩ ⟨Nat.le_trans (by decide) hRc, Nat.le_trans (by decide) hRs⟩ hL1 hK1 (by decide) rfl rfl rfl hl.1 rfl ct_0 (by decide) dX9_readStep_110) (by decide) (by decide) (fun a8 S7 H locs h B => ?_)
      refine lv_if_eq (tgt := 125) M.1 M.2.1 dX9_readStep_113 (by decide) (fun c9 => ?_) (fun c9 => ?_)
      · have h := h.1 c9
        exact tX9_readStep_125 M hr hlk hRf hRl hRc hRs _ _ _ _ h _ _ _ B (lv_sub hl [0, 1, 2] rfl)
      · have h := h.2 c9
        exact tX9_readStep_116 M hr hlk hRf hRl hRc hRs _ _ h _ _ _ B (lv_sub hl [0] rfl)
set_option maxRecDepth 100000 in
set_option maxHeartbeats 4000000 in
theorem tX9_readStep_7 {post : Int32 → Pool → Prop} (M : MC p m c cX9_readStep 4 s args RX9) (hr : meth.sig.returnType = (some FieldType.boolean)) (hlk : meth.locks = false) (hRf : 3 ≤ R.frames) (hRl : 68 ≤ R.locals) (hRc : 0 ≤ R.cells) (hRs : 0 ≤ R.slots) : ∀ (n : Nat) (v0 : Option Nat) (v1 : Int32) (v2 : Int32) (v3 : Int32) (S : Pool), wX9_readStep_7 post n v0 v1 v2 v3 S → ∀ (H : Heap) (locs : List Loc) (ls : Array Slot), PB D cy A s S H locs → lv_has ls 4 [(0, va_rf v0), (1, .int v1), (2, .int v2), (3, .int v3)] → W p l e R s m args below meth c H locs 0 0 (MQ below (va_Qi post (PQ D cy A) A) args s 0 0 A) (F0 m 7 ls []) := by
  intro n
  induction n with
  | zero => intro v0 v1 v2 v3 S h; exact False.elim h
  | succ n ih =>
    intro v0 v1 v2 v3 S h H locs ls B hl
    unfold wX9_readStep_7 at h
    refine lv_iload_n M.1 M.2.1 dX9_readStep_7 rfl (lv_at hl 3 rfl) ?_
    refine lv_iconst (v := 3) M.1 M.2.1 dX9_readStep_8 (by decide) ?_
    refine lv_icmp_ge (tgt := 29) M.1 M.2.1 dX9_readStep_9 (by decide) (fun c1 => ?_) (fun c1 => ?_)
    · have h := h.1 c1
      refine g_aload_n M dX9_readStep_29 rfl (lv_at hl 0 rfl) ?_
      refine gfX9_48 M B dX9_readStep_30 h (fun a2 h => ?_)
      refine lv_iload_n M.1 M.2.1 dX9_readStep_33 rfl (lv_at hl 2 rfl) ?_
      refine lv_iconst (v := 0) M.1 M.2.1 dX9_readStep_34 (by decide) ?_
      refine g_zast M B dX9_readStep_35 h (fun S3 H locs h B => ?_)
      refine g_aload_n M dX9_readStep_36 rfl (lv_at hl 0 rfl) ?_
      refine gfX9_51 M B dX9_readStep_37 h (fun a4 h => ?_)
      refine lv_iload_n M.1 M.2.1 dX9_readStep_40 rfl (lv_at hl 2 rfl) ?_
      refine lv_iconst (v := (-1)) M.1 M.2.1 dX9_readStep_41 (by decide) ?_
      refine g_iast M B dX9_readStep_42 h (fun S5 H locs h B => ?_)
      refine g_aload_n M dX9_readStep_43 rfl (lv_at hl 0 rfl) ?_
      refine gfX9_38 M B dX9_readStep_44 h (fun a6 h => ?_)
      refine lv_iload_n M.1 M.2.1 dX9_readStep_47 rfl (lv_at hl 2 rfl) ?_
      refine lv_iconst (v := 0) M.1 M.2.1 dX9_readStep_48 (by decide) ?_
      refine g_zast M B dX9_readStep_49 h (fun S7 H locs h B => ?_)
      refine g_aload_n M dX9_readStep_50 rfl (lv_at hl 0 rfl) ?_
      refine lv_ldc2 (v := 7237492) M.1 M.2.1 M.2.2.2.1 (M.2.2.2.2 _ wkX9_169) dX9_readStep_51 ?_
      obtain ⟨o1, e1, hL1, hK1, h⟩ := h
      refine g_calli (k1 := 0) (k2 := 0) B (g_runV (n := 1) (As := [.long 7237492]) (rm := rmX9_isWord) M B e1 (kX9_isWord (v0 := v0) (v1 := 7237492) l D cy h _) wmX9_144 wiX9_isWord wsX9_isWord wnX9 wcdX9_isWord ⟨rfl, by decide, by decide, by decide +kernel⟩ ⟨Nat.le_trans (by decide) hRf, Nat.le_trans (by decide) hRl⟩ ⟨Nat.le_trans (by decide) hRc, Nat.le_trans (by decide) hRs⟩ hL1 hK1 (by decide) rfl rfl rfl hl.1 rfl ct_0 (by decide) dX9_readStep_54) (by decide) (by decide) (fun a9 S8 H locs h B => ?_)
      refine lv_if_eq (tgt := 88) M.1 M.2.1 dX9_readStep_57 (by decide) (fun c10 => ?_) (fun c10 => ?_)
      · have h := h.1 c10
        exact tX9_readStep_88 M hr hlk hRf hRl hRc hRs _ _ _ _ h _ _ _ B (lv_sub hl [0, 1, 2] rfl)
      · have h := h.2 c10
        refine lv_iload_n M.1 M.2.1 dX9_readStep_60 rfl (lv_at hl 1 rfl) ?_
        refine lv_if_ne (tgt := 73) M.1 M.2.1 dX9_readStep_61 (by decide) (fun c11 => ?_) (fun c11 => ?_)
        · have h := h.2 c11
          refine g_aload_n M dX9_readStep_73 rfl (lv_at hl 0 rfl) ?_
          refine g_aload_n M dX9_readStep_74 rfl (lv_at hl 0 rfl) ?_
          obtain ⟨o1, e1, hL1, hK1, h⟩ := h
          refine g_calli (k1 := 0) (k2 := 0) B (g_runV (n := 0) (As := []) (rm := rmX9_wordEnd) M B e1 (kX9_wordEnd (v0 := v0) l D cy h _) wmX9_141 wiX9_wordEnd wsX9_wordEnd wnX9 wcdX9_wordEnd ⟨rfl, by decide, by decide, by decide +kernel⟩ ⟨Nat.le_trans (by decide) hRf, Nat.le_trans (by decide) hRl⟩ ⟨Nat.le_trans (by decide) hRc, Nat.le_trans (by decide) hRs⟩ hL1 hK1 (by decide) rfl rfl rfl hl.1 rfl (ct_r ct_0) (by decide) dX9_readStep_75) (by decide) (by decide) (fun a13 S12 H locs h B => ?_)
          refine gpX9_131 M B dX9_readStep_78 h (fun S14 H locs h B => ?_)
          refine g_aload_n M dX9_readStep_81 rfl (lv_at hl 0 rfl) ?_
          refine gfX9_38 M B dX9_readStep_82 h (fun a15 h => ?_)
          refine lv_iload_n M.1 M.2.1 dX9_readStep_85 rfl (lv_at hl 2 rfl) ?_
          refine lv_iconst (v := 1) M.1 M.2.1 dX9_readStep_86 (by decide) ?_
          refine g_zast M B dX9_readStep_87 h (fun S16 H locs h B => ?_)
          exact tX9_readStep_88 M hr hlk hRf hRl hRc hRs _ _ _ _ h _ _ _ B (lv_sub hl [0, 1, 2] rfl)
        · have h := h.1 c11
          refine g_aload_n M dX9_readStep_64 rfl (lv_at hl 0 rfl) ?_
          refine g_aload_n M dX9_readStep_65 rfl (lv_at hl 0 rfl) ?_
          refine gfX9_131 M B dX9_readStep_66 h (fun a17 h => ?_)
          obtain ⟨o1, e1, hL1, hK1, h⟩ := h
          refine g_calli (k1 := 0) (k2 := 0) B (g_runV (n := 1) (As := [.int a17]) (rm := rmX9_wrong) M B e1 (kX9_wrong (v0 := v0) (v1 := a17) l D cy h _) wmX9_151 wiX9_wrong wsX9_wrong wnX9 wcdX9_wrong ⟨rfl, by decide, by decide, by decide +kernel⟩ ⟨Nat.le_trans (by decide) hRf, Nat.le_trans (by decide) hRl⟩ ⟨Nat.le_trans (by decide) hRc, Nat.le_trans (by decide) hRs⟩ hL1 hK1 (by decide) rfl rfl rfl hl.1 rfl ct_0 (by decide) dX9_readStep_69) (by decide) (by decide) (fun a19 S18 H locs h B => ?_)
          exact g_zret M B hr hlk h (by decide) (by decide) dX9_readStep_72
    · have h := h.2 c1
      refine g_aload_n M dX9_readStep_12 rfl (lv_at hl 0 rfl) ?_
      refine gfX9_45 M B dX9_readStep_13 h (fun a20 h => ?_)
      refine lv_iconst (v := 3) M.1 M.2.1 dX9_readStep_16 (by decide) ?_
      refine lv_iload_n M.1 M.2.1 dX9_readStep_17 rfl (lv_at hl 2 rfl) ?_
      refine lv_imul M.1 M.2.1 dX9_readStep_18 ?_
      refine lv_iload_n M.1 M.2.1 dX9_readStep_19 rfl (lv_at hl 3 rfl) ?_
      refine lv_iadd M.1 M.2.1 dX9_readStep_20 ?_
      refine lv_iconst (v := (-1)) M.1 M.2.1 dX9_readStep_21 (by decide) ?_
      refine g_iast M B dX9_readStep_22 h (fun S21 H locs h B => ?_)
      refine lv_iinc (v := v3 + 1) (lv' := [(3, .int (v3 + 1)), (0, va_rf v0), (1, .int v1), (2, .int v2)]) M.1 M.2.1 dX9_readStep_23 hl (k := 3) rfl (by rfl) (by decide) (fl_e (fl_k rfl rfl (fl_k rfl rfl (fl_i rfl (fl_d rfl fl_0))))) (fun ls hl => ?_)
      refine lv_goto (tgt := 7) M.1 M.2.1 dX9_readStep_26 (by decide) ?_
      exact ih _ _ _ _ _ h _ _ _ B (lv_sub hl [1, 2, 3, 0] rfl)
set_option maxRecDepth 100000 in
set_option maxHeartbeats 4000000 in
theorem tX9_readStep {post : Int32 → Pool → Prop} (M : MC p m c cX9_readStep 4 s args RX9) (hr : meth.sig.returnType = (some FieldType.boolean)) (hlk : meth.locks = false) (hRf : 3 ≤ R.frames) (hRl : 68 ≤ R.locals) (hRc : 0 ≤ R.cells) (hRs : 0 ≤ R.slots) : ∀ (v0 : Option Nat) (v1 : Int32) (S : Pool), wX9_readStep post v0 v1 S → ∀ (H : Heap) (locs : List Loc) (ls : Array Slot), PB D cy A s S H locs → lv_has ls 4 [(0, va_rf v0), (1, .int v1)] → W p l e R s m args below meth c H locs 0 0 (MQ below (va_Qi post (PQ D cy A) A) args s 0 0 A) (F0 m 0 ls []) := by
  intro v0 v1 S h H locs ls B hl
  unfold wX9_readStep at h
  refine lv_bipush (v := 48) M.1 M.2.1 dX9_readStep_0 (by decide) ?_
  refine lv_iload_n M.1 M.2.1 dX9_readStep_2 rfl (lv_at hl 1 rfl) ?_
  refine lv_iadd M.1 M.2.1 dX9_readStep_3 ?_
  refine lv_istore_n (lv' := [(2, .int ((48 : Int32) + v1)), (0, va_rf v0), (1, .int v1)]) M.1 M.2.1 dX9_readStep_4 rfl hl (by decide) (fl_e (fl_k rfl rfl (fl_i rfl fl_0))) (fun ls hl => ?_)
  refine lv_iconst (v := 0) M.1 M.2.1 dX9_readStep_5 (by decide) ?_
  refine lv_istore_n (lv' := [(3, .int 0), (2, .int ((48 : Int32) + v1)), (0, va_rf v0), (1, .int v1)]) M.1 M.2.1 dX9_readStep_6 rfl hl (by decide) (fl_e (fl_i rfl (fl_k rfl rfl (fl_k rfl rfl fl_0)))) (fun ls hl => ?_)
  obtain ⟨n1, h⟩ := h
  exact tX9_readStep_7 M hr hlk hRf hRl hRc hRs n1 _ _ _ _ _ h _ _ _ B (lv_sub hl [2, 3, 1, 0] rfl)
end
set_option maxRecDepth 100000 in
set_option maxHeartbeats 4000000 in
theorem kX9_readStep (l : Launch) (D : va_G) (cy : Nat → ClassId) {post : Int32 → Pool → Prop} {v0 : Option Nat} {v1 : Int32} {S : Pool} (h : wX9_readStep post v0 v1 S) : MetI l yX9_readStep cX9_readStep 4 (some FieldType.boolean) rmX9_readStep [va_rf v0, .int v1] D cy S post := by
  intro sz
  refine Met.ofW (cc := cX9_readStep) (maxL := 4) (ret := (some FieldType.boolean)) (by decide) rfl ?_
  intro p e s m args below meth c s₁ B0 hml hv
  obtain ⟨rfl, hpp⟩ := hv
  have hts := atoms_spec (ws := .code yX9_readStep cX9_readStep 4 (some FieldType.boolean) :: Gw) B0.pre
  obtain rfl : s.heap.size = sz := hpp.1
  have hl := lv_entry [va_rf v0, .int v1] (n := 4) (by rw [sl_r, sl_i, sl_0]; decide)
  rw [lg_entry_eq]
  rw [la_r, la_i, la_0] at hl
  exact tX9_readStep (l := l) (R := rmX9_readStep) ⟨B0.exec, B0.bytes, hml, findClass_of_methodNamed B0.named, fun w hw => hts w (List.mem_cons_of_mem _ hw)⟩ B0.returns B0.notSynchronized (Nat.le_refl _) (Nat.le_refl _) (Nat.le_refl _) (Nat.le_refl _) _ _ _ h _ _ _ hpp.pb (lv_sub hl [0, 1] rfl)
-- X9_readSpread: LogHuntModel.readSpread()Z
def wX9_readSpread_103 (post : Int32 → Pool → Prop) (S : Pool) : Prop := ((1 : Int32) = 0 ∨ (1 : Int32) = 1) ∧ post (1 : Int32) S
def wX9_readSpread (post : Int32 → Pool → Prop) (v0 : Option Nat) (S : Pool) : Prop := xrc S v0 9 (wX9_wordEnd (fun a2 S1 => xpI S1 v0 9 29 a2 fun S3 => xrc S3 v0 9 (wX9_readField (fun a5 S4 => br (a5 = 0) (((0 : Int32) = 0 ∨ (0 : Int32) = 1) ∧ post (0 : Int32) S4) (xR S4 v0 9 19 fun a7 => xI S4 v0 9 31 fun a8 => xsI S4 a7 10 8 a8 fun S9 => xrc S9 v0 9 (wX9_digits (fun a11 S10 => br (a11 = 0) (((0 : Int32) = 0 ∨ (0 : Int32) = 1) ∧ post (0 : Int32) S10) (xR S10 v0 9 20 fun a13 => xI S10 v0 9 31 fun a14 => xsI S10 a13 10 8 a14 fun S15 => xrc S15 v0 9 (wX9_passes (fun a17 S16 => br (a17 = 0) (((0 : Int32) = 0 ∨ (0 : Int32) = 1) ∧ post (0 : Int32) S16) (xrc S16 v0 9 (wX9_digits (fun a20 S19 => br (a20 = 0) (((0 : Int32) = 0 ∨ (0 : Int32) = 1) ∧ post (0 : Int32) S19) (xR S19 v0 9 21 fun a22 => xI S19 v0 9 31 fun a23 => xsI S19 a22 10 8 a23 fun S24 => xrc S24 v0 9 (wX9_sign (fun a26 S25 => br (a26 = ((-1))) (wX9_readSpread_103 post S25) (xI S25 v0 9 29 fun a28 => xrc S25 v0 9 (wX9_wrong (fun a30 S29 => br (a30 = 0) (((0 : Int32) = 0 ∨ (0 : Int32) = 1) ∧ post (0 : Int32) S29) (wX9_readSpread_103 post S29)) v0 a28 S25))) v0 S24))) v0 1 100000 S16))) v0 131294808271214 S15))) v0 2 30 S9))) v0 S3)) v0 S)
def rmX9_readSpread : Room := { frames := 4, cells := 0, slots := 0, locals := 92 }
section
variable {p : Program} {l : Launch} {e : Env} {R : Room} {s : State} {m : MethodId} {args : Array Value} {below : List Frame} {meth : Method} {c : Code} {D : va_G} {cy : Nat → ClassId} {A : Nat → Prop}
set_option maxRecDepth 100000 in
set_option maxHeartbeats 4000000 in
theorem tX9_readSpread_103 {post : Int32 → Pool → Prop} (M : MC p m c cX9_readSpread 1 s args RX9) (hr : meth.sig.returnType = (some FieldType.boolean)) (hlk : meth.locks = false) (hRf : 4 ≤ R.frames) (hRl : 92 ≤ R.locals) (hRc : 0 ≤ R.cells) (hRs : 0 ≤ R.slots) : ∀ (S : Pool), wX9_readSpread_103 post S → ∀ (H : Heap) (locs : List Loc) (ls : Array Slot), PB D cy A s S H locs → lv_has ls 1 [] → W p l e R s m args below meth c H locs 0 0 (MQ below (va_Qi post (PQ D cy A) A) args s 0 0 A) (F0 m 103 ls []) := by
  intro S h H locs ls B hl
  unfold wX9_readSpread_103 at h
  refine lv_iconst (v := 1) M.1 M.2.1 dX9_readSpread_103 (by decide) ?_
  refine lv_goto (tgt := 108) M.1 M.2.1 dX9_readSpread_104 (by decide) ?_
  exact g_zret M B hr hlk h (by decide) (by decide) dX9_readSpread_108
set_option maxRecDepth 100000 in
set_option maxHeartbeats 4000000 in
theorem tX9_readSpread {post : Int32 → Pool → Prop} (M : MC p m c cX9_readSpread 1 s args RX9) (hr : meth.sig.returnType = (some FieldType.boolean)) (hlk : meth.locks = false) (hRf : 4 ≤ R.frames) (hRl : 92 ≤ R.locals) (hRc : 0 ≤ R.cells) (hRs : 0 ≤ R.slots) : ∀ (v0 : Option Nat) (S : Pool), wX9_readSpread post v0 S → ∀ (H : Heap) (locs : List Loc) (ls : Array Slot), PB D cy A s S H locs → lv_has ls 1 [(0, va_rf v0)] → W p l e R s m args below meth c H locs 0 0 (MQ below (va_Qi post (PQ D cy A) A) args s 0 0 A) (F0 m 0 ls []) := by
  intro v0 S h H locs ls B hl
  unfold wX9_readSpread at h
  refine g_aload_n M dX9_readSpread_0 rfl (lv_at hl 0 rfl) ?_
  refine g_aload_n M dX9_readSpread_1 rfl (lv_at hl 0 rfl) ?_
  obtain ⟨o1, e1, hL1, hK1, h⟩ := h
  refine g_calli (k1 := 0) (k2 := 0) B (g_runV (n := 0) (As := []) (rm := rmX9_wordEnd) M B e1 (kX9_wordEnd (v0 := v0) l D cy h _) wmX9_141 wiX9_wordEnd wsX9_wordEnd wnX9 wcdX9_wordEnd ⟨rfl, by decide, by decide, by decide +kernel⟩ ⟨Nat.le_trans (by decide) hRf, Nat.le_trans (by decide) hRl⟩ ⟨Nat.le_trans (by decide) hRc, Nat.le_trans (by decide) hRs⟩ hL1 hK1 (by decide) rfl rfl rfl hl.1 rfl (ct_r ct_0) (by decide) dX9_readSpread_2) (by decide) (by decide) (fun a2 S1 H locs h B => ?_)
  refine gpX9_131 M B dX9_readSpread_5 h (fun S3 H locs h B => ?_)
  refine g_aload_n M dX9_readSpread_8 rfl (lv_at hl 0 rfl) ?_
  obtain ⟨o1, e1, hL1, hK1, h⟩ := h
  refine g_calli (k1 := 0) (k2 := 0) B (g_runV (n := 0) (As := []) (rm := rmX9_readField) M B e1 (kX9_readField (v0 := v0) l D cy h _) wmX9_185 wiX9_readField wsX9_readField wnX9 wcdX9_readField ⟨rfl, by decide, by decide, by decide +kernel⟩ ⟨Nat.le_trans (by decide) hRf, Nat.le_trans (by decide) hRl⟩ ⟨Nat.le_trans (by decide) hRc, Nat.le_trans (by decide) hRs⟩ hL1 hK1 (by decide) rfl rfl rfl hl.1 rfl ct_0 (by decide) dX9_readSpread_9) (by decide) (by decide) (fun a5 S4 H locs h B => ?_)
  refine lv_if_ne (tgt := 17) M.1 M.2.1 dX9_readSpread_12 (by decide) (fun c6 => ?_) (fun c6 => ?_)
  · have h := h.2 c6
    refine g_aload_n M dX9_readSpread_17 rfl (lv_at hl 0 rfl) ?_
    refine gfX9_54 M B dX9_readSpread_18 h (fun a7 h => ?_)
    refine lv_bipush (v := 8) M.1 M.2.1 dX9_readSpread_21 (by decide) ?_
    refine g_aload_n M dX9_readSpread_23 rfl (lv_at hl 0 rfl) ?_
    refine gfX9_154 M B dX9_readSpread_24 h (fun a8 h => ?_)
    refine g_iast M B dX9_readSpread_27 h (fun S9 H locs h B => ?_)
    refine g_aload_n M dX9_readSpread_28 rfl (lv_at hl 0 rfl) ?_
    refine lv_iconst (v := 2) M.1 M.2.1 dX9_readSpread_29 (by decide) ?_
    refine lv_bipush (v := 30) M.1 M.2.1 dX9_readSpread_30 (by decide) ?_
    obtain ⟨o1, e1, hL1, hK1, h⟩ := h
    refine g_calli (k1 := 0) (k2 := 0) B (g_runV (n := 2) (As := [.int 2, .int 30]) (rm := rmX9_digits) M B e1 (kX9_digits (v0 := v0) (v1 := 2) (v2 := 30) l D cy h _) wmX9_177 wiX9_digits wsX9_digits wnX9 wcdX9_digits ⟨rfl, by decide, by decide, by decide +kernel⟩ ⟨Nat.le_trans (by decide) hRf, Nat.le_trans (by decide) hRl⟩ ⟨Nat.le_trans (by decide) hRc, Nat.le_trans (by decide) hRs⟩ hL1 hK1 (by decide) rfl rfl rfl hl.1 rfl ct_0 (by decide) dX9_readSpread_32) (by decide) (by decide) (fun a11 S10 H locs h B => ?_)
    refine lv_if_ne (tgt := 40) M.1 M.2.1 dX9_readSpread_35 (by decide) (fun c12 => ?_) (fun c12 => ?_)
    · have h := h.2 c12
      refine g_aload_n M dX9_readSpread_40 rfl (lv_at hl 0 rfl) ?_
      refine gfX9_57 M B dX9_readSpread_41 h (fun a13 h => ?_)
      refine lv_bipush (v := 8) M.1 M.2.1 dX9_readSpread_44 (by decide) ?_
      refine g_aload_n M dX9_readSpread_46 rfl (lv_at hl 0 rfl) ?_
      refine gfX9_154 M B dX9_readSpread_47 h (fun a14 h => ?_)
      refine g_iast M B dX9_readSpread_50 h (fun S15 H locs h B => ?_)
      refine g_aload_n M dX9_readSpread_51 rfl (lv_at hl 0 rfl) ?_
      refine lv_ldc2 (v := 131294808271214) M.1 M.2.1 M.2.2.2.1 (M.2.2.2.2 _ wkX9_183) dX9_readSpread_52 ?_
      obtain ⟨o1, e1, hL1, hK1, h⟩ := h
      refine g_calli (k1 := 0) (k2 := 0) B (g_runV (n := 1) (As := [.long 131294808271214]) (rm := rmX9_passes) M B e1 (kX9_passes (v0 := v0) (v1 := 131294808271214) l D cy h _) wmX9_189 wiX9_passes wsX9_passes wnX9 wcdX9_passes ⟨rfl, by decide, by decide, by decide +kernel⟩ ⟨Nat.le_trans (by decide) hRf, Nat.le_trans (by decide) hRl⟩ ⟨Nat.le_trans (by decide) hRc, Nat.le_trans (by decide) hRs⟩ hL1 hK1 (by decide) rfl rfl rfl hl.1 rfl ct_0 (by decide) dX9_readSpread_55) (by decide) (by decide) (fun a17 S16 H locs h B => ?_)
      refine lv_if_eq (tgt := 71) M.1 M.2.1 dX9_readSpread_58 (by decide) (fun c18 => ?_) (fun c18 => ?_)
      · have h := h.1 c18
        refine lv_iconst (v := 0) M.1 M.2.1 dX9_readSpread_71 (by decide) ?_
        exact g_zret M B hr hlk h (by decide) (by decide) dX9_readSpread_72
      · have h := h.2 c18
        refine g_aload_n M dX9_readSpread_61 rfl (lv_at hl 0 rfl) ?_
        refine lv_iconst (v := 1) M.1 M.2.1 dX9_readSpread_62 (by decide) ?_
        refine lv_ldc (v := 100000) M.1 M.2.1 M.2.2.2.1 (M.2.2.2.2 _ wkX9_115) dX9_readSpread_63 ?_
        obtain ⟨o1, e1, hL1, hK1, h⟩ := h
        refine g_calli (k1 := 0) (k2 := 0) B (g_runV (n := 2) (As := [.int 1, .int 100000]) (rm := rmX9_digits) M B e1 (kX9_digits (v0 := v0) (v1 := 1) (v2 := 100000) l D cy h _) wmX9_177 wiX9_digits wsX9_digits wnX9 wcdX9_digits ⟨rfl, by decide, by decide, by decide +kernel⟩ ⟨Nat.le_trans (by decide) hRf, Nat.le_trans (by decide) hRl⟩ ⟨Nat.le_trans (by decide) hRc, Nat.le_trans (by decide) hRs⟩ hL1 hK1 (by decide) rfl rfl rfl hl.1 rfl ct_0 (by decide) dX9_readSpread_65) (by decide) (by decide) (fun a20 S19 H locs h B => ?_)
        refine lv_if_ne (tgt := 73) M.1 M.2.1 dX9_readSpread_68 (by decide) (fun c21 => ?_) (fun c21 => ?_)
        · have h := h.2 c21
          refine g_aload_n M dX9_readSpread_73 rfl (lv_at hl 0 rfl) ?_
          refine gfX9_60 M B dX9_readSpread_74 h (fun a22 h => ?_)
          refine lv_bipush (v := 8) M.1 M.2.1 dX9_readSpread_77 (by decide) ?_
          refine g_aload_n M dX9_readSpread_79 rfl (lv_at hl 0 rfl) ?_
          refine gfX9_154 M B dX9_readSpread_80 h (fun a23 h => ?_)
          refine g_iast M B dX9_readSpread_83 h (fun S24 H locs h B => ?_)
          refine g_aload_n M dX9_readSpread_84 rfl (lv_at hl 0 rfl) ?_
          obtain ⟨o1, e1, hL1, hK1, h⟩ := h
          refine g_calli (k1 := 0) (k2 := 0) B (g_runV (n := 0) (As := []) (rm := rmX9_sign) M B e1 (kX9_sign (v0 := v0) l D cy h _) wmX9_137 wiX9_sign wsX9_sign wnX9 wcdX9_sign ⟨rfl, by decide, by decide, by decide +kernel⟩ ⟨Nat.le_trans (by decide) hRf, Nat.le_trans (by decide) hRl⟩ ⟨Nat.le_trans (by decide) hRc, Nat.le_trans (by decide) hRs⟩ hL1 hK1 (by decide) rfl rfl rfl hl.1 rfl ct_0 (by decide) dX9_readSpread_85) (by decide) (by decide) (fun a26 S25 H locs h B => ?_)
          refine lv_iconst (v := (-1)) M.1 M.2.1 dX9_readSpread_88 (by decide) ?_
          refine lv_icmp_eq (tgt := 103) M.1 M.2.1 dX9_readSpread_89 (by decide) (fun c27 => ?_) (fun c27 => ?_)
          · have h := h.1 c27
            exact tX9_readSpread_103 M hr hlk hRf hRl hRc hRs _ h _ _ _ B (lv_sub hl [] rfl)
          · have h := h.2 c27
            refine g_aload_n M dX9_readSpread_92 rfl (lv_at hl 0 rfl) ?_
            refine g_aload_n M dX9_readSpread_93 rfl (lv_at hl 0 rfl) ?_
            refine gfX9_131 M B dX9_readSpread_94 h (fun a28 h => ?_)
            obtain ⟨o1, e1, hL1, hK1, h⟩ := h
            refine g_calli (k1 := 0) (k2 := 0) B (g_runV (n := 1) (As := [.int a28]) (rm := rmX9_wrong) M B e1 (kX9_wrong (v0 := v0) (v1 := a28) l D cy h _) wmX9_151 wiX9_wrong wsX9_wrong wnX9 wcdX9_wrong ⟨rfl, by decide, by decide, by decide +kernel⟩ ⟨Nat.le_trans (by decide) hRf, Nat.le_trans (by decide) hRl⟩ ⟨Nat.le_trans (by decide) hRc, Nat.le_trans (by decide) hRs⟩ hL1 hK1 (by decide) rfl rfl rfl hl.1 rfl ct_0 (by decide) dX9_readSpread_97) (by decide) (by decide) (fun a30 S29 H locs h B => ?_)
            refine lv_if_eq (tgt := 107) M.1 M.2.1 dX9_readSpread_100 (by decide) (fun c31 => ?_) (fun c31 => ?_)
            · have h := h.1 c31
              refine lv_iconst (v := 0) M.1 M.2.1 dX9_readSpread_107 (by decide) ?_
              exact g_zret M B hr hlk h (by decide) (by decide) dX9_readSpread_108
            · have h := h.2 c31
              exact tX9_readSpread_103 M hr hlk hRf hRl hRc hRs _ h _ _ _ B (lv_sub hl [] rfl)
        · have h := h.1 c21
          refine lv_iconst (v := 0) M.1 M.2.1 dX9_readSpread_71 (by decide) ?_
          exact g_zret M B hr hlk h (by decide) (by decide) dX9_readSpread_72
    · have h := h.1 c12
      refine lv_iconst (v := 0) M.1 M.2.1 dX9_readSpread_38 (by decide) ?_
      exact g_zret M B hr hlk h (by decide) (by decide) dX9_readSpread_39
  · have h := h.1 c6
    refine lv_iconst (v := 0) M.1 M.2.1 dX9_readSpread_15 (by decide) ?_
    exact g_zret M B hr hlk h (by decide) (by decide) dX9_readSpread_16
end
set_option maxRecDepth 100000 in
set_option maxHeartbeats 4000000 in
theorem kX9_readSpread (l : Launch) (D : va_G) (cy : Nat → ClassId) {post : Int32 → Pool → Prop} {v0 : Option Nat} {S : Pool} (h : wX9_readSpread post v0 S) : MetI l yX9_readSpread cX9_readSpread 1 (some FieldType.boolean) rmX9_readSpread [va_rf v0] D cy S post := by
  intro sz
  refine Met.ofW (cc := cX9_readSpread) (maxL := 1) (ret := (some FieldType.boolean)) (by decide) rfl ?_
  intro p e s m args below meth c s₁ B0 hml hv
  obtain ⟨rfl, hpp⟩ := hv
  have hts := atoms_spec (ws := .code yX9_readSpread cX9_readSpread 1 (some FieldType.boolean) :: Gw) B0.pre
  obtain rfl : s.heap.size = sz := hpp.1
  have hl := lv_entry [va_rf v0] (n := 1) (by rw [sl_r, sl_0]; decide)
  rw [lg_entry_eq]
  rw [la_r, la_0] at hl
  exact tX9_readSpread (l := l) (R := rmX9_readSpread) ⟨B0.exec, B0.bytes, hml, findClass_of_methodNamed B0.named, fun w hw => hts w (List.mem_cons_of_mem _ hw)⟩ B0.returns B0.notSynchronized (Nat.le_refl _) (Nat.le_refl _) (Nat.le_refl _) (Nat.le_refl _) _ _ h _ _ _ hpp.pb (lv_sub hl [0] rfl)
-- X9_readText: LogHuntModel.readText()Z
def wX9_readText_274 (post : Int32 → Pool → Prop) (S : Pool) : Prop := ((1 : Int32) = 0 ∨ (1 : Int32) = 1) ∧ post (1 : Int32) S
def wX9_readText_227 (K71 : Option Nat → Int32 → Pool → Prop) (post : Int32 → Pool → Prop) (v0 : Option Nat) (z0 : Int32) (S : Pool) : Prop := K71 v0 z0 S
def wX9_readText_182 (post : Int32 → Pool → Prop) (z0 : Int32) (z1 : Option Nat) (S : Pool) : Prop := xrc S z1 9 (wX9_wrong (fun a2 S1 => (a2 = 0 ∨ a2 = 1) ∧ post a2 S1) z1 z0 S)
def wX9_readText_174 (post : Int32 → Pool → Prop) (v2 : Int32) (z0 : Option Nat) (S : Pool) : Prop := wX9_readText_182 post v2 z0 S
def wX9_readText_141 (K71 : Option Nat → Int32 → Pool → Prop) (post : Int32 → Pool → Prop) (v0 : Option Nat) (v2 : Int32) (S : Pool) : Prop := xR S v0 9 13 fun a1 => xaI S a1 10 8 fun a2 => br (a2 = 6) (xrc S v0 9 (wX9_isWord (fun a16 S15 => br (a16 = 0) (xrc S15 v0 9 (wX9_isWord (fun a19 S18 => br (a19 = 0) (xI S18 v0 9 29 fun a21 => wX9_readText_182 post a21 v0 S18) (wX9_readText_174 post v2 v0 S18)) v0 1802071652 S15)) (wX9_readText_174 post v2 v0 S15)) v0 7237492 S)) (xR S v0 9 13 fun a4 => xaI S a4 10 8 fun a5 => xrc S v0 9 (wX9_readStep (fun a7 S6 => br (a7 = 0) (((0 : Int32) = 0 ∨ (0 : Int32) = 1) ∧ post (0 : Int32) S6) (xR S6 v0 9 13 fun a9 => xaI S6 a9 10 8 fun a10 => xsI S6 a9 10 8 (a10 + 1) fun S11 => xrc S11 v0 9 (wX9_sign (fun a13 S12 => br (a13 = 59) (wX9_readText_227 K71 post v0 1 S12) (wX9_readText_227 K71 post v0 0 S12)) v0 S11))) v0 a5 S))
def wX9_readText_71 (post : Int32 → Pool → Prop) : Nat → Option Nat → Int32 → Pool → Prop
  | 0 => fun _ _ _ => False
  | n + 1 => fun v0 v1 S => br (v1 = 0) (xrc S v0 9 (wX9_sign (fun a3 S2 => br (a3 = ((-1))) (xR S2 v0 9 13 fun a5 => xaI S2 a5 10 8 fun a6 => xrc S2 v0 9 (wX9_pending (fun a8 S7 => br (a8 = 0) (wX9_readText_274 post S7) (xI S7 v0 9 28 fun a10 => xrc S7 v0 9 (wX9_wrong (fun a12 S11 => br (a12 = 0) (((0 : Int32) = 0 ∨ (0 : Int32) = 1) ∧ post (0 : Int32) S11) (wX9_readText_274 post S11)) v0 a10 S7))) v0 a6 0 S2)) (xI S2 v0 9 29 fun a14 => xrc S2 v0 9 (wX9_wrong (fun a16 S15 => (a16 = 0 ∨ a16 = 1) ∧ post a16 S15) v0 a14 S2))) v0 S)) (xI S v0 9 29 fun a17 => xI S v0 9 29 fun a18 => xpI S v0 9 29 (a18 + 1) fun S19 => xR S19 v0 9 13 fun a20 => xaI S19 a20 10 8 fun a21 => br (a21 ≤ 0) (wX9_readText_141 (wX9_readText_71 post n) post v0 a17 S19) (xrc S19 v0 9 (wX9_isWord (fun a24 S23 => br (a24 = 0) (wX9_readText_141 (wX9_readText_71 post n) post v0 a17 S23) (xR S23 v0 9 13 fun a26 => xaI S23 a26 10 8 fun a27 => xrc S23 v0 9 (wX9_pending (fun a29 S28 => br (a29 = 0) (xrc S28 v0 9 (wX9_readSpread (fun a32 S31 => (a32 = 0 ∨ a32 = 1) ∧ post a32 S31) v0 S28)) (xI S28 v0 9 29 fun a33 => xrc S28 v0 9 (wX9_wrong (fun a35 S34 => (a35 = 0 ∨ a35 = 1) ∧ post a35 S34) v0 a33 S28))) v0 a27 0 S23))) v0 126926792778084 S19)))
def wX9_readText (post : Int32 → Pool → Prop) (v0 : Option Nat) (S : Pool) : Prop := xpI S v0 9 32 0 fun S1 => xR S1 v0 9 13 fun a2 => xsI S1 a2 10 8 0 fun S3 => xR S3 v0 9 19 fun a4 => xsI S3 a4 10 8 ((-1)) fun S5 => xrc S5 v0 9 (wX9_passes (fun a7 S6 => br (a7 = 0) (((0 : Int32) = 0 ∨ (0 : Int32) = 1) ∧ post (0 : Int32) S6) (xrc S6 v0 9 (wX9_readField (fun a10 S9 => br (a10 = 0) (((0 : Int32) = 0 ∨ (0 : Int32) = 1) ∧ post (0 : Int32) S9) (xR S9 v0 9 12 fun a12 => xI S9 v0 9 31 fun a13 => xsI S9 a12 10 8 a13 fun S14 => xrc S14 v0 9 (wX9_sign (fun a16 S15 => br (a16 = 59) (∃ n1, wX9_readText_71 post n1 v0 1 S15) (xI S15 v0 9 29 fun a18 => xrc S15 v0 9 (wX9_wrong (fun a20 S19 => (a20 = 0 ∨ a20 = 1) ∧ post a20 S19) v0 a18 S15))) v0 S14))) v0 S6))) v0 25209 S5)
def rmX9_readText : Room := { frames := 5, cells := 0, slots := 0, locals := 112 }
section
variable {p : Program} {l : Launch} {e : Env} {R : Room} {s : State} {m : MethodId} {args : Array Value} {below : List Frame} {meth : Method} {c : Code} {D : va_G} {cy : Nat → ClassId} {A : Nat → Prop}
set_option maxRecDepth 100000 in
set_option maxHeartbeats 4000000 in
theorem tX9_readText_274 {post : Int32 → Pool → Prop} (M : MC p m c cX9_readText 3 s args RX9) (hr : meth.sig.returnType = (some FieldType.boolean)) (hlk : meth.locks = false) (hRf : 5 ≤ R.frames) (hRl : 112 ≤ R.locals) (hRc : 0 ≤ R.cells) (hRs : 0 ≤ R.slots) : ∀ (S : Pool), wX9_readText_274 post S → ∀ (H : Heap) (locs : List Loc) (ls : Array Slot), PB D cy A s S H locs → lv_has ls 3 [] → W p l e R s m args below meth c H locs 0 0 (MQ below (va_Qi post (PQ D cy A) A) args s 0 0 A) (F0 m 274 ls []) := by
  intro S h H locs ls B hl
  unfold wX9_readText_274 at h
  refine lv_iconst (v := 1) M.1 M.2.1 dX9_readText_274 (by decide) ?_
  refine lv_goto (tgt := 279) M.1 M.2.1 dX9_readText_275 (by decide) ?_
  exact g_zret M B hr hlk h (by decide) (by decide) dX9_readText_279
set_option maxRecDepth 100000 in
set_option maxHeartbeats 4000000 in
theorem tX9_readText_227 {K71 : Option Nat → Int32 → Pool → Prop} {post : Int32 → Pool → Prop} (M : MC p m c cX9_readText 3 s args RX9) (hr : meth.sig.returnType = (some FieldType.boolean)) (hlk : meth.locks = false) (hRf : 5 ≤ R.frames) (hRl : 112 ≤ R.locals) (hRc : 0 ≤ R.cells) (hRs : 0 ≤ R.slots) (hK71 : ∀ (v0 : Option Nat) (v1 : Int32) (S : Pool), K71 v0 v1 S → ∀ (H : Heap) (locs : List Loc) (ls : Array Slot), PB D cy A s S H locs → lv_has ls 3 [(0, va_rf v0), (1, .int v1)] → W p l e R s m args below meth c H locs 0 0 (MQ below (va_Qi post (PQ D cy A) A) args s 0 0 A) (F0 m 71 ls [])) : ∀ (v0 : Option Nat) (z0 : Int32) (S : Pool), wX9_readText_227 K71 post v0 z0 S → ∀ (H : Heap) (locs : List Loc) (ls : Array Slot), PB D cy A s S H locs → lv_has ls 3 [(0, va_rf v0)] → W p l e R s m args below meth c H locs 0 0 (MQ below (va_Qi post (PQ D cy A) A) args s 0 0 A) (F0 m 227 ls [.int z0]) := by
  intro v0 z0 S h H locs ls B hl
  unfold wX9_readText_227 at h
  refine lv_istore_n (lv' := [(1, .int z0), (0, va_rf v0)]) M.1 M.2.1 dX9_readText_227 rfl hl (by decide) (fl_e (fl_r rfl fl_0)) (fun ls hl => ?_)
  refine lv_goto (tgt := 71) M.1 M.2.1 dX9_readText_228 (by decide) ?_
  exact hK71 _ _ _ h _ _ _ B (lv_sub hl [1, 0] rfl)
set_option maxRecDepth 100000 in
set_option maxHeartbeats 4000000 in
theorem tX9_readText_182 {post : Int32 → Pool → Prop} (M : MC p m c cX9_readText 3 s args RX9) (hr : meth.sig.returnType = (some FieldType.boolean)) (hlk : meth.locks = false) (hRf : 5 ≤ R.frames) (hRl : 112 ≤ R.locals) (hRc : 0 ≤ R.cells) (hRs : 0 ≤ R.slots) : ∀ (z0 : Int32) (z1 : Option Nat) (S : Pool), wX9_readText_182 post z0 z1 S → ∀ (H : Heap) (locs : List Loc) (ls : Array Slot), PB D cy A s S H locs → lv_has ls 3 [] → W p l e R s m args below meth c H locs 0 0 (MQ below (va_Qi post (PQ D cy A) A) args s 0 0 A) (F0 m 182 ls [.int z0, va_rf z1]) := by
  intro z0 z1 S h H locs ls B hl
  unfold wX9_readText_182 at h
  obtain ⟨o1, e1, hL1, hK1, h⟩ := h
  refine g_calli (k1 := 0) (k2 := 0) B (g_runV (n := 1) (As := [.int z0]) (rm := rmX9_wrong) M B e1 (kX9_wrong (v0 := z1) (v1 := z0) l D cy h _) wmX9_151 wiX9_wrong wsX9_wrong wnX9 wcdX9_wrong ⟨rfl, by decide, by decide, by decide +kernel⟩ ⟨Nat.le_trans (by decide) hRf, Nat.le_trans (by decide) hRl⟩ ⟨Nat.le_trans (by decide) hRc, Nat.le_trans (by decide) hRs⟩ hL1 hK1 (by decide) rfl rfl rfl hl.1 rfl ct_0 (by decide) dX9_readText_182) (by decide) (by decide) (fun a2 S1 H locs h B => ?_)
  exact g_zret M B hr hlk h (by decide) (by decide) dX9_readText_185
set_option maxRecDepth 100000 in
set_option maxHeartbeats 4000000 in
theorem tX9_readText_174 {post : Int32 → Pool → Prop} (M : MC p m c cX9_readText 3 s args RX9) (hr : meth.sig.returnType = (some FieldType.boolean)) (hlk : meth.locks = false) (hRf : 5 ≤ R.frames) (hRl : 112 ≤ R.locals) (hRc : 0 ≤ R.cells) (hRs : 0 ≤ R.slots) : ∀ (v2 : Int32) (z0 : Option Nat) (S : Pool), wX9_readText_174 post v2 z0 S → ∀ (H : Heap) (locs : List Loc) (ls : Array Slot), PB D cy A s S H locs → lv_has ls 3 [(2, .int v2)] → W p l e R s m args below meth c H locs 0 0 (MQ below (va_Qi post (PQ D cy A) A) args s 0 0 A) (F0 m 174 ls [va_rf z0]) := by
  intro v2 z0 S h H locs ls B hl
  unfold wX9_readText_174 at h
  refine lv_iload_n M.1 M.2.1 dX9_readText_174 rfl (lv_at hl 0 rfl) ?_
  refine lv_goto (tgt := 182) M.1 M.2.1 dX9_readText_175 (by decide) ?_
  exact tX9_readText_182 M hr hlk hRf hRl hRc hRs _ _ _ h _ _ _ B (lv_sub hl [] rfl)
set_option maxRecDepth 100000 in
set_option maxHeartbeats 4000000 in
theorem tX9_readText_141 {K71 : Option Nat → Int32 → Pool → Prop} {post : Int32 → Pool → Prop} (M : MC p m c cX9_readText 3 s args RX9) (hr : meth.sig.returnType = (some FieldType.boolean)) (hlk : meth.locks = false) (hRf : 5 ≤ R.frames) (hRl : 112 ≤ R.locals) (hRc : 0 ≤ R.cells) (hRs : 0 ≤ R.slots) (hK71 : ∀ (v0 : Option Nat) (v1 : Int32) (S : Pool), K71 v0 v1 S → ∀ (H : Heap) (locs : List Loc) (ls : Array Slot), PB D cy A s S H locs → lv_has ls 3 [(0, va_rf v0), (1, .int v1)] → W p l e R s m args below meth c H locs 0 0 (MQ below (va_Qi post (PQ D cy A) A) args s 0 0 A) (F0 m 71 ls [])) : ∀ (v0 : Option Nat) (v2 : Int32) (S : Pool), wX9_readText_141 K71 post v0 v2 S → ∀ (H : Heap) (locs : List Loc) (ls : Array Slot), PB D cy A s S H locs → lv_has ls 3 [(0, va_rf v0), (2, .int v2)] → W p l e R s m args below meth c H locs 0 0 (MQ below (va_Qi post (PQ D cy A) A) args s 0 0 A) (F0 m 141 ls []) := by
  intro v0 v2 S h H locs ls B hl
  unfold wX9_readText_141 at h
  refine g_aload_n M dX9_readText_141 rfl (lv_at hl 0 rfl) ?_
  refine gfX9_35 M B dX9_readText_142 h (fun a1 h => ?_)
  refine lv_bipush (v := 8) M.1 M.2.1 dX9_readText_145 (by decide) ?_
  refine g_iald M B dX9_readText_147 h (fun a2 h => ?_)
  refine lv_bipush (v := 6) M.1 M.2.1 dX9_readText_148 (by decide) ?_
  refine lv_icmp_ne (tgt := 186) M.1 M.2.1 dX9_readText_150 (by decide) (fun c3 => ?_) (fun c3 => ?_)
  · have h := h.2 c3
    refine g_aload_n M dX9_readText_186 rfl (lv_at hl 0 rfl) ?_
    refine g_aload_n M dX9_readText_187 rfl (lv_at hl 0 rfl) ?_
    refine gfX9_35 M B dX9_readText_188 h (fun a4 h => ?_)
    refine lv_bipush (v := 8) M.1 M.2.1 dX9_readText_191 (by decide) ?_
    refine g_iald M B dX9_readText_193 h (fun a5 h => ?_)
    obtain ⟨o1, e1, hL1, hK1, h⟩ := h
    refine g_calli (k1 := 0) (k2 := 0) B (g_runV (n := 1) (As := [.int a5]) (rm := rmX9_readStep) M B e1 (kX9_readStep (v0 := v0) (v1 := a5) l D cy h _) wmX9_199 wiX9_readStep wsX9_readStep wnX9 wcdX9_readStep ⟨rfl, by decide, by decide, by decide +kernel⟩ ⟨Nat.le_trans (by decide) hRf, Nat.le_trans (by decide) hRl⟩ ⟨Nat.le_trans (by decide) hRc, Nat.le_trans (by decide) hRs⟩ hL1 hK1 (by decide) rfl rfl rfl hl.1 rfl ct_0 (by decide) dX9_readText_194) (by decide) (by decide) (fun a7 S6 H locs h B => ?_)
    refine lv_if_ne (tgt := 202) M.1 M.2.1 dX9_readText_197 (by decide) (fun c8 => ?_) (fun c8 => ?_)
    · have h := h.2 c8
      refine g_aload_n M dX9_readText_202 rfl (lv_at hl 0 rfl) ?_
      refine gfX9_35 M B dX9_readText_203 h (fun a9 h => ?_)
      refine lv_bipush (v := 8) M.1 M.2.1 dX9_readText_206 (by decide) ?_
      refine lv_dup2_11 M.1 M.2.1 dX9_readText_208 (rfl) (rf_cat _) ?_
      refine g_iald M B dX9_readText_209 h (fun a10 h => ?_)
      refine lv_iconst (v := 1) M.1 M.2.1 dX9_readText_210 (by decide) ?_
      refine lv_iadd M.1 M.2.1 dX9_readText_211 ?_
      refine g_iast M B dX9_readText_212 h (fun S11 H locs h B => ?_)
      refine g_aload_n M dX9_readText_213 rfl (lv_at hl 0 rfl) ?_
      obtain ⟨o1, e1, hL1, hK1, h⟩ := h
      refine g_calli (k1 := 0) (k2 := 0) B (g_runV (n := 0) (As := []) (rm := rmX9_sign) M B e1 (kX9_sign (v0 := v0) l D cy h _) wmX9_137 wiX9_sign wsX9_sign wnX9 wcdX9_sign ⟨rfl, by decide, by decide, by decide +kernel⟩ ⟨Nat.le_trans (by decide) hRf, Nat.le_trans (by decide) hRl⟩ ⟨Nat.le_trans (by decide) hRc, Nat.le_trans (by decide) hRs⟩ hL1 hK1 (by decide) rfl rfl rfl hl.1 rfl ct_0 (by decide) dX9_readText_214) (by decide) (by decide) (fun a13 S12 H locs h B => ?_)
      refine lv_bipush (v := 59) M.1 M.2.1 dX9_readText_217 (by decide) ?_
      refine lv_icmp_ne (tgt := 226) M.1 M.2.1 dX9_readText_219 (by decide) (fun c14 => ?_) (fun c14 => ?_)
      · have h := h.2 c14
        refine lv_iconst (v := 0) M.1 M.2.1 dX9_readText_226 (by decide) ?_
        exact tX9_readText_227 M hr hlk hRf hRl hRc hRs hK71 _ _ _ h _ _ _ B (lv_sub hl [0] rfl)
      · have h := h.1 c14
        refine lv_iconst (v := 1) M.1 M.2.1 dX9_readText_222 (by decide) ?_
        refine lv_goto (tgt := 227) M.1 M.2.1 dX9_readText_223 (by decide) ?_
        exact tX9_readText_227 M hr hlk hRf hRl hRc hRs hK71 _ _ _ h _ _ _ B (lv_sub hl [0] rfl)
    · have h := h.1 c8
      refine lv_iconst (v := 0) M.1 M.2.1 dX9_readText_200 (by decide) ?_
      exact g_zret M B hr hlk h (by decide) (by decide) dX9_readText_201
  · have h := h.1 c3
    refine g_aload_n M dX9_readText_153 rfl (lv_at hl 0 rfl) ?_
    refine g_aload_n M dX9_readText_154 rfl (lv_at hl 0 rfl) ?_
    refine lv_ldc2 (v := 7237492) M.1 M.2.1 M.2.2.2.1 (M.2.2.2.2 _ wkX9_169) dX9_readText_155 ?_
    obtain ⟨o1, e1, hL1, hK1, h⟩ := h
    refine g_calli (k1 := 0) (k2 := 0) B (g_runV (n := 1) (As := [.long 7237492]) (rm := rmX9_isWord) M B e1 (kX9_isWord (v0 := v0) (v1 := 7237492) l D cy h _) wmX9_144 wiX9_isWord wsX9_isWord wnX9 wcdX9_isWord ⟨rfl, by decide, by decide, by decide +kernel⟩ ⟨Nat.le_trans (by decide) hRf, Nat.le_trans (by decide) hRl⟩ ⟨Nat.le_trans (by decide) hRc, Nat.le_trans (by decide) hRs⟩ hL1 hK1 (by decide) rfl rfl rfl hl.1 rfl (ct_r ct_0) (by decide) dX9_readText_158) (by decide) (by decide) (fun a16 S15 H locs h B => ?_)
    refine lv_if_ne (tgt := 174) M.1 M.2.1 dX9_readText_161 (by decide) (fun c17 => ?_) (fun c17 => ?_)
    · have h := h.2 c17
      exact tX9_readText_174 M hr hlk hRf hRl hRc hRs _ _ _ h _ _ _ B (lv_sub hl [1] rfl)
    · have h := h.1 c17
      refine g_aload_n M dX9_readText_164 rfl (lv_at hl 0 rfl) ?_
      refine lv_ldc2 (v := 1802071652) M.1 M.2.1 M.2.2.2.1 (M.2.2.2.2 _ wkX9_171) dX9_readText_165 ?_
      obtain ⟨o1, e1, hL1, hK1, h⟩ := h
      refine g_calli (k1 := 0) (k2 := 0) B (g_runV (n := 1) (As := [.long 1802071652]) (rm := rmX9_isWord) M B e1 (kX9_isWord (v0 := v0) (v1 := 1802071652) l D cy h _) wmX9_144 wiX9_isWord wsX9_isWord wnX9 wcdX9_isWord ⟨rfl, by decide, by decide, by decide +kernel⟩ ⟨Nat.le_trans (by decide) hRf, Nat.le_trans (by decide) hRl⟩ ⟨Nat.le_trans (by decide) hRc, Nat.le_trans (by decide) hRs⟩ hL1 hK1 (by decide) rfl rfl rfl hl.1 rfl (ct_r ct_0) (by decide) dX9_readText_168) (by decide) (by decide) (fun a19 S18 H locs h B => ?_)
      refine lv_if_eq (tgt := 178) M.1 M.2.1 dX9_readText_171 (by decide) (fun c20 => ?_) (fun c20 => ?_)
      · have h := h.1 c20
        refine g_aload_n M dX9_readText_178 rfl (lv_at hl 0 rfl) ?_
        refine gfX9_131 M B dX9_readText_179 h (fun a21 h => ?_)
        exact tX9_readText_182 M hr hlk hRf hRl hRc hRs _ _ _ h _ _ _ B (lv_sub hl [] rfl)
      · have h := h.2 c20
        exact tX9_readText_174 M hr hlk hRf hRl hRc hRs _ _ _ h _ _ _ B (lv_sub hl [1] rfl)
set_option maxRecDepth 100000 in
set_option maxHeartbeats 4000000 in
theorem tX9_readText_71 {post : Int32 → Pool → Prop} (M : MC p m c cX9_readText 3 s args RX9) (hr : meth.sig.returnType = (some FieldType.boolean)) (hlk : meth.locks = false) (hRf : 5 ≤ R.frames) (hRl : 112 ≤ R.locals) (hRc : 0 ≤ R.cells) (hRs : 0 ≤ R.slots) : ∀ (n : Nat) (v0 : Option Nat) (v1 : Int32) (S : Pool), wX9_readText_71 post n v0 v1 S → ∀ (H : Heap) (locs : List Loc) (ls : Array Slot), PB D cy A s S H locs → lv_has ls 3 [(0, va_rf v0), (1, .int v1)] → W p l e R s m args below meth c H locs 0 0 (MQ below (va_Qi post (PQ D cy A) A) args s 0 0 A) (F0 m 71 ls []) := by
  intro n
  induction n with
  | zero => intro v0 v1 S h; exact False.elim h
  | succ n ih =>
    intro v0 v1 S h H locs ls B hl
    unfold wX9_readText_71 at h
    refine lv_iload_n M.1 M.2.1 dX9_readText_71 rfl (lv_at hl 1 rfl) ?_
    refine lv_if_eq (tgt := 231) M.1 M.2.1 dX9_readText_72 (by decide) (fun c1 => ?_) (fun c1 => ?_)
    · have h := h.1 c1
      refine g_aload_n M dX9_readText_231 rfl (lv_at hl 0 rfl) ?_
      obtain ⟨o1, e1, hL1, hK1, h⟩ := h
      refine g_calli (k1 := 0) (k2 := 0) B (g_runV (n := 0) (As := []) (rm := rmX9_sign) M B e1 (kX9_sign (v0 := v0) l D cy h _) wmX9_137 wiX9_sign wsX9_sign wnX9 wcdX9_sign ⟨rfl, by decide, by decide, by decide +kernel⟩ ⟨Nat.le_trans (by decide) hRf, Nat.le_trans (by decide) hRl⟩ ⟨Nat.le_trans (by decide) hRc, Nat.le_trans (by decide) hRs⟩ hL1 hK1 (by decide) rfl rfl rfl hl.1 rfl ct_0 (by decide) dX9_readText_232) (by decide) (by decide) (fun a3 S2 H locs h B => ?_)
      refine lv_iconst (v := (-1)) M.1 M.2.1 dX9_readText_235 (by decide) ?_
      refine lv_icmp_eq (tgt := 248) M.1 M.2.1 dX9_readText_236 (by decide) (fun c4 => ?_) (fun c4 => ?_)
      · have h := h.1 c4
        refine g_aload_n M dX9_readText_248 rfl (lv_at hl 0 rfl) ?_
        refine g_aload_n M dX9_readText_249 rfl (lv_at hl 0 rfl) ?_
        refine gfX9_35 M B dX9_readText_250 h (fun a5 h => ?_)
        refine lv_bipush (v := 8) M.1 M.2.1 dX9_readText_253 (by decide) ?_
        refine g_iald M B dX9_readText_255 h (fun a6 h => ?_)
        refine lv_iconst (v := 0) M.1 M.2.1 dX9_readText_256 (by decide) ?_
        obtain ⟨o1, e1, hL1, hK1, h⟩ := h
        refine g_calli (k1 := 0) (k2 := 0) B (g_runV (n := 2) (As := [.int a6, .int 0]) (rm := rmX9_pending) M B e1 (kX9_pending (v0 := v0) (v1 := a6) (v2 := 0) l D cy h _) wmX9_173 wiX9_pending wsX9_pending wnX9 wcdX9_pending ⟨rfl, by decide, by decide, by decide +kernel⟩ ⟨Nat.le_trans (by decide) hRf, Nat.le_trans (by decide) hRl⟩ ⟨Nat.le_trans (by decide) hRc, Nat.le_trans (by decide) hRs⟩ hL1 hK1 (by decide) rfl rfl rfl hl.1 rfl ct_0 (by decide) dX9_readText_257) (by decide) (by decide) (fun a8 S7 H locs h B => ?_)
        refine lv_if_eq (tgt := 274) M.1 M.2.1 dX9_readText_260 (by decide) (fun c9 => ?_) (fun c9 => ?_)
        · have h := h.1 c9
          exact tX9_readText_274 M hr hlk hRf hRl hRc hRs _ h _ _ _ B (lv_sub hl [] rfl)
        · have h := h.2 c9
          refine g_aload_n M dX9_readText_263 rfl (lv_at hl 0 rfl) ?_
          refine g_aload_n M dX9_readText_264 rfl (lv_at hl 0 rfl) ?_
          refine gfX9_134 M B dX9_readText_265 h (fun a10 h => ?_)
          obtain ⟨o1, e1, hL1, hK1, h⟩ := h
          refine g_calli (k1 := 0) (k2 := 0) B (g_runV (n := 1) (As := [.int a10]) (rm := rmX9_wrong) M B e1 (kX9_wrong (v0 := v0) (v1 := a10) l D cy h _) wmX9_151 wiX9_wrong wsX9_wrong wnX9 wcdX9_wrong ⟨rfl, by decide, by decide, by decide +kernel⟩ ⟨Nat.le_trans (by decide) hRf, Nat.le_trans (by decide) hRl⟩ ⟨Nat.le_trans (by decide) hRc, Nat.le_trans (by decide) hRs⟩ hL1 hK1 (by decide) rfl rfl rfl hl.1 rfl ct_0 (by decide) dX9_readText_268) (by decide) (by decide) (fun a12 S11 H locs h B => ?_)
          refine lv_if_eq (tgt := 278) M.1 M.2.1 dX9_readText_271 (by decide) (fun c13 => ?_) (fun c13 => ?_)
          · have h := h.1 c13
            refine lv_iconst (v := 0) M.1 M.2.1 dX9_readText_278 (by decide) ?_
            exact g_zret M B hr hlk h (by decide) (by decide) dX9_readText_279
          · have h := h.2 c13
            exact tX9_readText_274 M hr hlk hRf hRl hRc hRs _ h _ _ _ B (lv_sub hl [] rfl)
      · have h := h.2 c4
        refine g_aload_n M dX9_readText_239 rfl (lv_at hl 0 rfl) ?_
        refine g_aload_n M dX9_readText_240 rfl (lv_at hl 0 rfl) ?_
        refine gfX9_131 M B dX9_readText_241 h (fun a14 h => ?_)
        obtain ⟨o1, e1, hL1, hK1, h⟩ := h
        refine g_calli (k1 := 0) (k2 := 0) B (g_runV (n := 1) (As := [.int a14]) (rm := rmX9_wrong) M B e1 (kX9_wrong (v0 := v0) (v1 := a14) l D cy h _) wmX9_151 wiX9_wrong wsX9_wrong wnX9 wcdX9_wrong ⟨rfl, by decide, by decide, by decide +kernel⟩ ⟨Nat.le_trans (by decide) hRf, Nat.le_trans (by decide) hRl⟩ ⟨Nat.le_trans (by decide) hRc, Nat.le_trans (by decide) hRs⟩ hL1 hK1 (by decide) rfl rfl rfl hl.1 rfl ct_0 (by decide) dX9_readText_244) (by decide) (by decide) (fun a16 S15 H locs h B => ?_)
        exact g_zret M B hr hlk h (by decide) (by decide) dX9_readText_247
    · have h := h.2 c1
      refine g_aload_n M dX9_readText_75 rfl (lv_at hl 0 rfl) ?_
      refine gfX9_131 M B dX9_readText_76 h (fun a17 h => ?_)
      refine lv_istore_n (lv' := [(2, .int a17), (0, va_rf v0), (1, .int v1)]) M.1 M.2.1 dX9_readText_79 rfl hl (by decide) (fl_e (fl_k rfl rfl (fl_i rfl fl_0))) (fun ls hl => ?_)
      refine g_aload_n M dX9_readText_80 rfl (lv_at hl 1 rfl) ?_
      refine lv_dup M.1 M.2.1 dX9_readText_81 (rf_cat _) ?_
      refine gfX9_131 M B dX9_readText_82 h (fun a18 h => ?_)
      refine lv_iconst (v := 1) M.1 M.2.1 dX9_readText_85 (by decide) ?_
      refine lv_iadd M.1 M.2.1 dX9_readText_86 ?_
      refine gpX9_131 M B dX9_readText_87 h (fun S19 H locs h B => ?_)
      refine g_aload_n M dX9_readText_90 rfl (lv_at hl 1 rfl) ?_
      refine gfX9_35 M B dX9_readText_91 h (fun a20 h => ?_)
      refine lv_bipush (v := 8) M.1 M.2.1 dX9_readText_94 (by decide) ?_
      refine g_iald M B dX9_readText_96 h (fun a21 h => ?_)
      refine lv_if_le (tgt := 141) M.1 M.2.1 dX9_readText_97 (by decide) (fun c22 => ?_) (fun c22 => ?_)
      · have h := h.1 c22
        exact tX9_readText_141 M hr hlk hRf hRl hRc hRs ih _ _ _ h _ _ _ B (lv_sub hl [1, 0] rfl)
      · have h := h.2 c22
        refine g_aload_n M dX9_readText_100 rfl (lv_at hl 1 rfl) ?_
        refine lv_ldc2 (v := 126926792778084) M.1 M.2.1 M.2.2.2.1 (M.2.2.2.2 _ wkX9_194) dX9_readText_101 ?_
        obtain ⟨o1, e1, hL1, hK1, h⟩ := h
        refine g_calli (k1 := 0) (k2 := 0) B (g_runV (n := 1) (As := [.long 126926792778084]) (rm := rmX9_isWord) M B e1 (kX9_isWord (v0 := v0) (v1 := 126926792778084) l D cy h _) wmX9_144 wiX9_isWord wsX9_isWord wnX9 wcdX9_isWord ⟨rfl, by decide, by decide, by decide +kernel⟩ ⟨Nat.le_trans (by decide) hRf, Nat.le_trans (by decide) hRl⟩ ⟨Nat.le_trans (by decide) hRc, Nat.le_trans (by decide) hRs⟩ hL1 hK1 (by decide) rfl rfl rfl hl.1 rfl ct_0 (by decide) dX9_readText_104) (by decide) (by decide) (fun a24 S23 H locs h B => ?_)
        refine lv_if_eq (tgt := 141) M.1 M.2.1 dX9_readText_107 (by decide) (fun c25 => ?_) (fun c25 => ?_)
        · have h := h.1 c25
          exact tX9_readText_141 M hr hlk hRf hRl hRc hRs ih _ _ _ h _ _ _ B (lv_sub hl [1, 0] rfl)
        · have h := h.2 c25
          refine g_aload_n M dX9_readText_110 rfl (lv_at hl 1 rfl) ?_
          refine g_aload_n M dX9_readText_111 rfl (lv_at hl 1 rfl) ?_
          refine gfX9_35 M B dX9_readText_112 h (fun a26 h => ?_)
          refine lv_bipush (v := 8) M.1 M.2.1 dX9_readText_115 (by decide) ?_
          refine g_iald M B dX9_readText_117 h (fun a27 h => ?_)
          refine lv_iconst (v := 0) M.1 M.2.1 dX9_readText_118 (by decide) ?_
          obtain ⟨o1, e1, hL1, hK1, h⟩ := h
          refine g_calli (k1 := 0) (k2 := 0) B (g_runV (n := 2) (As := [.int a27, .int 0]) (rm := rmX9_pending) M B e1 (kX9_pending (v0 := v0) (v1 := a27) (v2 := 0) l D cy h _) wmX9_173 wiX9_pending wsX9_pending wnX9 wcdX9_pending ⟨rfl, by decide, by decide, by decide +kernel⟩ ⟨Nat.le_trans (by decide) hRf, Nat.le_trans (by decide) hRl⟩ ⟨Nat.le_trans (by decide) hRc, Nat.le_trans (by decide) hRs⟩ hL1 hK1 (by decide) rfl rfl rfl hl.1 rfl ct_0 (by decide) dX9_readText_119) (by decide) (by decide) (fun a29 S28 H locs h B => ?_)
          refine lv_if_eq (tgt := 136) M.1 M.2.1 dX9_readText_122 (by decide) (fun c30 => ?_) (fun c30 => ?_)
          · have h := h.1 c30
            refine g_aload_n M dX9_readText_136 rfl (lv_at hl 1 rfl) ?_
            obtain ⟨o1, e1, hL1, hK1, h⟩ := h
            refine g_calli (k1 := 0) (k2 := 0) B (g_runV (n := 0) (As := []) (rm := rmX9_readSpread) M B e1 (kX9_readSpread (v0 := v0) l D cy h _) wmX9_196 wiX9_readSpread wsX9_readSpread wnX9 wcdX9_readSpread ⟨rfl, by decide, by decide, by decide +kernel⟩ ⟨Nat.le_trans (by decide) hRf, Nat.le_trans (by decide) hRl⟩ ⟨Nat.le_trans (by decide) hRc, Nat.le_trans (by decide) hRs⟩ hL1 hK1 (by decide) rfl rfl rfl hl.1 rfl ct_0 (by decide) dX9_readText_137) (by decide) (by decide) (fun a32 S31 H locs h B => ?_)
            exact g_zret M B hr hlk h (by decide) (by decide) dX9_readText_140
          · have h := h.2 c30
            refine g_aload_n M dX9_readText_125 rfl (lv_at hl 1 rfl) ?_
            refine g_aload_n M dX9_readText_126 rfl (lv_at hl 1 rfl) ?_
            refine gfX9_131 M B dX9_readText_127 h (fun a33 h => ?_)
            obtain ⟨o1, e1, hL1, hK1, h⟩ := h
            refine g_calli (k1 := 0) (k2 := 0) B (g_runV (n := 1) (As := [.int a33]) (rm := rmX9_wrong) M B e1 (kX9_wrong (v0 := v0) (v1 := a33) l D cy h _) wmX9_151 wiX9_wrong wsX9_wrong wnX9 wcdX9_wrong ⟨rfl, by decide, by decide, by decide +kernel⟩ ⟨Nat.le_trans (by decide) hRf, Nat.le_trans (by decide) hRl⟩ ⟨Nat.le_trans (by decide) hRc, Nat.le_trans (by decide) hRs⟩ hL1 hK1 (by decide) rfl rfl rfl hl.1 rfl ct_0 (by decide) dX9_readText_130) (by decide) (by decide) (fun a35 S34 H locs h B => ?_)
            refine lv_goto (tgt := 140) M.1 M.2.1 dX9_readText_133 (by decide) ?_
            exact g_zret M B hr hlk h (by decide) (by decide) dX9_readText_140
set_option maxRecDepth 100000 in
set_option maxHeartbeats 4000000 in
theorem tX9_readText {post : Int32 → Pool → Prop} (M : MC p m c cX9_readText 3 s args RX9) (hr : meth.sig.returnType = (some FieldType.boolean)) (hlk : meth.locks = false) (hRf : 5 ≤ R.frames) (hRl : 112 ≤ R.locals) (hRc : 0 ≤ R.cells) (hRs : 0 ≤ R.slots) : ∀ (v0 : Option Nat) (S : Pool), wX9_readText post v0 S → ∀ (H : Heap) (locs : List Loc) (ls : Array Slot), PB D cy A s S H locs → lv_has ls 3 [(0, va_rf v0)] → W p l e R s m args below meth c H locs 0 0 (MQ below (va_Qi post (PQ D cy A) A) args s 0 0 A) (F0 m 0 ls []) := by
  intro v0 S h H locs ls B hl
  unfold wX9_readText at h
  refine g_aload_n M dX9_readText_0 rfl (lv_at hl 0 rfl) ?_
  refine lv_iconst (v := 0) M.1 M.2.1 dX9_readText_1 (by decide) ?_
  refine gpX9_166 M B dX9_readText_2 h (fun S1 H locs h B => ?_)
  refine g_aload_n M dX9_readText_5 rfl (lv_at hl 0 rfl) ?_
  refine gfX9_35 M B dX9_readText_6 h (fun a2 h => ?_)
  refine lv_bipush (v := 8) M.1 M.2.1 dX9_readText_9 (by decide) ?_
  refine lv_iconst (v := 0) M.1 M.2.1 dX9_readText_11 (by decide) ?_
  refine g_iast M B dX9_readText_12 h (fun S3 H locs h B => ?_)
  refine g_aload_n M dX9_readText_13 rfl (lv_at hl 0 rfl) ?_
  refine gfX9_54 M B dX9_readText_14 h (fun a4 h => ?_)
  refine lv_bipush (v := 8) M.1 M.2.1 dX9_readText_17 (by decide) ?_
  refine lv_iconst (v := (-1)) M.1 M.2.1 dX9_readText_19 (by decide) ?_
  refine g_iast M B dX9_readText_20 h (fun S5 H locs h B => ?_)
  refine g_aload_n M dX9_readText_21 rfl (lv_at hl 0 rfl) ?_
  refine lv_ldc2 (v := 25209) M.1 M.2.1 M.2.2.2.1 (M.2.2.2.2 _ wkX9_192) dX9_readText_22 ?_
  obtain ⟨o1, e1, hL1, hK1, h⟩ := h
  refine g_calli (k1 := 0) (k2 := 0) B (g_runV (n := 1) (As := [.long 25209]) (rm := rmX9_passes) M B e1 (kX9_passes (v0 := v0) (v1 := 25209) l D cy h _) wmX9_189 wiX9_passes wsX9_passes wnX9 wcdX9_passes ⟨rfl, by decide, by decide, by decide +kernel⟩ ⟨Nat.le_trans (by decide) hRf, Nat.le_trans (by decide) hRl⟩ ⟨Nat.le_trans (by decide) hRc, Nat.le_trans (by decide) hRs⟩ hL1 hK1 (by decide) rfl rfl rfl hl.1 rfl ct_0 (by decide) dX9_readText_25) (by decide) (by decide) (fun a7 S6 H locs h B => ?_)
  refine lv_if_eq (tgt := 38) M.1 M.2.1 dX9_readText_28 (by decide) (fun c8 => ?_) (fun c8 => ?_)
  · have h := h.1 c8
    refine lv_iconst (v := 0) M.1 M.2.1 dX9_readText_38 (by decide) ?_
    exact g_zret M B hr hlk h (by decide) (by decide) dX9_readText_39
  · have h := h.2 c8
    refine g_aload_n M dX9_readText_31 rfl (lv_at hl 0 rfl) ?_
    obtain ⟨o1, e1, hL1, hK1, h⟩ := h
    refine g_calli (k1 := 0) (k2 := 0) B (g_runV (n := 0) (As := []) (rm := rmX9_readField) M B e1 (kX9_readField (v0 := v0) l D cy h _) wmX9_185 wiX9_readField wsX9_readField wnX9 wcdX9_readField ⟨rfl, by decide, by decide, by decide +kernel⟩ ⟨Nat.le_trans (by decide) hRf, Nat.le_trans (by decide) hRl⟩ ⟨Nat.le_trans (by decide) hRc, Nat.le_trans (by decide) hRs⟩ hL1 hK1 (by decide) rfl rfl rfl hl.1 rfl ct_0 (by decide) dX9_readText_32) (by decide) (by decide) (fun a10 S9 H locs h B => ?_)
    refine lv_if_ne (tgt := 40) M.1 M.2.1 dX9_readText_35 (by decide) (fun c11 => ?_) (fun c11 => ?_)
    · have h := h.2 c11
      refine g_aload_n M dX9_readText_40 rfl (lv_at hl 0 rfl) ?_
      refine gfX9_32 M B dX9_readText_41 h (fun a12 h => ?_)
      refine lv_bipush (v := 8) M.1 M.2.1 dX9_readText_44 (by decide) ?_
      refine g_aload_n M dX9_readText_46 rfl (lv_at hl 0 rfl) ?_
      refine gfX9_154 M B dX9_readText_47 h (fun a13 h => ?_)
      refine g_iast M B dX9_readText_50 h (fun S14 H locs h B => ?_)
      refine g_aload_n M dX9_readText_51 rfl (lv_at hl 0 rfl) ?_
      obtain ⟨o1, e1, hL1, hK1, h⟩ := h
      refine g_calli (k1 := 0) (k2 := 0) B (g_runV (n := 0) (As := []) (rm := rmX9_sign) M B e1 (kX9_sign (v0 := v0) l D cy h _) wmX9_137 wiX9_sign wsX9_sign wnX9 wcdX9_sign ⟨rfl, by decide, by decide, by decide +kernel⟩ ⟨Nat.le_trans (by decide) hRf, Nat.le_trans (by decide) hRl⟩ ⟨Nat.le_trans (by decide) hRc, Nat.le_trans (by decide) hRs⟩ hL1 hK1 (by decide) rfl rfl rfl hl.1 rfl ct_0 (by decide) dX9_readText_52) (by decide) (by decide) (fun a16 S15 H locs h B => ?_)
      refine lv_bipush (v := 59) M.1 M.2.1 dX9_readText_55 (by decide) ?_
      refine lv_icmp_eq (tgt := 69) M.1 M.2.1 dX9_readText_57 (by decide) (fun c17 => ?_) (fun c17 => ?_)
      · have h := h.1 c17
        refine lv_iconst (v := 1) M.1 M.2.1 dX9_readText_69 (by decide) ?_
        refine lv_istore_n (lv' := [(1, .int 1), (0, va_rf v0)]) M.1 M.2.1 dX9_readText_70 rfl hl (by decide) (fl_e (fl_r rfl fl_0)) (fun ls hl => ?_)
        obtain ⟨n1, h⟩ := h
        exact tX9_readText_71 M hr hlk hRf hRl hRc hRs n1 _ _ _ h _ _ _ B (lv_sub hl [1, 0] rfl)
      · have h := h.2 c17
        refine g_aload_n M dX9_readText_60 rfl (lv_at hl 0 rfl) ?_
        refine g_aload_n M dX9_readText_61 rfl (lv_at hl 0 rfl) ?_
        refine gfX9_131 M B dX9_readText_62 h (fun a18 h => ?_)
        obtain ⟨o1, e1, hL1, hK1, h⟩ := h
        refine g_calli (k1 := 0) (k2 := 0) B (g_runV (n := 1) (As := [.int a18]) (rm := rmX9_wrong) M B e1 (kX9_wrong (v0 := v0) (v1 := a18) l D cy h _) wmX9_151 wiX9_wrong wsX9_wrong wnX9 wcdX9_wrong ⟨rfl, by decide, by decide, by decide +kernel⟩ ⟨Nat.le_trans (by decide) hRf, Nat.le_trans (by decide) hRl⟩ ⟨Nat.le_trans (by decide) hRc, Nat.le_trans (by decide) hRs⟩ hL1 hK1 (by decide) rfl rfl rfl hl.1 rfl ct_0 (by decide) dX9_readText_65) (by decide) (by decide) (fun a20 S19 H locs h B => ?_)
        exact g_zret M B hr hlk h (by decide) (by decide) dX9_readText_68
    · have h := h.1 c11
      refine lv_iconst (v := 0) M.1 M.2.1 dX9_readText_38 (by decide) ?_
      exact g_zret M B hr hlk h (by decide) (by decide) dX9_readText_39
end
set_option maxRecDepth 100000 in
set_option maxHeartbeats 4000000 in
theorem kX9_readText (l : Launch) (D : va_G) (cy : Nat → ClassId) {post : Int32 → Pool → Prop} {v0 : Option Nat} {S : Pool} (h : wX9_readText post v0 S) : MetI l yX9_readText cX9_readText 3 (some FieldType.boolean) rmX9_readText [va_rf v0] D cy S post := by
  intro sz
  refine Met.ofW (cc := cX9_readText) (maxL := 3) (ret := (some FieldType.boolean)) (by decide) rfl ?_
  intro p e s m args below meth c s₁ B0 hml hv
  obtain ⟨rfl, hpp⟩ := hv
  have hts := atoms_spec (ws := .code yX9_readText cX9_readText 3 (some FieldType.boolean) :: Gw) B0.pre
  obtain rfl : s.heap.size = sz := hpp.1
  have hl := lv_entry [va_rf v0] (n := 3) (by rw [sl_r, sl_0]; decide)
  rw [lg_entry_eq]
  rw [la_r, la_0] at hl
  exact tX9_readText (l := l) (R := rmX9_readText) ⟨B0.exec, B0.bytes, hml, findClass_of_methodNamed B0.named, fun w hw => hts w (List.mem_cons_of_mem _ hw)⟩ B0.returns B0.notSynchronized (Nat.le_refl _) (Nat.le_refl _) (Nat.le_refl _) (Nat.le_refl _) _ _ h _ _ _ hpp.pb (lv_sub hl [0] rfl)
-- X9_ask: LogHuntModel.ask(I)I
def wX9_ask_273 (K194 : Option Nat → Int32 → Int32 → Pool → Prop) (post : Int32 → Pool → Prop) : Nat → Option Nat → Int32 → Int32 → Int32 → Int32 → Int32 → Pool → Prop
  | 0 => fun _ _ _ _ _ _ _ => False
  | n + 1 => fun v0 v2 v3 v4 v5 v6 S => br (3 ≤ v6) (K194 v0 v2 (v3 + 1) S) (xR S v0 9 16 fun a2 => xR S v0 9 16 fun a3 => xaI S a3 10 (((3 : Int32) * v4) + v6) fun a4 => xsI S a2 10 (((3 : Int32) * v5) + v6) a4 fun S5 => wX9_ask_273 K194 post n v0 v2 v3 v4 v5 (v6 + 1) S5)
def wX9_ask_194 (post : Int32 → Pool → Prop) : Nat → Option Nat → Int32 → Int32 → Pool → Prop
  | 0 => fun _ _ _ _ => False
  | n + 1 => fun v0 v2 v3 S => br (6 ≤ v3) (post v2 S) (xR S v0 9 14 fun a2 => xR S v0 9 14 fun a3 => xaI S a3 11 ((48 : Int32) + v3) fun a4 => xsZ S a2 11 (((6 : Int32) * v2) + v3) a4 fun S5 => xR S5 v0 9 15 fun a6 => xR S5 v0 9 15 fun a7 => xaI S5 a7 10 ((48 : Int32) + v3) fun a8 => xsI S5 a6 10 (((6 : Int32) * v2) + v3) a8 fun S9 => xR S9 v0 9 17 fun a10 => xR S9 v0 9 17 fun a11 => xaI S9 a11 11 ((48 : Int32) + v3) fun a12 => xsZ S9 a10 11 (((6 : Int32) * v2) + v3) a12 fun S13 => xR S13 v0 9 18 fun a14 => xR S13 v0 9 18 fun a15 => xaI S13 a15 10 ((48 : Int32) + v3) fun a16 => xsI S13 a14 10 (((6 : Int32) * v2) + v3) a16 fun S17 => ∃ n1, wX9_ask_273 (wX9_ask_194 post n) post n1 v0 v2 v3 ((48 : Int32) + v3) (((6 : Int32) * v2) + v3) 0 S17)
def wX9_ask_103 (post : Int32 → Pool → Prop) (v0 : Option Nat) (S : Pool) : Prop := xI S v0 9 0 fun a1 => br (a1 ≤ 0) (xI S v0 9 11 fun a3 => xI S v0 9 11 fun a4 => xpI S v0 9 11 (a4 + 1) fun S5 => xR S5 v0 9 12 fun a6 => xR S5 v0 9 12 fun a7 => xaI S5 a7 10 8 fun a8 => xsI S5 a6 10 a3 a8 fun S9 => xR S9 v0 9 13 fun a10 => xR S9 v0 9 13 fun a11 => xaI S9 a11 10 8 fun a12 => xsI S9 a10 10 a3 a12 fun S13 => xR S13 v0 9 19 fun a14 => xR S13 v0 9 19 fun a15 => xaI S13 a15 10 8 fun a16 => xsI S13 a14 10 a3 a16 fun S17 => xR S17 v0 9 20 fun a18 => xR S17 v0 9 20 fun a19 => xaI S17 a19 10 8 fun a20 => xsI S17 a18 10 a3 a20 fun S21 => xR S21 v0 9 21 fun a22 => xR S21 v0 9 21 fun a23 => xaI S21 a23 10 8 fun a24 => xsI S21 a22 10 a3 a24 fun S25 => ∃ n1, wX9_ask_194 post n1 v0 a3 0 S25) (post 0 S)
def wX9_ask_33 (post : Int32 → Pool → Prop) (v0 : Option Nat) (v1 : Int32) (z0 : Int32) (z1 : Option Nat) (S : Pool) : Prop := xpI S z1 9 0 z0 fun S1 => xI S1 v0 9 0 fun a2 => br (a2 ≤ 0) (xpI S1 v0 9 30 ((-1)) fun S4 => xrc S4 v0 9 (wX9_readText (fun a6 S5 => br (a6 = 0) (xpI S5 v0 9 0 2 fun S16 => wX9_ask_103 post v0 S16) (xI S5 v0 9 32 fun a8 => xR S5 v0 9 3 fun a9 => xaI S5 a9 10 v1 fun a10 => br ((a8 &&& (a10 ^^^ ((-1)))) = 0) (xI S5 v0 9 11 fun a12 => br (a12 = 8) (xpI S5 v0 9 0 4 fun S14 => wX9_ask_103 post v0 S14) (wX9_ask_103 post v0 S5)) (xpI S5 v0 9 0 3 fun S15 => wX9_ask_103 post v0 S15))) v0 S4)) (post 0 S1)
def wX9_ask (post : Int32 → Pool → Prop) (v0 : Option Nat) (v1 : Int32) (S : Pool) : Prop := xI S v0 9 27 fun a1 => xpI S v0 9 28 a1 fun S2 => xpI S2 v0 9 27 0 fun S3 => xpI S3 v0 9 29 0 fun S4 => wX9_isIn (fun a6 S5 => br (a6 = 0) (wX9_ask_33 post v0 v1 1 v0 S5) (wX9_ask_33 post v0 v1 0 v0 S5)) v1 0 3 S4
def rmX9_ask : Room := { frames := 6, cells := 0, slots := 0, locals := 134 }
section
variable {p : Program} {l : Launch} {e : Env} {R : Room} {s : State} {m : MethodId} {args : Array Value} {below : List Frame} {meth : Method} {c : Code} {D : va_G} {cy : Nat → ClassId} {A : Nat → Prop}
set_option maxRecDepth 100000 in
set_option maxHeartbeats 4000000 in
theorem tX9_ask_273 {K194 : Option Nat → Int32 → Int32 → Pool → Prop} {post : Int32 → Pool → Prop} (M : MC p m c cX9_ask 7 s args RX9) (hr : meth.sig.returnType = (some FieldType.int)) (hlk : meth.locks = false) (hRf : 6 ≤ R.frames) (hRl : 134 ≤ R.locals) (hRc : 0 ≤ R.cells) (hRs : 0 ≤ R.slots) (hK194 : ∀ (v0 : Option Nat) (v2 : Int32) (v3 : Int32) (S : Pool), K194 v0 v2 v3 S → ∀ (H : Heap) (locs : List Loc) (ls : Array Slot), PB D cy A s S H locs → lv_has ls 7 [(0, va_rf v0), (2, .int v2), (3, .int v3)] → W p l e R s m args below meth c H locs 0 0 (MQ below (va_Qi post (PQ D cy A) A) args s 0 0 A) (F0 m 194 ls [])) : ∀ (n : Nat) (v0 : Option Nat) (v2 : Int32) (v3 : Int32) (v4 : Int32) (v5 : Int32) (v6 : Int32) (S : Pool), wX9_ask_273 K194 post n v0 v2 v3 v4 v5 v6 S → ∀ (H : Heap) (locs : List Loc) (ls : Array Slot), PB D cy A s S H locs → lv_has ls 7 [(0, va_rf v0), (2, .int v2), (3, .int v3), (4, .int v4), (5, .int v5), (6, .int v6)] → W p l e R s m args below meth c H locs 0 0 (MQ below (va_Qi post (PQ D cy A) A) args s 0 0 A) (F0 m 273 ls []) := by
  intro n
  induction n with
  | zero => intro v0 v2 v3 v4 v5 v6 S h; exact False.elim h
  | succ n ih =>
    intro v0 v2 v3 v4 v5 v6 S h H locs ls B hl
    unfold wX9_ask_273 at h
    refine lv_iload M.1 M.2.1 dX9_ask_273 (lv_at hl 5 rfl) ?_
    refine lv_iconst (v := 3) M.1 M.2.1 dX9_ask_275 (by decide) ?_
    refine lv_icmp_ge (tgt := 309) M.1 M.2.1 dX9_ask_276 (by decide) (fun c1 => ?_) (fun c1 => ?_)
    · have h := h.1 c1
      refine lv_iinc (v := v3 + 1) (lv' := [(3, .int (v3 + 1)), (0, va_rf v0), (2, .int v2), (4, .int v4), (5, .int v5), (6, .int v6)]) M.1 M.2.1 dX9_ask_309 hl (k := 2) rfl (by rfl) (by decide) (fl_e (fl_k rfl rfl (fl_i rfl (fl_d rfl (fl_k rfl rfl (fl_k rfl rfl (fl_k rfl rfl fl_0))))))) (fun ls hl => ?_)
      refine lv_goto (tgt := 194) M.1 M.2.1 dX9_ask_312 (by decide) ?_
      exact hK194 _ _ _ _ h _ _ _ B (lv_sub hl [1, 2, 0] rfl)
    · have h := h.2 c1
      refine g_aload_n M dX9_ask_279 rfl (lv_at hl 0 rfl) ?_
      refine gfX9_45 M B dX9_ask_280 h (fun a2 h => ?_)
      refine lv_iconst (v := 3) M.1 M.2.1 dX9_ask_283 (by decide) ?_
      refine lv_iload M.1 M.2.1 dX9_ask_284 (lv_at hl 4 rfl) ?_
      refine lv_imul M.1 M.2.1 dX9_ask_286 ?_
      refine lv_iload M.1 M.2.1 dX9_ask_287 (lv_at hl 5 rfl) ?_
      refine lv_iadd M.1 M.2.1 dX9_ask_289 ?_
      refine g_aload_n M dX9_ask_290 rfl (lv_at hl 0 rfl) ?_
      refine gfX9_45 M B dX9_ask_291 h (fun a3 h => ?_)
      refine lv_iconst (v := 3) M.1 M.2.1 dX9_ask_294 (by decide) ?_
      refine lv_iload M.1 M.2.1 dX9_ask_295 (lv_at hl 3 rfl) ?_
      refine lv_imul M.1 M.2.1 dX9_ask_297 ?_
      refine lv_iload M.1 M.2.1 dX9_ask_298 (lv_at hl 5 rfl) ?_
      refine lv_iadd M.1 M.2.1 dX9_ask_300 ?_
      refine g_iald M B dX9_ask_301 h (fun a4 h => ?_)
      refine g_iast M B dX9_ask_302 h (fun S5 H locs h B => ?_)
      refine lv_iinc (v := v6 + 1) (lv' := [(6, .int (v6 + 1)), (0, va_rf v0), (2, .int v2), (3, .int v3), (4, .int v4), (5, .int v5)]) M.1 M.2.1 dX9_ask_303 hl (k := 5) rfl (by rfl) (by decide) (fl_e (fl_k rfl rfl (fl_k rfl rfl (fl_k rfl rfl (fl_k rfl rfl (fl_i rfl (fl_d rfl fl_0))))))) (fun ls hl => ?_)
      refine lv_goto (tgt := 273) M.1 M.2.1 dX9_ask_306 (by decide) ?_
      exact ih _ _ _ _ _ _ _ h _ _ _ B (lv_sub hl [1, 2, 3, 4, 5, 0] rfl)
set_option maxRecDepth 100000 in
set_option maxHeartbeats 4000000 in
theorem tX9_ask_194 {post : Int32 → Pool → Prop} (M : MC p m c cX9_ask 7 s args RX9) (hr : meth.sig.returnType = (some FieldType.int)) (hlk : meth.locks = false) (hRf : 6 ≤ R.frames) (hRl : 134 ≤ R.locals) (hRc : 0 ≤ R.cells) (hRs : 0 ≤ R.slots) : ∀ (n : Nat) (v0 : Option Nat) (v2 : Int32) (v3 : Int32) (S : Pool), wX9_ask_194 post n v0 v2 v3 S → ∀ (H : Heap) (locs : List Loc) (ls : Array Slot), PB D cy A s S H locs → lv_has ls 7 [(0, va_rf v0), (2, .int v2), (3, .int v3)] → W p l e R s m args below meth c H locs 0 0 (MQ below (va_Qi post (PQ D cy A) A) args s 0 0 A) (F0 m 194 ls []) := by
  intro n
  induction n with
  | zero => intro v0 v2 v3 S h; exact False.elim h
  | succ n ih =>
    intro v0 v2 v3 S h H locs ls B hl
    unfold wX9_ask_194 at h
    refine lv_iload_n M.1 M.2.1 dX9_ask_194 rfl (lv_at hl 2 rfl) ?_
    refine lv_bipush (v := 6) M.1 M.2.1 dX9_ask_195 (by decide) ?_
    refine lv_icmp_ge (tgt := 315) M.1 M.2.1 dX9_ask_197 (by decide) (fun c1 => ?_) (fun c1 => ?_)
    · have h := h.1 c1
      refine lv_iload_n M.1 M.2.1 dX9_ask_315 rfl (lv_at hl 1 rfl) ?_
      exact g_iret M B hr hlk h (by decide) (by decide) dX9_ask_316
    · have h := h.2 c1
      refine lv_bipush (v := 48) M.1 M.2.1 dX9_ask_200 (by decide) ?_
      refine lv_iload_n M.1 M.2.1 dX9_ask_202 rfl (lv_at hl 2 rfl) ?_
      refine lv_iadd M.1 M.2.1 dX9_ask_203 ?_
      refine lv_istore (lv' := [(4, .int ((48 : Int32) + v3)), (0, va_rf v0), (2, .int v2), (3, .int v3)]) M.1 M.2.1 dX9_ask_204 hl (by decide) (fl_e (fl_k rfl rfl (fl_k rfl rfl (fl_i rfl fl_0)))) (fun ls hl => ?_)
      refine lv_bipush (v := 6) M.1 M.2.1 dX9_ask_206 (by decide) ?_
      refine lv_iload_n M.1 M.2.1 dX9_ask_208 rfl (lv_at hl 2 rfl) ?_
      refine lv_imul M.1 M.2.1 dX9_ask_209 ?_
      refine lv_iload_n M.1 M.2.1 dX9_ask_210 rfl (lv_at hl 3 rfl) ?_
      refine lv_iadd M.1 M.2.1 dX9_ask_211 ?_
      refine lv_istore (lv' := [(5, .int (((6 : Int32) * v2) + v3)), (4, .int ((48 : Int32) + v3)), (0, va_rf v0), (2, .int v2), (3, .int v3)]) M.1 M.2.1 dX9_ask_212 hl (by decide) (fl_e (fl_i rfl (fl_k rfl rfl (fl_k rfl rfl (fl_k rfl rfl fl_0))))) (fun ls hl => ?_)
      refine g_aload_n M dX9_ask_214 rfl (lv_at hl 2 rfl) ?_
      refine gfX9_38 M B dX9_ask_215 h (fun a2 h => ?_)
      refine lv_iload M.1 M.2.1 dX9_ask_218 (lv_at hl 0 rfl) ?_
      refine g_aload_n M dX9_ask_220 rfl (lv_at hl 2 rfl) ?_
      refine gfX9_38 M B dX9_ask_221 h (fun a3 h => ?_)
      refine lv_iload M.1 M.2.1 dX9_ask_224 (lv_at hl 1 rfl) ?_
      refine g_zald M B dX9_ask_226 h (fun a4 h => ?_)
      refine g_zast M B dX9_ask_227 h (fun S5 H locs h B => ?_)
      refine g_aload_n M dX9_ask_228 rfl (lv_at hl 2 rfl) ?_
      refine gfX9_42 M B dX9_ask_229 h (fun a6 h => ?_)
      refine lv_iload M.1 M.2.1 dX9_ask_232 (lv_at hl 0 rfl) ?_
      refine g_aload_n M dX9_ask_234 rfl (lv_at hl 2 rfl) ?_
      refine gfX9_42 M B dX9_ask_235 h (fun a7 h => ?_)
      refine lv_iload M.1 M.2.1 dX9_ask_238 (lv_at hl 1 rfl) ?_
      refine g_iald M B dX9_ask_240 h (fun a8 h => ?_)
      refine g_iast M B dX9_ask_241 h (fun S9 H locs h B => ?_)
      refine g_aload_n M dX9_ask_242 rfl (lv_at hl 2 rfl) ?_
      refine gfX9_48 M B dX9_ask_243 h (fun a10 h => ?_)
      refine lv_iload M.1 M.2.1 dX9_ask_246 (lv_at hl 0 rfl) ?_
      refine g_aload_n M dX9_ask_248 rfl (lv_at hl 2 rfl) ?_
      refine gfX9_48 M B dX9_ask_249 h (fun a11 h => ?_)
      refine lv_iload M.1 M.2.1 dX9_ask_252 (lv_at hl 1 rfl) ?_
      refine g_zald M B dX9_ask_254 h (fun a12 h => ?_)
      refine g_zast M B dX9_ask_255 h (fun S13 H locs h B => ?_)
      refine g_aload_n M dX9_ask_256 rfl (lv_at hl 2 rfl) ?_
      refine gfX9_51 M B dX9_ask_257 h (fun a14 h => ?_)
      refine lv_iload M.1 M.2.1 dX9_ask_260 (lv_at hl 0 rfl) ?_
      refine g_aload_n M dX9_ask_262 rfl (lv_at hl 2 rfl) ?_
      refine gfX9_51 M B dX9_ask_263 h (fun a15 h => ?_)
      refine lv_iload M.1 M.2.1 dX9_ask_266 (lv_at hl 1 rfl) ?_
      refine g_iald M B dX9_ask_268 h (fun a16 h => ?_)
      refine g_iast M B dX9_ask_269 h (fun S17 H locs h B => ?_)
      refine lv_iconst (v := 0) M.1 M.2.1 dX9_ask_270 (by decide) ?_
      refine lv_istore (lv' := [(6, .int 0), (5, .int (((6 : Int32) * v2) + v3)), (4, .int ((48 : Int32) + v3)), (0, va_rf v0), (2, .int v2), (3, .int v3)]) M.1 M.2.1 dX9_ask_271 hl (by decide) (fl_e (fl_i rfl (fl_k rfl rfl (fl_k rfl rfl (fl_k rfl rfl (fl_k rfl rfl fl_0)))))) (fun ls hl => ?_)
      obtain ⟨n1, h⟩ := h
      exact tX9_ask_273 M hr hlk hRf hRl hRc hRs ih n1 _ _ _ _ _ _ _ h _ _ _ B (lv_sub hl [3, 4, 5, 2, 1, 0] rfl)
set_option maxRecDepth 100000 in
set_option maxHeartbeats 4000000 in
theorem tX9_ask_103 {post : Int32 → Pool → Prop} (M : MC p m c cX9_ask 7 s args RX9) (hr : meth.sig.returnType = (some FieldType.int)) (hlk : meth.locks = false) (hRf : 6 ≤ R.frames) (hRl : 134 ≤ R.locals) (hRc : 0 ≤ R.cells) (hRs : 0 ≤ R.slots) : ∀ (v0 : Option Nat) (S : Pool), wX9_ask_103 post v0 S → ∀ (H : Heap) (locs : List Loc) (ls : Array Slot), PB D cy A s S H locs → lv_has ls 7 [(0, va_rf v0)] → W p l e R s m args below meth c H locs 0 0 (MQ below (va_Qi post (PQ D cy A) A) args s 0 0 A) (F0 m 103 ls []) := by
  intro v0 S h H locs ls B hl
  unfold wX9_ask_103 at h
  refine g_aload_n M dX9_ask_103 rfl (lv_at hl 0 rfl) ?_
  refine gfX9_99 M B dX9_ask_104 h (fun a1 h => ?_)
  refine lv_if_le (tgt := 112) M.1 M.2.1 dX9_ask_107 (by decide) (fun c2 => ?_) (fun c2 => ?_)
  · have h := h.1 c2
    refine g_aload_n M dX9_ask_112 rfl (lv_at hl 0 rfl) ?_
    refine gfX9_102 M B dX9_ask_113 h (fun a3 h => ?_)
    refine lv_istore_n (lv' := [(2, .int a3), (0, va_rf v0)]) M.1 M.2.1 dX9_ask_116 rfl hl (by decide) (fl_e (fl_k rfl rfl fl_0)) (fun ls hl => ?_)
    refine g_aload_n M dX9_ask_117 rfl (lv_at hl 1 rfl) ?_
    refine lv_dup M.1 M.2.1 dX9_ask_118 (rf_cat _) ?_
    refine gfX9_102 M B dX9_ask_119 h (fun a4 h => ?_)
    refine lv_iconst (v := 1) M.1 M.2.1 dX9_ask_122 (by decide) ?_
    refine lv_iadd M.1 M.2.1 dX9_ask_123 ?_
    refine gpX9_102 M B dX9_ask_124 h (fun S5 H locs h B => ?_)
    refine g_aload_n M dX9_ask_127 rfl (lv_at hl 1 rfl) ?_
    refine gfX9_32 M B dX9_ask_128 h (fun a6 h => ?_)
    refine lv_iload_n M.1 M.2.1 dX9_ask_131 rfl (lv_at hl 0 rfl) ?_
    refine g_aload_n M dX9_ask_132 rfl (lv_at hl 1 rfl) ?_
    refine gfX9_32 M B dX9_ask_133 h (fun a7 h => ?_)
    refine lv_bipush (v := 8) M.1 M.2.1 dX9_ask_136 (by decide) ?_
    refine g_iald M B dX9_ask_138 h (fun a8 h => ?_)
    refine g_iast M B dX9_ask_139 h (fun S9 H locs h B => ?_)
    refine g_aload_n M dX9_ask_140 rfl (lv_at hl 1 rfl) ?_
    refine gfX9_35 M B dX9_ask_141 h (fun a10 h => ?_)
    refine lv_iload_n M.1 M.2.1 dX9_ask_144 rfl (lv_at hl 0 rfl) ?_
    refine g_aload_n M dX9_ask_145 rfl (lv_at hl 1 rfl) ?_
    refine gfX9_35 M B dX9_ask_146 h (fun a11 h => ?_)
    refine lv_bipush (v := 8) M.1 M.2.1 dX9_ask_149 (by decide) ?_
    refine g_iald M B dX9_ask_151 h (fun a12 h => ?_)
    refine g_iast M B dX9_ask_152 h (fun S13 H locs h B => ?_)
    refine g_aload_n M dX9_ask_153 rfl (lv_at hl 1 rfl) ?_
    refine gfX9_54 M B dX9_ask_154 h (fun a14 h => ?_)
    refine lv_iload_n M.1 M.2.1 dX9_ask_157 rfl (lv_at hl 0 rfl) ?_
    refine g_aload_n M dX9_ask_158 rfl (lv_at hl 1 rfl) ?_
    refine gfX9_54 M B dX9_ask_159 h (fun a15 h => ?_)
    refine lv_bipush (v := 8) M.1 M.2.1 dX9_ask_162 (by decide) ?_
    refine g_iald M B dX9_ask_164 h (fun a16 h => ?_)
    refine g_iast M B dX9_ask_165 h (fun S17 H locs h B => ?_)
    refine g_aload_n M dX9_ask_166 rfl (lv_at hl 1 rfl) ?_
    refine gfX9_57 M B dX9_ask_167 h (fun a18 h => ?_)
    refine lv_iload_n M.1 M.2.1 dX9_ask_170 rfl (lv_at hl 0 rfl) ?_
    refine g_aload_n M dX9_ask_171 rfl (lv_at hl 1 rfl) ?_
    refine gfX9_57 M B dX9_ask_172 h (fun a19 h => ?_)
    refine lv_bipush (v := 8) M.1 M.2.1 dX9_ask_175 (by decide) ?_
    refine g_iald M B dX9_ask_177 h (fun a20 h => ?_)
    refine g_iast M B dX9_ask_178 h (fun S21 H locs h B => ?_)
    refine g_aload_n M dX9_ask_179 rfl (lv_at hl 1 rfl) ?_
    refine gfX9_60 M B dX9_ask_180 h (fun a22 h => ?_)
    refine lv_iload_n M.1 M.2.1 dX9_ask_183 rfl (lv_at hl 0 rfl) ?_
    refine g_aload_n M dX9_ask_184 rfl (lv_at hl 1 rfl) ?_
    refine gfX9_60 M B dX9_ask_185 h (fun a23 h => ?_)
    refine lv_bipush (v := 8) M.1 M.2.1 dX9_ask_188 (by decide) ?_
    refine g_iald M B dX9_ask_190 h (fun a24 h => ?_)
    refine g_iast M B dX9_ask_191 h (fun S25 H locs h B => ?_)
    refine lv_iconst (v := 0) M.1 M.2.1 dX9_ask_192 (by decide) ?_
    refine lv_istore_n (lv' := [(3, .int 0), (2, .int a3), (0, va_rf v0)]) M.1 M.2.1 dX9_ask_193 rfl hl (by decide) (fl_e (fl_i rfl (fl_k rfl rfl fl_0))) (fun ls hl => ?_)
    obtain ⟨n1, h⟩ := h
    exact tX9_ask_194 M hr hlk hRf hRl hRc hRs n1 _ _ _ _ h _ _ _ B (lv_sub hl [2, 1, 0] rfl)
  · have h := h.2 c2
    refine lv_iconst (v := 0) M.1 M.2.1 dX9_ask_110 (by decide) ?_
    exact g_iret M B hr hlk h (by decide) (by decide) dX9_ask_111
set_option maxRecDepth 100000 in
set_option maxHeartbeats 4000000 in
theorem tX9_ask_33 {post : Int32 → Pool → Prop} (M : MC p m c cX9_ask 7 s args RX9) (hr : meth.sig.returnType = (some FieldType.int)) (hlk : meth.locks = false) (hRf : 6 ≤ R.frames) (hRl : 134 ≤ R.locals) (hRc : 0 ≤ R.cells) (hRs : 0 ≤ R.slots) : ∀ (v0 : Option Nat) (v1 : Int32) (z0 : Int32) (z1 : Option Nat) (S : Pool), wX9_ask_33 post v0 v1 z0 z1 S → ∀ (H : Heap) (locs : List Loc) (ls : Array Slot), PB D cy A s S H locs → lv_has ls 7 [(0, va_rf v0), (1, .int v1)] → W p l e R s m args below meth c H locs 0 0 (MQ below (va_Qi post (PQ D cy A) A) args s 0 0 A) (F0 m 33 ls [.int z0, va_rf z1]) := by
  intro v0 v1 z0 z1 S h H locs ls B hl
  unfold wX9_ask_33 at h
  refine gpX9_99 M B dX9_ask_33 h (fun S1 H locs h B => ?_)
  refine g_aload_n M dX9_ask_36 rfl (lv_at hl 0 rfl) ?_
  refine gfX9_99 M B dX9_ask_37 h (fun a2 h => ?_)
  refine lv_if_le (tgt := 45) M.1 M.2.1 dX9_ask_40 (by decide) (fun c3 => ?_) (fun c3 => ?_)
  · have h := h.1 c3
    refine g_aload_n M dX9_ask_45 rfl (lv_at hl 0 rfl) ?_
    refine lv_iconst (v := (-1)) M.1 M.2.1 dX9_ask_46 (by decide) ?_
    refine gpX9_75 M B dX9_ask_47 h (fun S4 H locs h B => ?_)
    refine g_aload_n M dX9_ask_50 rfl (lv_at hl 0 rfl) ?_
    obtain ⟨o1, e1, hL1, hK1, h⟩ := h
    refine g_calli (k1 := 0) (k2 := 0) B (g_runV (n := 0) (As := []) (rm := rmX9_readText) M B e1 (kX9_readText (v0 := v0) l D cy h _) wmX9_202 wiX9_readText wsX9_readText wnX9 wcdX9_readText ⟨rfl, by decide, by decide, by decide +kernel⟩ ⟨Nat.le_trans (by decide) hRf, Nat.le_trans (by decide) hRl⟩ ⟨Nat.le_trans (by decide) hRc, Nat.le_trans (by decide) hRs⟩ hL1 hK1 (by decide) rfl rfl rfl hl.1 rfl ct_0 (by decide) dX9_ask_51) (by decide) (by decide) (fun a6 S5 H locs h B => ?_)
    refine lv_if_ne (tgt := 65) M.1 M.2.1 dX9_ask_54 (by decide) (fun c7 => ?_) (fun c7 => ?_)
    · have h := h.2 c7
      refine g_aload_n M dX9_ask_65 rfl (lv_at hl 0 rfl) ?_
      refine gfX9_166 M B dX9_ask_66 h (fun a8 h => ?_)
      refine g_aload_n M dX9_ask_69 rfl (lv_at hl 0 rfl) ?_
      refine gfX9_13 M B dX9_ask_70 h (fun a9 h => ?_)
      refine lv_iload_n M.1 M.2.1 dX9_ask_73 rfl (lv_at hl 1 rfl) ?_
      refine g_iald M B dX9_ask_74 h (fun a10 h => ?_)
      refine lv_iconst (v := (-1)) M.1 M.2.1 dX9_ask_75 (by decide) ?_
      refine lv_ixor M.1 M.2.1 dX9_ask_76 ?_
      refine lv_iand M.1 M.2.1 dX9_ask_77 ?_
      refine lv_if_eq (tgt := 89) M.1 M.2.1 dX9_ask_78 (by decide) (fun c11 => ?_) (fun c11 => ?_)
      · have h := h.1 c11
        refine g_aload_n M dX9_ask_89 rfl (lv_at hl 0 rfl) ?_
        refine gfX9_102 M B dX9_ask_90 h (fun a12 h => ?_)
        refine lv_bipush (v := 8) M.1 M.2.1 dX9_ask_93 (by decide) ?_
        refine lv_icmp_ne (tgt := 103) M.1 M.2.1 dX9_ask_95 (by decide) (fun c13 => ?_) (fun c13 => ?_)
        · have h := h.2 c13
          exact tX9_ask_103 M hr hlk hRf hRl hRc hRs _ _ h _ _ _ B (lv_sub hl [0] rfl)
        · have h := h.1 c13
          refine g_aload_n M dX9_ask_98 rfl (lv_at hl 0 rfl) ?_
          refine lv_iconst (v := 4) M.1 M.2.1 dX9_ask_99 (by decide) ?_
          refine gpX9_99 M B dX9_ask_100 h (fun S14 H locs h B => ?_)
          exact tX9_ask_103 M hr hlk hRf hRl hRc hRs _ _ h _ _ _ B (lv_sub hl [0] rfl)
      · have h := h.2 c11
        refine g_aload_n M dX9_ask_81 rfl (lv_at hl 0 rfl) ?_
        refine lv_iconst (v := 3) M.1 M.2.1 dX9_ask_82 (by decide) ?_
        refine gpX9_99 M B dX9_ask_83 h (fun S15 H locs h B => ?_)
        refine lv_goto (tgt := 103) M.1 M.2.1 dX9_ask_86 (by decide) ?_
        exact tX9_ask_103 M hr hlk hRf hRl hRc hRs _ _ h _ _ _ B (lv_sub hl [0] rfl)
    · have h := h.1 c7
      refine g_aload_n M dX9_ask_57 rfl (lv_at hl 0 rfl) ?_
      refine lv_iconst (v := 2) M.1 M.2.1 dX9_ask_58 (by decide) ?_
      refine gpX9_99 M B dX9_ask_59 h (fun S16 H locs h B => ?_)
      refine lv_goto (tgt := 103) M.1 M.2.1 dX9_ask_62 (by decide) ?_
      exact tX9_ask_103 M hr hlk hRf hRl hRc hRs _ _ h _ _ _ B (lv_sub hl [0] rfl)
  · have h := h.2 c3
    refine lv_iconst (v := 0) M.1 M.2.1 dX9_ask_43 (by decide) ?_
    exact g_iret M B hr hlk h (by decide) (by decide) dX9_ask_44
set_option maxRecDepth 100000 in
set_option maxHeartbeats 4000000 in
theorem tX9_ask {post : Int32 → Pool → Prop} (M : MC p m c cX9_ask 7 s args RX9) (hr : meth.sig.returnType = (some FieldType.int)) (hlk : meth.locks = false) (hRf : 6 ≤ R.frames) (hRl : 134 ≤ R.locals) (hRc : 0 ≤ R.cells) (hRs : 0 ≤ R.slots) : ∀ (v0 : Option Nat) (v1 : Int32) (S : Pool), wX9_ask post v0 v1 S → ∀ (H : Heap) (locs : List Loc) (ls : Array Slot), PB D cy A s S H locs → lv_has ls 7 [(0, va_rf v0), (1, .int v1)] → W p l e R s m args below meth c H locs 0 0 (MQ below (va_Qi post (PQ D cy A) A) args s 0 0 A) (F0 m 0 ls []) := by
  intro v0 v1 S h H locs ls B hl
  unfold wX9_ask at h
  refine g_aload_n M dX9_ask_0 rfl (lv_at hl 0 rfl) ?_
  refine g_aload_n M dX9_ask_1 rfl (lv_at hl 0 rfl) ?_
  refine gfX9_108 M B dX9_ask_2 h (fun a1 h => ?_)
  refine gpX9_134 M B dX9_ask_5 h (fun S2 H locs h B => ?_)
  refine g_aload_n M dX9_ask_8 rfl (lv_at hl 0 rfl) ?_
  refine lv_iconst (v := 0) M.1 M.2.1 dX9_ask_9 (by decide) ?_
  refine gpX9_108 M B dX9_ask_10 h (fun S3 H locs h B => ?_)
  refine g_aload_n M dX9_ask_13 rfl (lv_at hl 0 rfl) ?_
  refine lv_iconst (v := 0) M.1 M.2.1 dX9_ask_14 (by decide) ?_
  refine gpX9_131 M B dX9_ask_15 h (fun S4 H locs h B => ?_)
  refine g_aload_n M dX9_ask_18 rfl (lv_at hl 0 rfl) ?_
  refine lv_iload_n M.1 M.2.1 dX9_ask_19 rfl (lv_at hl 1 rfl) ?_
  refine lv_iconst (v := 0) M.1 M.2.1 dX9_ask_20 (by decide) ?_
  refine lv_iconst (v := 3) M.1 M.2.1 dX9_ask_21 (by decide) ?_
  refine g_calli (k1 := 0) (k2 := 0) B (g_runS (n := 3) (As := [.int v1, .int 0, .int 3]) (rm := rmX9_isIn) M B (kX9_isIn (v0 := v1) (v1 := 0) (v2 := 3) l D cy h _) wmX9_116 wstX9_isIn wnX9 wcdX9_isIn ⟨by decide, by decide, by decide +kernel⟩ ⟨Nat.le_trans (by decide) hRf, Nat.le_trans (by decide) hRl⟩ ⟨Nat.le_trans (by decide) hRc, Nat.le_trans (by decide) hRs⟩ rfl hl.1 rfl (ct_r ct_0) (by decide) dX9_ask_22) (by decide) (by decide) (fun a6 S5 H locs h B => ?_)
  refine lv_if_ne (tgt := 32) M.1 M.2.1 dX9_ask_25 (by decide) (fun c7 => ?_) (fun c7 => ?_)
  · have h := h.2 c7
    refine lv_iconst (v := 0) M.1 M.2.1 dX9_ask_32 (by decide) ?_
    exact tX9_ask_33 M hr hlk hRf hRl hRc hRs _ _ _ _ _ h _ _ _ B (lv_sub hl [0, 1] rfl)
  · have h := h.1 c7
    refine lv_iconst (v := 1) M.1 M.2.1 dX9_ask_28 (by decide) ?_
    refine lv_goto (tgt := 33) M.1 M.2.1 dX9_ask_29 (by decide) ?_
    exact tX9_ask_33 M hr hlk hRf hRl hRc hRs _ _ _ _ _ h _ _ _ B (lv_sub hl [0, 1] rfl)
end
set_option maxRecDepth 100000 in
set_option maxHeartbeats 4000000 in
theorem kX9_ask (l : Launch) (D : va_G) (cy : Nat → ClassId) {post : Int32 → Pool → Prop} {v0 : Option Nat} {v1 : Int32} {S : Pool} (h : wX9_ask post v0 v1 S) : MetI l yX9_ask cX9_ask 7 (some FieldType.int) rmX9_ask [va_rf v0, .int v1] D cy S post := by
  intro sz
  refine Met.ofW (cc := cX9_ask) (maxL := 7) (ret := (some FieldType.int)) (by decide) rfl ?_
  intro p e s m args below meth c s₁ B0 hml hv
  obtain ⟨rfl, hpp⟩ := hv
  have hts := atoms_spec (ws := .code yX9_ask cX9_ask 7 (some FieldType.int) :: Gw) B0.pre
  obtain rfl : s.heap.size = sz := hpp.1
  have hl := lv_entry [va_rf v0, .int v1] (n := 7) (by rw [sl_r, sl_i, sl_0]; decide)
  rw [lg_entry_eq]
  rw [la_r, la_i, la_0] at hl
  exact tX9_ask (l := l) (R := rmX9_ask) ⟨B0.exec, B0.bytes, hml, findClass_of_methodNamed B0.named, fun w hw => hts w (List.mem_cons_of_mem _ hw)⟩ B0.returns B0.notSynchronized (Nat.le_refl _) (Nat.le_refl _) (Nat.le_refl _) (Nat.le_refl _) _ _ _ h _ _ _ hpp.pb (lv_sub hl [0, 1] rfl)
